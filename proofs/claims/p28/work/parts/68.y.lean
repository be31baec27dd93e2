section
theorem run_iiii {ρ : Type} {d : ρ} {b : (Int32 → Int32 → Int32 → Int32 → ρ) → Int32 → Int32 → Int32 → Int32 → ρ} {Q : ρ → Prop} (n : Nat) (P : Nat → Int32 → Int32 → Int32 → Int32 → Prop) (hs : ∀ (G : Int32 → Int32 → Int32 → Int32 → ρ) (k : Nat) (x0 : Int32) (x1 : Int32) (x2 : Int32) (x3 : Int32), k ≤ n → P k x0 x1 x2 x3 → (k < n ∧ ∃ (x0' : Int32) (x1' : Int32) (x2' : Int32) (x3' : Int32), b G x0 x1 x2 x3 = G x0' x1' x2' x3' ∧ P (k + 1) x0' x1' x2' x3') ∨ Q (b G x0 x1 x2 x3)) : ∀ (m k : Nat) (x0 : Int32) (x1 : Int32) (x2 : Int32) (x3 : Int32), P k x0 x1 x2 x3 → k ≤ n → n - k < m → Q (itr_iiii d b m x0 x1 x2 x3) := by
  intro m
  induction m with
  | zero => intro k x0 x1 x2 x3 _ _ h; omega
  | succ m ih =>
    intro k x0 x1 x2 x3 hP hk hm
    show Q (b (itr_iiii d b m) x0 x1 x2 x3)
    rcases hs (itr_iiii d b m) k x0 x1 x2 x3 hk hP with ⟨h1, x0', x1', x2', x3', e, h2⟩ | h1
    · rw [e]; exact ih (k + 1) x0' x1' x2' x3' h2 (by omega) (by omega)
    · exact h1
/-- sum, least and greatest of the first n -/
def sI (g : Nat → Int) : Nat → Int
  | 0 => 0
  | k + 1 => sI g k + g k
def mnG (g : Nat → Int) : Nat → Int
  | 0 => g 0
  | k + 1 => if g k < mnG g k then g k else mnG g k
def mxI (g : Nat → Int) : Nat → Int
  | 0 => g 0
  | k + 1 => if mxI g k < g k then g k else mxI g k
/-- a row at its LEVEL -/
def lvS (k : Int) (n : Nat) (g : Nat → Int) (i : Nat) : Int := if k = 1 then g i - sI g n / (n : Int) else if k = 2 then g i - g 0 else if k = 3 then (if mxI g n = mnG g n then 0 else 1000 * (g i - mnG g n) / (mxI g n - mnG g n)) else g i
def raw (n : Nat) (g : Nat → Int) : Prop := ∀ i, i < n → -999 ≤ g i ∧ g i ≤ 999
theorem sI_b {g : Nat → Int} {n : Nat} (h : raw n g) : ∀ k, k ≤ n → -999 * (k : Int) ≤ sI g k ∧ sI g k ≤ 999 * (k : Int) := by
  intro k
  induction k with
  | zero => intro _; exact ⟨Int.le_refl 0, Int.le_refl 0⟩
  | succ k ih =>
    intro hk
    have := ih (by omega)
    have := h k (by omega)
    show -999 * ((k + 1 : Nat) : Int) ≤ sI g k + g k ∧ sI g k + g k ≤ 999 * ((k + 1 : Nat) : Int)
    omega
theorem mI_b {g : Nat → Int} {n : Nat} (h : raw n g) (hn : 1 ≤ n) : ∀ k, k ≤ n → (-999 ≤ mnG g k ∧ mnG g k ≤ mxI g k ∧ mxI g k ≤ 999) ∧ ∀ i, i < k → mnG g k ≤ g i ∧ g i ≤ mxI g k := by
  intro k
  induction k with
  | zero =>
    intro _
    have := h 0 (by omega)
    exact ⟨⟨this.1, Int.le_refl _, this.2⟩, fun i hi => by omega⟩
  | succ k ih =>
    intro hk
    obtain ⟨a, b⟩ := ih (by omega)
    have c := h k (by omega)
    have e1 : mnG g (k + 1) = if g k < mnG g k then g k else mnG g k := rfl
    have e2 : mxI g (k + 1) = if mxI g k < g k then g k else mxI g k := rfl
    rw [e1, e2]
    refine ⟨by split <;> (try split) <;> omega, fun i hi => ?_⟩
    by_cases ei : i = k
    · subst ei; split <;> (try split) <;> omega
    · have := b i (by omega)
      split <;> (try split) <;> omega
theorem mean_b {g : Nat → Int} {n : Nat} (h : raw n g) (hn : 1 ≤ n) : -999 ≤ sI g n / (n : Int) ∧ sI g n / (n : Int) ≤ 999 := by
  have b := sI_b h n (Nat.le_refl n)
  have p : (0 : Int) < (n : Int) := by omega
  have k1 : -999 ≤ sI g n / (n : Int) := (Int.le_ediv_iff_mul_le p).mpr (by omega)
  have k2 : sI g n / (n : Int) < 1000 := (Int.ediv_lt_iff_lt_mul p).mpr (by omega)
  omega
theorem spr_b {a m : Int} (h : 0 ≤ a) (h2 : a ≤ m) (h3 : 0 < m) : 0 ≤ 1000 * a / m ∧ 1000 * a / m ≤ 1000 := by
  have k1 : 0 ≤ 1000 * a / m := (Int.le_ediv_iff_mul_le h3).mpr (by omega)
  have k2 : 1000 * a / m < 1001 := (Int.ediv_lt_iff_lt_mul h3).mpr (by omega)
  omega
theorem lvS_b {k : Int} {g : Nat → Int} {n i : Nat} (h : raw n g) (hi : i < n) : -1998 ≤ lvS k n g i ∧ lvS k n g i ≤ 1998 := by
  have a := h i hi
  have a0 := h 0 (by omega)
  have m := mean_b h (by omega)
  obtain ⟨b, c⟩ := mI_b h (by omega) n (Nat.le_refl n)
  have ci := c i hi
  unfold lvS
  split
  · omega
  · split
    · omega
    · split
      · split
        · omega
        · have := spr_b (a := g i - mnG g n) (m := mxI g n - mnG g n) (by omega) (by omega) (by omega)
          omega
      · omega
theorem x_sumL21 {I : Nat → Int32} {A : Nat → Nat → Int32} {n : Nat} {g : Nat → Int} (h30 : (I 30).toInt = (n : Int)) (hn : n ≤ 16) (hr : raw n g) (hg : ∀ i, i < n → (A 21 i).toInt = g i) : (fX2_sumOf I A).toInt = sI g n := by
  unfold fX2_sumOf
  refine run_ii (Q := fun (v : Int32) => v.toInt = sI g n) n (fun j x b => x.toInt = (j : Int) ∧ b.toInt = sI g j) (fun G j x b hj hP => ?_) FU 0 0 0 ⟨rfl, rfl⟩ (by omega) (fu_lt (by omega))
  obtain ⟨hx, hb⟩ := hP
  unfold bX2_sumOf_4
  dsimp only [f_lt]
  by_cases c : (I 30).toInt ≤ x.toInt
  · rw [if_pos c]; right; rw [hb, show j = n by omega]
  · rw [if_neg c, clN hx]
    left
    refine ⟨by omega, _, _, rfl, i_s hx (by omega), ?_⟩
    have b1 := sI_b hr j (by omega)
    have b2 := hr j (by omega)
    exact i32_add (x := b) (y := A 21 j) rfl hb (hg j (by omega)) (by omega) (by omega)
theorem x_less21 {I : Nat → Int32} {A : Nat → Nat → Int32} {n : Nat} {g : Nat → Int} {z : Int32} {d : Int} (h30 : (I 30).toInt = (n : Int)) (hn : n ≤ 16) (hr : raw n g) (hg : ∀ i, i < n → (A 21 i).toInt = g i) (hz : z.toInt = d) (hd : -999 ≤ d ∧ d ≤ 999) : ∃ A' : Nat → Nat → Int32, fX2_lessenAll I A z = (0, I, A') ∧ Md [21] A A' ∧ ∀ i, i < n → (A' 21 i).toInt = g i - d := by
  unfold fX2_lessenAll
  refine run_iIA (Q := fun r => ∃ A' : Nat → Nat → Int32, r = (0, I, A') ∧ Md [21] A A' ∧ ∀ i, i < n → (A' 21 i).toInt = g i - d) n (fun j x I1 A1 => x.toInt = (j : Int) ∧ I1 = I ∧ Md [21] A A1 ∧ (∀ i, i < j → (A1 21 i).toInt = g i - d) ∧ ∀ i, j ≤ i → A1 21 i = A 21 i) (fun G j x I1 A1 hj hP => ?_) FU 0 0 I A ⟨rfl, rfl, Md.rf, fun i hi => by omega, fun i hi => rfl⟩ (by omega) (fu_lt (by omega))
  obtain ⟨hx, eI, mA, h1, h2⟩ := hP
  unfold bX2_lessenAll_2
  dsimp only [f_lt]
  by_cases c : (I 30).toInt ≤ x.toInt
  · rw [if_pos c, eI]; right; exact ⟨A1, rfl, mA, fun i hi => h1 i (by omega)⟩
  · rw [if_neg c, clN hx]
    left
    refine ⟨by omega, _, _, _, rfl, i_s hx (by omega), eI, Md.up3 mA rfl, fun i hi => ?_, fun i hi => ?_⟩
    · by_cases e : i = j
      · have b2 := hr j (by omega)
        rw [up3_at e, e, h2 j (Nat.le_refl j)]
        exact i32_sub (x := A 21 j) (y := z) rfl (hg j (by omega)) hz (by omega) (by omega)
      · rw [up3_ne e]; exact h1 i (by omega)
    · rw [up3_ne (by omega)]; exact h2 i (by omega)
theorem x_spread21 {I : Nat → Int32} {A : Nat → Nat → Int32} {n : Nat} {g : Nat → Int} (h30 : (I 30).toInt = (n : Int)) (hn1 : 1 ≤ n) (hn : n ≤ 16) (hr : raw n g) (hg : ∀ i, i < n → (A 21 i).toInt = g i) : ∃ A' : Nat → Nat → Int32, fX2_spreadAll I A = (0, I, A') ∧ Md [21] A A' ∧ ∀ i, i < n → (A' 21 i).toInt = if mxI g n = mnG g n then 0 else 1000 * (g i - mnG g n) / (mxI g n - mnG g n) := by
  have g0 := hg 0 (by omega)
  unfold fX2_spreadAll
  refine run_iii (Q := fun r => ∃ A' : Nat → Nat → Int32, r = (0, I, A') ∧ Md [21] A A' ∧ ∀ i, i < n → (A' 21 i).toInt = if mxI g n = mnG g n then 0 else 1000 * (g i - mnG g n) / (mxI g n - mnG g n)) (n - 1) (fun j x p q => x.toInt = ((j + 1 : Nat) : Int) ∧ p.toInt = mxI g (j + 1) ∧ q.toInt = mnG g (j + 1)) (fun G j x p q hj hP => ?_) FU 0 1 _ _ ⟨rfl, by rw [g0]; show g 0 = if g 0 < g 0 then g 0 else g 0; rw [if_neg (by omega)], by rw [g0]; show g 0 = if g 0 < g 0 then g 0 else g 0; rw [if_neg (by omega)]⟩ (by omega) (fu_lt (by omega))
  obtain ⟨hx, hp, hq⟩ := hP
  obtain ⟨mb, mc⟩ := mI_b hr hn1 (j + 1) (by omega)
  unfold bX2_spreadAll_11
  simp only [f_lt_eq]
  by_cases c : (I 30).toInt ≤ x.toInt
  · rw [if_pos c]
    right
    have ej : j + 1 = n := by omega
    rw [ej] at hp hq mb mc
    have hs := i32_sub (x := p) (y := q) rfl hp hq (by omega) (by omega)
    refine run_iIA (Q := fun r => ∃ A' : Nat → Nat → Int32, r = (0, I, A') ∧ Md [21] A A' ∧ ∀ i, i < n → (A' 21 i).toInt = if mxI g n = mnG g n then 0 else 1000 * (g i - mnG g n) / (mxI g n - mnG g n)) n (fun j x I1 A1 => x.toInt = (j : Int) ∧ I1 = I ∧ Md [21] A A1 ∧ (∀ i, i < j → (A1 21 i).toInt = if mxI g n = mnG g n then 0 else 1000 * (g i - mnG g n) / (mxI g n - mnG g n)) ∧ ∀ i, j ≤ i → A1 21 i = A 21 i) (fun G2 j2 x2 I1 A1 hj2 hP2 => ?_) FU 0 0 I A ⟨rfl, rfl, Md.rf, fun i hi => by omega, fun i hi => rfl⟩ (by omega) (fu_lt (by omega))
    obtain ⟨hx2, eI, mA, h1, h2⟩ := hP2
    unfold bX2_spreadAll_52
    dsimp only [f_lt]
    by_cases c2 : (I 30).toInt ≤ x2.toInt
    · rw [if_pos c2, eI]; right; exact ⟨A1, rfl, mA, fun i hi => h1 i (by omega)⟩
    · rw [if_neg c2, clN hx2]
      left
      refine ⟨by omega, ?_⟩
      have gj := hg j2 (by omega)
      have mj := mc j2 (by omega)
      rw [h2 j2 (Nat.le_refl j2)]
      by_cases c3 : (p - q).toInt = 0
      · rw [if_neg (fun h9 => h9 c3)]
        refine ⟨_, _, _, rfl, i_s hx2 (by omega), eI, Md.up3 mA rfl, fun i hi => ?_, fun i hi => ?_⟩
        · by_cases e : i = j2
          · rw [up3_at e, if_pos (by omega)]; rfl
          · rw [up3_ne e]; exact h1 i (by omega)
        · rw [up3_ne (by omega)]; exact h2 i (by omega)
      · rw [if_pos c3]
        have e1 := i32_sub (x := A 21 j2) (y := q) rfl gj hq (by omega) (by omega)
        have e2 := i32_mul (x := 1000) (y := A 21 j2 - q) (a := 1000) rfl rfl e1 (by omega) (by omega)
        have dv := (dv3 (x := 1000 * (A 21 j2 - q)) (y := p - q) (by omega)).2
        have e3 : (1000 * (A 21 j2 - q) / (p - q)).toInt = 1000 * (g j2 - mnG g n) / (mxI g n - mnG g n) := by
          rcases dv with ⟨-, d, -⟩ | ⟨d, -⟩ | ⟨d, -⟩
          · rw [d, e2, hs]
          · omega
          · omega
        refine ⟨_, _, _, rfl, i_s hx2 (by omega), eI, Md.up3 mA rfl, fun i hi => ?_, fun i hi => ?_⟩
        · by_cases e : i = j2
          · rw [up3_at e, if_neg (by omega), e]; exact e3
          · rw [up3_ne e]; exact h1 i (by omega)
        · rw [up3_ne (by omega)]; exact h2 i (by omega)
  · rw [if_neg c, clN hx]
    left
    have gj := hg (j + 1) (by omega)
    refine ⟨by omega, _, _, _, rfl, i_s hx (by omega), ?_, ?_⟩
    · have m := i32_max (x := p) (y := A 21 (j + 1)) rfl
      have e : mxI g (j + 1 + 1) = if mxI g (j + 1) < g (j + 1) then g (j + 1) else mxI g (j + 1) := rfl
      rw [e]
      rcases m with ⟨m1, m2⟩ | ⟨m1, m2⟩ <;> rw [m1] <;> split <;> omega
    · have m := i32_min (x := q) (y := A 21 (j + 1)) rfl
      have e : mnG g (j + 1 + 1) = if g (j + 1) < mnG g (j + 1) then g (j + 1) else mnG g (j + 1) := rfl
      rw [e]
      rcases m with ⟨m1, m2⟩ | ⟨m1, m2⟩ <;> rw [m1] <;> split <;> omega
theorem x_level21 {I : Nat → Int32} {A : Nat → Nat → Int32} {n : Nat} {g : Nat → Int} {z : Int32} {k : Int} (h30 : (I 30).toInt = (n : Int)) (hn1 : 1 ≤ n) (hn : n ≤ 16) (hr : raw n g) (hg : ∀ i, i < n → (A 21 i).toInt = g i) (hz : z.toInt = k) : ∃ A' : Nat → Nat → Int32, fX2_bringToLevel I A z = (0, I, A') ∧ Md [21] A A' ∧ ∀ i, i < n → (A' 21 i).toInt = lvS k n g i := by
  unfold fX2_bringToLevel lvS
  simp only [f_lt_eq]
  by_cases c1 : k = 1
  · rw [if_neg (by omega)]
    have f := fdX (I := I) (A := A) (x := fX2_sumOf I A) (y := I 30) (by omega)
    rw [x_sumL21 h30 hn hr hg, h30] at f
    obtain ⟨A', e, m, h⟩ := x_less21 (z := fX_floorDiv I A (fX2_sumOf I A) (I 30)) h30 hn hr hg f (mean_b hr hn1)
    rw [e, bdX_mk]
    exact ⟨A', rfl, m, fun i hi => by rw [if_pos c1]; exact h i hi⟩
  · rw [if_pos (by omega)]
    by_cases c2 : k = 2
    · rw [if_neg (by omega)]
      obtain ⟨A', e, m, h⟩ := x_less21 (z := A 21 0) h30 hn hr hg (hg 0 (by omega)) (hr 0 (by omega))
      rw [e, bdX_mk]
      exact ⟨A', rfl, m, fun i hi => by rw [if_neg c1, if_pos c2]; exact h i hi⟩
    · rw [if_pos (by omega)]
      by_cases c3 : k = 3
      · rw [if_neg (by omega)]
        obtain ⟨A', e, m, h⟩ := x_spread21 h30 hn1 hn hr hg
        rw [e, bdX_mk]
        exact ⟨A', rfl, m, fun i hi => by rw [if_neg c1, if_neg c2, if_pos c3]; exact h i hi⟩
      · rw [if_pos (by omega)]
        exact ⟨A, rfl, Md.rf, fun i hi => by rw [if_neg c1, if_neg c2, if_neg c3]; exact hg i hi⟩
theorem x_sumL22 {I : Nat → Int32} {A : Nat → Nat → Int32} {n : Nat} {g : Nat → Int} (h30 : (I 30).toInt = (n : Int)) (hn : n ≤ 16) (hr : raw n g) (hg : ∀ i, i < n → (A 22 i).toInt = g i) : (fX2_sumOf_2 I A).toInt = sI g n := by
  unfold fX2_sumOf_2
  refine run_ii (Q := fun (v : Int32) => v.toInt = sI g n) n (fun j x b => x.toInt = (j : Int) ∧ b.toInt = sI g j) (fun G j x b hj hP => ?_) FU 0 0 0 ⟨rfl, rfl⟩ (by omega) (fu_lt (by omega))
  obtain ⟨hx, hb⟩ := hP
  unfold bX2_sumOf_2_4
  dsimp only [f_lt]
  by_cases c : (I 30).toInt ≤ x.toInt
  · rw [if_pos c]; right; rw [hb, show j = n by omega]
  · rw [if_neg c, clN hx]
    left
    refine ⟨by omega, _, _, rfl, i_s hx (by omega), ?_⟩
    have b1 := sI_b hr j (by omega)
    have b2 := hr j (by omega)
    exact i32_add (x := b) (y := A 22 j) rfl hb (hg j (by omega)) (by omega) (by omega)
theorem x_less22 {I : Nat → Int32} {A : Nat → Nat → Int32} {n : Nat} {g : Nat → Int} {z : Int32} {d : Int} (h30 : (I 30).toInt = (n : Int)) (hn : n ≤ 16) (hr : raw n g) (hg : ∀ i, i < n → (A 22 i).toInt = g i) (hz : z.toInt = d) (hd : -999 ≤ d ∧ d ≤ 999) : ∃ A' : Nat → Nat → Int32, fX2_lessenAll_2 I A z = (0, I, A') ∧ Md [22] A A' ∧ ∀ i, i < n → (A' 22 i).toInt = g i - d := by
  unfold fX2_lessenAll_2
  refine run_iIA (Q := fun r => ∃ A' : Nat → Nat → Int32, r = (0, I, A') ∧ Md [22] A A' ∧ ∀ i, i < n → (A' 22 i).toInt = g i - d) n (fun j x I1 A1 => x.toInt = (j : Int) ∧ I1 = I ∧ Md [22] A A1 ∧ (∀ i, i < j → (A1 22 i).toInt = g i - d) ∧ ∀ i, j ≤ i → A1 22 i = A 22 i) (fun G j x I1 A1 hj hP => ?_) FU 0 0 I A ⟨rfl, rfl, Md.rf, fun i hi => by omega, fun i hi => rfl⟩ (by omega) (fu_lt (by omega))
  obtain ⟨hx, eI, mA, h1, h2⟩ := hP
  unfold bX2_lessenAll_2_2
  dsimp only [f_lt]
  by_cases c : (I 30).toInt ≤ x.toInt
  · rw [if_pos c, eI]; right; exact ⟨A1, rfl, mA, fun i hi => h1 i (by omega)⟩
  · rw [if_neg c, clN hx]
    left
    refine ⟨by omega, _, _, _, rfl, i_s hx (by omega), eI, Md.up3 mA rfl, fun i hi => ?_, fun i hi => ?_⟩
    · by_cases e : i = j
      · have b2 := hr j (by omega)
        rw [up3_at e, e, h2 j (Nat.le_refl j)]
        exact i32_sub (x := A 22 j) (y := z) rfl (hg j (by omega)) hz (by omega) (by omega)
      · rw [up3_ne e]; exact h1 i (by omega)
    · rw [up3_ne (by omega)]; exact h2 i (by omega)
theorem x_spread22 {I : Nat → Int32} {A : Nat → Nat → Int32} {n : Nat} {g : Nat → Int} (h30 : (I 30).toInt = (n : Int)) (hn1 : 1 ≤ n) (hn : n ≤ 16) (hr : raw n g) (hg : ∀ i, i < n → (A 22 i).toInt = g i) : ∃ A' : Nat → Nat → Int32, fX2_spreadAll_2 I A = (0, I, A') ∧ Md [22] A A' ∧ ∀ i, i < n → (A' 22 i).toInt = if mxI g n = mnG g n then 0 else 1000 * (g i - mnG g n) / (mxI g n - mnG g n) := by
  have g0 := hg 0 (by omega)
  unfold fX2_spreadAll_2
  refine run_iii (Q := fun r => ∃ A' : Nat → Nat → Int32, r = (0, I, A') ∧ Md [22] A A' ∧ ∀ i, i < n → (A' 22 i).toInt = if mxI g n = mnG g n then 0 else 1000 * (g i - mnG g n) / (mxI g n - mnG g n)) (n - 1) (fun j x p q => x.toInt = ((j + 1 : Nat) : Int) ∧ p.toInt = mxI g (j + 1) ∧ q.toInt = mnG g (j + 1)) (fun G j x p q hj hP => ?_) FU 0 1 _ _ ⟨rfl, by rw [g0]; show g 0 = if g 0 < g 0 then g 0 else g 0; rw [if_neg (by omega)], by rw [g0]; show g 0 = if g 0 < g 0 then g 0 else g 0; rw [if_neg (by omega)]⟩ (by omega) (fu_lt (by omega))
  obtain ⟨hx, hp, hq⟩ := hP
  obtain ⟨mb, mc⟩ := mI_b hr hn1 (j + 1) (by omega)
  unfold bX2_spreadAll_2_11
  simp only [f_lt_eq]
  by_cases c : (I 30).toInt ≤ x.toInt
  · rw [if_pos c]
    right
    have ej : j + 1 = n := by omega
    rw [ej] at hp hq mb mc
    have hs := i32_sub (x := p) (y := q) rfl hp hq (by omega) (by omega)
    refine run_iIA (Q := fun r => ∃ A' : Nat → Nat → Int32, r = (0, I, A') ∧ Md [22] A A' ∧ ∀ i, i < n → (A' 22 i).toInt = if mxI g n = mnG g n then 0 else 1000 * (g i - mnG g n) / (mxI g n - mnG g n)) n (fun j x I1 A1 => x.toInt = (j : Int) ∧ I1 = I ∧ Md [22] A A1 ∧ (∀ i, i < j → (A1 22 i).toInt = if mxI g n = mnG g n then 0 else 1000 * (g i - mnG g n) / (mxI g n - mnG g n)) ∧ ∀ i, j ≤ i → A1 22 i = A 22 i) (fun G2 j2 x2 I1 A1 hj2 hP2 => ?_) FU 0 0 I A ⟨rfl, rfl, Md.rf, fun i hi => by omega, fun i hi => rfl⟩ (by omega) (fu_lt (by omega))
    obtain ⟨hx2, eI, mA, h1, h2⟩ := hP2
    unfold bX2_spreadAll_2_52
    dsimp only [f_lt]
    by_cases c2 : (I 30).toInt ≤ x2.toInt
    · rw [if_pos c2, eI]; right; exact ⟨A1, rfl, mA, fun i hi => h1 i (by omega)⟩
    · rw [if_neg c2, clN hx2]
      left
      refine ⟨by omega, ?_⟩
      have gj := hg j2 (by omega)
      have mj := mc j2 (by omega)
      rw [h2 j2 (Nat.le_refl j2)]
      by_cases c3 : (p - q).toInt = 0
      · rw [if_neg (fun h9 => h9 c3)]
        refine ⟨_, _, _, rfl, i_s hx2 (by omega), eI, Md.up3 mA rfl, fun i hi => ?_, fun i hi => ?_⟩
        · by_cases e : i = j2
          · rw [up3_at e, if_pos (by omega)]; rfl
          · rw [up3_ne e]; exact h1 i (by omega)
        · rw [up3_ne (by omega)]; exact h2 i (by omega)
      · rw [if_pos c3]
        have e1 := i32_sub (x := A 22 j2) (y := q) rfl gj hq (by omega) (by omega)
        have e2 := i32_mul (x := 1000) (y := A 22 j2 - q) (a := 1000) rfl rfl e1 (by omega) (by omega)
        have dv := (dv3 (x := 1000 * (A 22 j2 - q)) (y := p - q) (by omega)).2
        have e3 : (1000 * (A 22 j2 - q) / (p - q)).toInt = 1000 * (g j2 - mnG g n) / (mxI g n - mnG g n) := by
          rcases dv with ⟨-, d, -⟩ | ⟨d, -⟩ | ⟨d, -⟩
          · rw [d, e2, hs]
          · omega
          · omega
        refine ⟨_, _, _, rfl, i_s hx2 (by omega), eI, Md.up3 mA rfl, fun i hi => ?_, fun i hi => ?_⟩
        · by_cases e : i = j2
          · rw [up3_at e, if_neg (by omega), e]; exact e3
          · rw [up3_ne e]; exact h1 i (by omega)
        · rw [up3_ne (by omega)]; exact h2 i (by omega)
  · rw [if_neg c, clN hx]
    left
    have gj := hg (j + 1) (by omega)
    refine ⟨by omega, _, _, _, rfl, i_s hx (by omega), ?_, ?_⟩
    · have m := i32_max (x := p) (y := A 22 (j + 1)) rfl
      have e : mxI g (j + 1 + 1) = if mxI g (j + 1) < g (j + 1) then g (j + 1) else mxI g (j + 1) := rfl
      rw [e]
      rcases m with ⟨m1, m2⟩ | ⟨m1, m2⟩ <;> rw [m1] <;> split <;> omega
    · have m := i32_min (x := q) (y := A 22 (j + 1)) rfl
      have e : mnG g (j + 1 + 1) = if g (j + 1) < mnG g (j + 1) then g (j + 1) else mnG g (j + 1) := rfl
      rw [e]
      rcases m with ⟨m1, m2⟩ | ⟨m1, m2⟩ <;> rw [m1] <;> split <;> omega
theorem x_level22 {I : Nat → Int32} {A : Nat → Nat → Int32} {n : Nat} {g : Nat → Int} {z : Int32} {k : Int} (h30 : (I 30).toInt = (n : Int)) (hn1 : 1 ≤ n) (hn : n ≤ 16) (hr : raw n g) (hg : ∀ i, i < n → (A 22 i).toInt = g i) (hz : z.toInt = k) : ∃ A' : Nat → Nat → Int32, fX2_bringToLevel_2 I A z = (0, I, A') ∧ Md [22] A A' ∧ ∀ i, i < n → (A' 22 i).toInt = lvS k n g i := by
  unfold fX2_bringToLevel_2 lvS
  simp only [f_lt_eq]
  by_cases c1 : k = 1
  · rw [if_neg (by omega)]
    have f := fdX (I := I) (A := A) (x := fX2_sumOf_2 I A) (y := I 30) (by omega)
    rw [x_sumL22 h30 hn hr hg, h30] at f
    obtain ⟨A', e, m, h⟩ := x_less22 (z := fX_floorDiv I A (fX2_sumOf_2 I A) (I 30)) h30 hn hr hg f (mean_b hr hn1)
    rw [e, bdX_mk]
    exact ⟨A', rfl, m, fun i hi => by rw [if_pos c1]; exact h i hi⟩
  · rw [if_pos (by omega)]
    by_cases c2 : k = 2
    · rw [if_neg (by omega)]
      obtain ⟨A', e, m, h⟩ := x_less22 (z := A 22 0) h30 hn hr hg (hg 0 (by omega)) (hr 0 (by omega))
      rw [e, bdX_mk]
      exact ⟨A', rfl, m, fun i hi => by rw [if_neg c1, if_pos c2]; exact h i hi⟩
    · rw [if_pos (by omega)]
      by_cases c3 : k = 3
      · rw [if_neg (by omega)]
        obtain ⟨A', e, m, h⟩ := x_spread22 h30 hn1 hn hr hg
        rw [e, bdX_mk]
        exact ⟨A', rfl, m, fun i hi => by rw [if_neg c1, if_neg c2, if_pos c3]; exact h i hi⟩
      · rw [if_pos (by omega)]
        exact ⟨A, rfl, Md.rf, fun i hi => by rw [if_neg c1, if_neg c2, if_neg c3]; exact hg i hi⟩
theorem m_level {J : Nat → Int32} {B : Nat → Nat → Int32} {L : Nat → Nat → Int64} {n : Nat} {g : Nat → Int} {z : Int32} {k : Int} (hz : z.toInt = (n : Int)) (hn1 : 1 ≤ n) (hn : n ≤ 16) (hr : raw n g) (hg : ∀ i, i < n → (B 19 i).toInt = g i) (hk : (B 18 162).toInt = k) (hk0 : 0 ≤ k) (hk3 : k ≤ 3) : ∃ B' : Nat → Nat → Int32, fM12_levelsFirst J B L z = (0, J, B', L) ∧ Md [19] B B' ∧ (∀ i, i < n → (B' 19 i).toInt = lvS k n g i) ∧ ∀ i, n ≤ i → B' 19 i = B 19 i := by
  have g0 := hg 0 (by omega)
  unfold fM12_levelsFirst
  refine run_iiii (Q := fun r => ∃ B' : Nat → Nat → Int32, r = (0, J, B', L) ∧ Md [19] B B' ∧ (∀ i, i < n → (B' 19 i).toInt = lvS k n g i) ∧ ∀ i, n ≤ i → B' 19 i = B 19 i) n (fun j x p q s => x.toInt = (j : Int) ∧ p.toInt = mxI g j ∧ q.toInt = mnG g j ∧ s.toInt = sI g j) (fun G j x p q s hj hP => ?_) FU 0 0 _ _ 0 ⟨rfl, g0, g0, rfl⟩ (by omega) (fu_lt (by omega))
  obtain ⟨hx, hp, hq, hs⟩ := hP
  obtain ⟨mb, mc⟩ := mI_b hr hn1 j hj
  unfold bM12_levelsFirst_28
  simp only [f_lt_eq]
  by_cases c : z.toInt ≤ x.toInt
  · rw [if_pos c]
    right
    have ej : j = n := by omega
    subst ej
    have f := fdM (J := J) (B := B) (L := L) (x := s) (y := z) (by omega)
    rw [hs, hz] at f
    have me := mean_b hr hn1
    have hd := i32_sub (x := p) (y := q) rfl hp hq (by omega) (by omega)
    refine run_iIAL (Q := fun r => ∃ B' : Nat → Nat → Int32, r = (0, J, B', L) ∧ Md [19] B B' ∧ (∀ i, i < j → (B' 19 i).toInt = lvS k j g i) ∧ ∀ i, j ≤ i → B' 19 i = B 19 i) j (fun j2 x2 J1 B1 L1 => x2.toInt = (j2 : Int) ∧ J1 = J ∧ L1 = L ∧ Md [19] B B1 ∧ (∀ i, i < j2 → (B1 19 i).toInt = lvS k j g i) ∧ ∀ i, j2 ≤ i → B1 19 i = B 19 i) (fun G2 j2 x2 J1 B1 L1 hj2 hP2 => ?_) FU 0 0 J B L ⟨rfl, rfl, rfl, Md.rf, fun i hi => by omega, fun i hi => rfl⟩ (by omega) (fu_lt (by omega))
    obtain ⟨hx2, eJ, eL, mB, h1, h2⟩ := hP2
    unfold bM12_levelsFirst_100
    dsimp only [f_lt]
    by_cases c2 : z.toInt ≤ x2.toInt
    · rw [if_pos c2, eJ, eL]
      right; exact ⟨B1, rfl, mB, fun i hi => h1 i (by omega), fun i hi => h2 i (by omega)⟩
    · rw [if_neg c2, clN hx2, hk]
      left
      refine ⟨by omega, ?_⟩
      have gj := hg j2 (by omega)
      have gb := hr j2 (by omega)
      have gb0 := hr 0 (by omega)
      have mj := mc j2 (by omega)
      have put : ∀ v : Int32, v.toInt = lvS k j g j2 → (x2 + Int32.ofInt 1).toInt = ((j2 + 1 : Nat) : Int) ∧ J1 = J ∧ L1 = L ∧ Md [19] B (up3 B1 19 j2 v) ∧ (∀ i, i < j2 + 1 → (up3 B1 19 j2 v 19 i).toInt = lvS k j g i) ∧ ∀ i, j2 + 1 ≤ i → up3 B1 19 j2 v 19 i = B 19 i := fun v hv => by
        refine ⟨i_s hx2 (by omega), eJ, eL, Md.up3 mB rfl, fun i hi => ?_, fun i hi => ?_⟩
        · by_cases e : i = j2
          · rw [up3_at e, e]; exact hv
          · rw [up3_ne e]; exact h1 i (by omega)
        · rw [up3_ne (by omega)]; exact h2 i (by omega)
      rw [h2 j2 (Nat.le_refl j2)]
      by_cases k0 : k = 0
      · rw [if_pos k0]
        refine ⟨_, _, _, _, rfl, i_s hx2 (by omega), eJ, eL, mB, fun i hi => ?_, fun i hi => h2 i (by omega)⟩
        by_cases e : i = j2
        · rw [e, h2 j2 (Nat.le_refl j2), gj]
          unfold lvS
          rw [if_neg (by omega), if_neg (by omega), if_neg (by omega)]
        · exact h1 i (by omega)
      · rw [if_neg k0]
        by_cases k1 : k = 1
        · rw [if_pos k1]
          refine ⟨_, _, _, _, rfl, put _ ?_⟩
          unfold lvS
          rw [if_pos k1]
          exact i32_sub (x := B 19 j2) (y := fM12_downBy J B L s z) rfl gj f (by omega) (by omega)
        · rw [if_neg k1]
          by_cases k2 : k = 2
          · rw [if_pos k2]
            refine ⟨_, _, _, _, rfl, put _ ?_⟩
            unfold lvS
            rw [if_neg k1, if_pos k2]
            exact i32_sub (x := B 19 j2) (y := B 19 0) rfl gj g0 (by omega) (by omega)
          · rw [if_neg k2]
            have k3 : k = 3 := by omega
            by_cases c3 : p.toInt = q.toInt
            · rw [if_neg (fun h9 => h9 c3)]
              refine ⟨_, _, _, _, rfl, put _ ?_⟩
              unfold lvS
              rw [if_neg k1, if_neg k2, if_pos k3, if_pos (by omega)]; rfl
            · rw [if_pos c3]
              refine ⟨_, _, _, _, rfl, put _ ?_⟩
              have e1 := i32_sub (x := B 19 j2) (y := q) rfl gj hq (by omega) (by omega)
              have e2 := i32_mul (x := 1000) (y := B 19 j2 - q) (a := 1000) rfl rfl e1 (by omega) (by omega)
              have dv := (dv3 (x := 1000 * (B 19 j2 - q)) (y := p - q) (by omega)).2
              unfold lvS
              rw [if_neg k1, if_neg k2, if_pos k3, if_neg (by omega)]
              rcases dv with ⟨-, d, -⟩ | ⟨d, -⟩ | ⟨d, -⟩
              · rw [d, e2, hd]
              · omega
              · omega
  · rw [if_neg c, clN hx]
    left
    refine ⟨by omega, ?_⟩
    have gj := hg j (by omega)
    have gb := hr j (by omega)
    have sb := sI_b hr j hj
    have hsum : (s + B 19 j).toInt = sI g (j + 1) := i32_add (x := s) (y := B 19 j) rfl hs gj (by omega) (by omega)
    have e1 : mxI g (j + 1) = if mxI g j < g j then g j else mxI g j := rfl
    have e2 : mnG g (j + 1) = if g j < mnG g j then g j else mnG g j := rfl
    by_cases c1 : q.toInt ≤ (B 19 j).toInt
    · rw [if_pos c1]
      by_cases c2 : (B 19 j).toInt ≤ p.toInt
      · rw [if_pos c2]
        exact ⟨_, _, _, _, rfl, i_s hx (by omega), by rw [e1, if_neg (by omega)]; exact hp, by rw [e2, if_neg (by omega)]; exact hq, hsum⟩
      · rw [if_neg c2]
        exact ⟨_, _, _, _, rfl, i_s hx (by omega), by rw [e1, if_pos (by omega)]; exact gj, by rw [e2, if_neg (by omega)]; exact hq, hsum⟩
    · rw [if_neg c1]
      by_cases c2 : (B 19 j).toInt ≤ p.toInt
      · rw [if_pos c2]
        exact ⟨_, _, _, _, rfl, i_s hx (by omega), by rw [e1, if_neg (by omega)]; exact hp, by rw [e2, if_pos (by omega)]; exact gj, hsum⟩
      · rw [if_neg c2]
        exact ⟨_, _, _, _, rfl, i_s hx (by omega), by rw [e1, if_pos (by omega)]; exact gj, by rw [e2, if_pos (by omega)]; exact gj, hsum⟩
end
section
/-- what the class goes on from, told by the reference's row and the QUERIES -/
def XW (I : Nat → Int32) (A : Nat → Nat → Int32) (r : Nat → Int32) (N nq : Nat) (ql : Nat → Nat) (qv : Nat → Nat → Int) : Prop := XR I A r N ∧ (I 19).toInt = (nq : Int) ∧ nq ≤ 5 ∧ (∀ q, q < nq → (A 9 q).toInt = (ql q : Int) ∧ 2 ≤ ql q ∧ ql q ≤ 16 ∧ ∀ i, i < ql q → (A 8 (16 * q + i)).toInt = qv q i ∧ -999 ≤ qv q i ∧ qv q i ≤ 999) ∧ StE (A 10) r
theorem XW.mv {I I' : Nat → Int32} {A A' : Nat → Nat → Int32} {r : Nat → Int32} {N nq : Nat} {ql : Nat → Nat} {qv : Nat → Nat → Int} (h : XW I A r N nq ql qv) (i17 : I' 17 = I 17) (i18 : I' 18 = I 18) (i19 : I' 19 = I 19) (a7 : A' 7 = A 7) (a8 : A' 8 = A 8) (a9 : A' 9 = A 9) (a10 : A' 10 = A 10) : XW I' A' r N nq ql qv := by
  obtain ⟨⟨h1, h2, h3⟩, h4, h5, h6, h7⟩ := h
  have ev : ∀ z, fX6_valueAt I' A' z = fX6_valueAt I A z := fun z => by
    unfold fX6_valueAt
    rw [i17, i18, a7]
  refine ⟨⟨h1, by rw [i18]; exact h2, fun z i hz hi => by rw [ev]; exact h3 z i hz hi⟩, by rw [i19]; exact h4, h5, ?_, by rw [a10]; exact h7⟩
  rw [a8, a9]; exact h6
/-- the same of the reference; its row is copied -/
def MW (J : Nat → Int32) (B : Nat → Nat → Int32) (σ N nq : Nat) (ql : Nat → Nat) (qv : Nat → Nat → Int) : Prop := rok (B 17) N ∧ (J 15).toInt = (σ : Int) ∧ σ ≤ 1 ∧ (B 10 σ).toInt = (nq : Int) ∧ nq ≤ 5 ∧ (∀ q, q < nq → (B 11 (5 * σ + q)).toInt = (ql q : Int) ∧ 2 ≤ ql q ∧ ql q ≤ 16 ∧ ∀ i, i < ql q → (B 12 (80 * σ + (16 * q + i))).toInt = qv q i ∧ -999 ≤ qv q i ∧ qv q i ≤ 999)
theorem MW.mv {J J' : Nat → Int32} {B B' : Nat → Nat → Int32} {σ N nq : Nat} {ql : Nat → Nat} {qv : Nat → Nat → Int} (h : MW J B σ N nq ql qv) (j15 : J' 15 = J 15) (b10 : B' 10 = B 10) (b11 : B' 11 = B 11) (b12 : B' 12 = B 12) (b17 : B' 17 = B 17) : MW J' B' σ N nq ql qv := by
  unfold MW at *
  rw [j15, b10, b11, b12, b17]; exact h
theorem RA.xm {I J : Nat → Int32} {A B : Nat → Nat → Int32} {M : Nat → Nat → Int64} (h : RA I A J B M) : ∃ (σ N nq : Nat) (ql : Nat → Nat) (qv : Nat → Nat → Int), XW I A (B 17) N nq ql qv ∧ MW J B σ N nq ql qv := by
  obtain ⟨-, hH, hQ, -⟩ := h
  obtain ⟨N, hx⟩ := hH.xr
  obtain ⟨fs, u, nx, -, -, -, -, -, -, hR, -⟩ := hH
  obtain ⟨σ, nq, q1, q2, q3, q4, q5, q6⟩ := hQ
  refine ⟨σ, N, nq, fun q => (A 9 q).toInt.toNat, fun q i => (A 8 (16 * q + i)).toInt, ⟨hx, q3, q5, fun q hq => ?_, hR.2.2.2.2⟩, hx.1, q1, q2, q4, q5, fun q hq => ?_⟩
  · obtain ⟨a, b, c, d⟩ := q6 q hq
    refine ⟨by show (A 9 q).toInt = ((A 9 q).toInt.toNat : Int); omega, by show 2 ≤ (A 9 q).toInt.toNat; omega, by show (A 9 q).toInt.toNat ≤ 16; omega, fun i hi => ⟨rfl, ?_⟩⟩
    have hi2 : i < (A 9 q).toInt.toNat := hi
    exact (d i (by omega)).2
  · obtain ⟨a, b, c, d⟩ := q6 q hq
    refine ⟨by show (B 11 (5 * σ + q)).toInt = ((A 9 q).toInt.toNat : Int); rw [← a]; omega, by show 2 ≤ (A 9 q).toInt.toNat; omega, by show (A 9 q).toInt.toNat ≤ 16; omega, fun i hi => ?_⟩
    have hi2 : i < (A 9 q).toInt.toNat := hi
    have e := d i (by omega)
    exact ⟨by rw [← e.1], e.2⟩
/-- a WINDOW's and a QUERY's readings -/
def gW (r : Nat → Int32) (s i : Nat) : Int := (r (1 + (s + i))).toInt
theorem gW_raw {r : Nat → Int32} {N s n : Nat} (h : rok r N) (hw : wnR r N s n) : raw n (gW r s) := fun i hi => by
  unfold gW
  rcases h.v (i := s + i) (by have := hw.2.1; omega) with ⟨a, -⟩ | ⟨-, -, -, a, b⟩
  · exact absurd a (hw.2.2 i hi)
  · exact ⟨a, b⟩
theorem x_begin {I : Nat → Int32} {A : Nat → Nat → Int32} {z1 z2 : Int32} {n : Nat} {b c : Int} (h1 : z1.toInt = (n : Int)) (hn1 : 1 ≤ n) (hn : n ≤ 16) (h2 : z2.toInt = b) (hb : 0 ≤ b) (hc : (A 10 2).toInt = c) (hc0 : 0 ≤ c) (hc1 : c ≤ 1) : ∃ I' : Nat → Int32, fX0_begin I A z1 z2 = (0, I', A) ∧ Md [28, 30, 31, 32] I I' ∧ (I' 28).toInt = (n : Int) ∧ (I' 30).toInt = (n : Int) ∧ (I' 31).toInt = b ∧ (I' 32).toInt = c := by
  have ev : fX7_valueOf_2 (upd I 28 z1) A 2 = A 10 2 := by
    unfold fX7_valueOf_2
    rw [if_neg (by decide), if_neg (by decide)]; rfl
  unfold fX0_begin
  simp only [f_lt_eq]
  rw [ev]
  obtain ⟨y1, hy1⟩ : ∃ y1 : Int32, y1 = if (16 : Int32) < z1 then (16 : Int32) else z1 := ⟨_, rfl⟩
  obtain ⟨y2, hy2⟩ : ∃ y2 : Int32, y2 = if (1 : Int32) < y1 then y1 else (1 : Int32) := ⟨_, rfl⟩
  obtain ⟨y3, hy3⟩ : ∃ y3 : Int32, y3 = if (0 : Int32) < z2 then z2 else (0 : Int32) := ⟨_, rfl⟩
  have t16 : (16 : Int32).toInt = 16 := rfl
  have t1 : (1 : Int32).toInt = 1 := rfl
  have t0 : (0 : Int32).toInt = 0 := rfl
  have e1 : y1.toInt = (n : Int) := by rcases i32_min (x := z1) (y := 16) hy1 with ⟨a, a9⟩ | ⟨a, a9⟩ <;> omega
  have e2 : y2.toInt = (n : Int) := by rcases i32_max (x := 1) (y := y1) hy2 with ⟨a, a9⟩ | ⟨a, a9⟩ <;> omega
  have e3 : y3.toInt = b := by rcases i32_max (x := 0) (y := z2) hy3 with ⟨a, a9⟩ | ⟨a, a9⟩ <;> omega
  unfold fX2_begin
  simp only [f_lt_eq]
  rw [← hy1, ← hy2, ← hy3]
  by_cases c1 : (A 10 2).toInt = 1
  · rw [if_neg (fun h9 => h9 c1), bdX_mk]
    exact ⟨_, rfl, Md.up (Md.up (Md.up (Md.up Md.rf rfl) rfl) rfl) rfl, h1, e2, e3, by show (1 : Int32).toInt = c; omega⟩
  · rw [if_pos c1, bdX_mk]
    exact ⟨_, rfl, Md.up (Md.up (Md.up (Md.up Md.rf rfl) rfl) rfl) rfl, h1, e2, e3, by show (0 : Int32).toInt = c; omega⟩
theorem x_copyW21 {I : Nat → Int32} {A : Nat → Nat → Int32} {r : Nat → Int32} {N nq : Nat} {ql : Nat → Nat} {qv : Nat → Nat → Int} {z1 z2 : Int32} {s n : Nat} (h : XW I A r N nq ql qv) (h1 : z1.toInt = (s : Int)) (h2 : z2.toInt = (n : Int)) (hn : n ≤ 16) (hw : wnR r N s n) : ∃ A' : Nat → Nat → Int32, fX6_copyWindow I A z1 z2 = (0, I, A') ∧ Md [21] A A' ∧ ∀ i, i < n → (A' 21 i).toInt = gW r s i := by
  have hN := h.1.1.2.1
  have hsn := hw.2.1
  unfold fX6_copyWindow
  refine run_iIA (Q := fun v => ∃ A' : Nat → Nat → Int32, v = (0, I, A') ∧ Md [21] A A' ∧ ∀ i, i < n → (A' 21 i).toInt = gW r s i) n (fun j x I1 A1 => x.toInt = (j : Int) ∧ I1 = I ∧ Md [21] A A1 ∧ ∀ i, i < j → (A1 21 i).toInt = gW r s i) (fun G j x I1 A1 hj hP => ?_) FU 0 0 I A ⟨rfl, rfl, Md.rf, fun i hi => by omega⟩ (by omega) (fu_lt (by omega))
  obtain ⟨hx, eI, mA, hi⟩ := hP
  unfold bX6_copyWindow_3
  dsimp only [f_lt]
  by_cases c : z2.toInt ≤ x.toInt
  · rw [if_pos c, eI]; right; exact ⟨A1, rfl, mA, fun i h9 => hi i (by omega)⟩
  · rw [if_neg c, if_neg (by omega), clN hx]
    left
    have h' := h.mv (I' := I1) (A' := A1) (by rw [eI]) (by rw [eI]) (by rw [eI]) (mA 7 rfl) (mA 8 rfl) (mA 9 rfl) (mA 10 rfl)
    have hv : fX6_valueAt I1 A1 (z1 + x) = r (1 + (s + j)) := by
      rcases h'.1.2.2 _ _ (i_ad h1 hx (by omega) (by omega)) (by omega) with ⟨a9, -⟩ | ⟨-, b9, -⟩
      · exact absurd a9 (hw.2.2 j (by omega))
      · exact b9
    rw [hv]
    refine ⟨by omega, _, _, _, rfl, i_s hx (by omega), eI, Md.up3 mA rfl, fun i h9 => ?_⟩
    by_cases e : i = j
    · rw [up3_at e, e]; rfl
    · rw [up3_ne e]; exact hi i (by omega)
theorem x_copyQ21 {I : Nat → Int32} {A : Nat → Nat → Int32} {r : Nat → Int32} {N nq : Nat} {ql : Nat → Nat} {qv : Nat → Nat → Int} {z : Int32} {q : Nat} (h : XW I A r N nq ql qv) (hz : z.toInt = (q : Int)) (hq : q < nq) : ∃ A' : Nat → Nat → Int32, fX4_copyQuery I A z = (0, I, A') ∧ Md [21] A A' ∧ ∀ i, i < ql q → (A' 21 i).toInt = qv q i := by
  obtain ⟨-, h19, h5, hqs, -⟩ := h
  obtain ⟨l1, l2, l3, l4⟩ := hqs q hq
  unfold fX4_copyQuery
  refine run_iIA (Q := fun v => ∃ A' : Nat → Nat → Int32, v = (0, I, A') ∧ Md [21] A A' ∧ ∀ i, i < ql q → (A' 21 i).toInt = qv q i) (ql q) (fun j x I1 A1 => x.toInt = (j : Int) ∧ I1 = I ∧ Md [21] A A1 ∧ ∀ i, i < j → (A1 21 i).toInt = qv q i) (fun G j x I1 A1 hj hP => ?_) FU 0 0 I A ⟨rfl, rfl, Md.rf, fun i hi => by omega⟩ (by omega) (fu_lt (by omega))
  obtain ⟨hx, eI, mA, hi⟩ := hP
  have hL : fX4_lengthOf_2 I1 A1 z = (A 9 q, 1) := by
    rw [x_len2 (nq := nq) (by rw [eI]; exact h19) h5 hz hq, mA 9 rfl]
  unfold bX4_copyQuery_2
  rw [hL, ifp]
  dsimp only [f_lt]
  by_cases c : (A 9 q).toInt ≤ x.toInt
  · rw [if_pos c, eI]; right; exact ⟨A1, rfl, mA, fun i h9 => hi i (by omega)⟩
  · rw [if_neg c, clN hx]
    left
    have hv : fX4_valueAt_2 I1 A1 z x = A 8 (16 * q + j) := by
      unfold fX4_valueAt_2
      rw [if_neg (show ¬ x.toInt < 0 by omega), if_neg (show ¬ 16 ≤ x.toInt by omega), hL, ifp]
      dsimp only [f_lt]
      rw [if_neg c, i_16 hz hx (by omega) (by omega), mA 8 rfl]
    rw [hv]
    refine ⟨by omega, _, _, _, rfl, i_s hx (by omega), eI, Md.up3 mA rfl, fun i h9 => ?_⟩
    by_cases e : i = j
    · rw [up3_at e, e]; exact (l4 j (by omega)).1
    · rw [up3_ne e]; exact hi i (by omega)
theorem x_copyW22 {I : Nat → Int32} {A : Nat → Nat → Int32} {r : Nat → Int32} {N nq : Nat} {ql : Nat → Nat} {qv : Nat → Nat → Int} {z1 z2 : Int32} {s n : Nat} (h : XW I A r N nq ql qv) (h1 : z1.toInt = (s : Int)) (h2 : z2.toInt = (n : Int)) (hn : n ≤ 16) (hw : wnR r N s n) : ∃ A' : Nat → Nat → Int32, fX6_copyWindow_2 I A z1 z2 = (0, I, A') ∧ Md [22] A A' ∧ ∀ i, i < n → (A' 22 i).toInt = gW r s i := by
  have hN := h.1.1.2.1
  have hsn := hw.2.1
  unfold fX6_copyWindow_2
  refine run_iIA (Q := fun v => ∃ A' : Nat → Nat → Int32, v = (0, I, A') ∧ Md [22] A A' ∧ ∀ i, i < n → (A' 22 i).toInt = gW r s i) n (fun j x I1 A1 => x.toInt = (j : Int) ∧ I1 = I ∧ Md [22] A A1 ∧ ∀ i, i < j → (A1 22 i).toInt = gW r s i) (fun G j x I1 A1 hj hP => ?_) FU 0 0 I A ⟨rfl, rfl, Md.rf, fun i hi => by omega⟩ (by omega) (fu_lt (by omega))
  obtain ⟨hx, eI, mA, hi⟩ := hP
  unfold bX6_copyWindow_2_3
  dsimp only [f_lt]
  by_cases c : z2.toInt ≤ x.toInt
  · rw [if_pos c, eI]; right; exact ⟨A1, rfl, mA, fun i h9 => hi i (by omega)⟩
  · rw [if_neg c, if_neg (by omega), clN hx]
    left
    have h' := h.mv (I' := I1) (A' := A1) (by rw [eI]) (by rw [eI]) (by rw [eI]) (mA 7 rfl) (mA 8 rfl) (mA 9 rfl) (mA 10 rfl)
    have hv : fX6_valueAt I1 A1 (z1 + x) = r (1 + (s + j)) := by
      rcases h'.1.2.2 _ _ (i_ad h1 hx (by omega) (by omega)) (by omega) with ⟨a9, -⟩ | ⟨-, b9, -⟩
      · exact absurd a9 (hw.2.2 j (by omega))
      · exact b9
    rw [hv]
    refine ⟨by omega, _, _, _, rfl, i_s hx (by omega), eI, Md.up3 mA rfl, fun i h9 => ?_⟩
    by_cases e : i = j
    · rw [up3_at e, e]; rfl
    · rw [up3_ne e]; exact hi i (by omega)
theorem x_copyQ22 {I : Nat → Int32} {A : Nat → Nat → Int32} {r : Nat → Int32} {N nq : Nat} {ql : Nat → Nat} {qv : Nat → Nat → Int} {z : Int32} {q : Nat} (h : XW I A r N nq ql qv) (hz : z.toInt = (q : Int)) (hq : q < nq) : ∃ A' : Nat → Nat → Int32, fX4_copyQuery_2 I A z = (0, I, A') ∧ Md [22] A A' ∧ ∀ i, i < ql q → (A' 22 i).toInt = qv q i := by
  obtain ⟨-, h19, h5, hqs, -⟩ := h
  obtain ⟨l1, l2, l3, l4⟩ := hqs q hq
  unfold fX4_copyQuery_2
  refine run_iIA (Q := fun v => ∃ A' : Nat → Nat → Int32, v = (0, I, A') ∧ Md [22] A A' ∧ ∀ i, i < ql q → (A' 22 i).toInt = qv q i) (ql q) (fun j x I1 A1 => x.toInt = (j : Int) ∧ I1 = I ∧ Md [22] A A1 ∧ ∀ i, i < j → (A1 22 i).toInt = qv q i) (fun G j x I1 A1 hj hP => ?_) FU 0 0 I A ⟨rfl, rfl, Md.rf, fun i hi => by omega⟩ (by omega) (fu_lt (by omega))
  obtain ⟨hx, eI, mA, hi⟩ := hP
  have hL : fX4_lengthOf_2 I1 A1 z = (A 9 q, 1) := by
    rw [x_len2 (nq := nq) (by rw [eI]; exact h19) h5 hz hq, mA 9 rfl]
  unfold bX4_copyQuery_2_2
  rw [hL, ifp]
  dsimp only [f_lt]
  by_cases c : (A 9 q).toInt ≤ x.toInt
  · rw [if_pos c, eI]; right; exact ⟨A1, rfl, mA, fun i h9 => hi i (by omega)⟩
  · rw [if_neg c, clN hx]
    left
    have hv : fX4_valueAt_2 I1 A1 z x = A 8 (16 * q + j) := by
      unfold fX4_valueAt_2
      rw [if_neg (show ¬ x.toInt < 0 by omega), if_neg (show ¬ 16 ≤ x.toInt by omega), hL, ifp]
      dsimp only [f_lt]
      rw [if_neg c, i_16 hz hx (by omega) (by omega), mA 8 rfl]
    rw [hv]
    refine ⟨by omega, _, _, _, rfl, i_s hx (by omega), eI, Md.up3 mA rfl, fun i h9 => ?_⟩
    by_cases e : i = j
    · rw [up3_at e, e]; exact (l4 j (by omega)).1
    · rw [up3_ne e]; exact hi i (by omega)
theorem x_vOf {I : Nat → Int32} {A : Nat → Nat → Int32} {z : Int32} {k : Nat} (hz : z.toInt = (k : Int)) (hk : k < 4) : fX7_valueOf_2 I A z = A 10 k := by
  unfold fX7_valueOf_2
  rw [if_neg (by omega), if_neg (by omega), clN hz]
/-- what is set, as numbers -/
theorem StE.n {S r : Nat → Int32} (h : StE S r) : (S 0).toInt = (r 161).toInt ∧ (S 1).toInt = (r 162).toInt ∧ (S 2).toInt = (r 163).toInt ∧ (S 3).toInt = (r 164).toInt ∧ 0 ≤ (r 161).toInt ∧ (r 161).toInt ≤ 15 ∧ 0 ≤ (r 162).toInt ∧ (r 162).toInt ≤ 3 ∧ 0 ≤ (r 163).toInt ∧ (r 163).toInt ≤ 1 ∧ 1 ≤ (r 164).toInt ∧ (r 164).toInt ≤ 99 := by
  obtain ⟨⟨a, a1, a2⟩, ⟨b, b1, b2⟩, ⟨c, c1, c2⟩, ⟨d, d1, d2⟩⟩ := h
  rw [a, b, c, d]
  exact ⟨rfl, rfl, rfl, rfl, a1, a2, b1, b2, c1, c2, d1, d2⟩
/-- a row lies on the left, at its LEVEL -/
def FL (I : Nat → Int32) (A : Nat → Nat → Int32) (n : Nat) (b c : Int) (lf : Nat → Int) : Prop := (I 28).toInt = (n : Int) ∧ (I 30).toInt = (n : Int) ∧ (I 31).toInt = b ∧ (I 32).toInt = c ∧ ∀ i, i < n → (A 21 i).toInt = lf i
def FR (A : Nat → Nat → Int32) (n : Nat) (rt : Nat → Int) : Prop := ∀ i, i < n → (A 22 i).toInt = rt i
def lvl (r : Nat → Int32) (n : Nat) (g : Nat → Int) : Nat → Int := lvS (r 162).toInt n g
section OPEN
variable {I : Nat → Int32} {A : Nat → Nat → Int32} {r : Nat → Int32} {N nq : Nat} {ql : Nat → Nat} {qv : Nat → Nat → Int}
theorem x_openW (h : XW I A r N nq ql qv) {z1 z2 : Int32} {s n : Nat} (h1 : z1.toInt = (s : Int)) (h2 : z2.toInt = (n : Int)) (hn : n ≤ 16) (hw : wnR r N s n) : ∃ (I' : Nat → Int32) (A' : Nat → Nat → Int32), fX0_openWindow I A z1 z2 = (0, I', A') ∧ Md [28, 30, 31, 32] I I' ∧ Md [21] A A' ∧ FL I' A' n (r 161).toInt (r 163).toInt (lvl r n (gW r s)) := by
  obtain ⟨s0, s1, s2, -, b0, b1, -, -, c0, c1, -, -⟩ := h.2.2.2.2.n
  obtain ⟨I1, e1, m1, f1, f2, f3, f4⟩ := x_begin (I := I) (A := A) (z1 := z2) (z2 := A 10 0) h2 hw.1 hn s0 b0 s2 c0 c1
  have h' := h.mv (I' := I1) (A' := A) (m1 17 rfl) (m1 18 rfl) (m1 19 rfl) rfl rfl rfl rfl
  obtain ⟨A2, e2, m2, f5⟩ := x_copyW21 h' (z2 := I1 28) h1 f1 hn hw
  obtain ⟨A3, e3, m3, f6⟩ := x_level21 (I := I1) (A := A2) (z := A2 10 1) (k := (r 162).toInt) f2 hw.1 hn (gW_raw h.1.1 hw) f5 (by rw [m2 10 rfl]; exact s1)
  unfold fX0_openWindow
  simp only [f_lt_eq]
  rw [x_vOf (z := 0) (k := 0) rfl (by omega), e1, bdX_mk, e2, bdX_mk, x_vOf (z := 1) (k := 1) rfl (by omega), e3, bdX_mk]
  exact ⟨I1, A3, rfl, m1, Md.tr m2 m3 rfl, f1, f2, f3, f4, f6⟩
theorem x_openQ (h : XW I A r N nq ql qv) {z1 z2 : Int32} {q : Nat} {b : Int} (h1 : z1.toInt = (q : Int)) (hq : q < nq) (h2 : z2.toInt = b) (hb : 0 ≤ b) : ∃ (I' : Nat → Int32) (A' : Nat → Nat → Int32), fX0_openQuery I A z1 z2 = (0, I', A') ∧ Md [28, 30, 31, 32] I I' ∧ Md [21] A A' ∧ FL I' A' (ql q) b (r 163).toInt (lvl r (ql q) (qv q)) := by
  obtain ⟨s0, s1, s2, -, b0, b1, -, -, c0, c1, -, -⟩ := h.2.2.2.2.n
  obtain ⟨l1, l2, l3, l4⟩ := h.2.2.2.1 q hq
  have hL : fX4_lengthOf_2 I A z1 = (A 9 q, 1) := x_len2 h.2.1 h.2.2.1 h1 hq
  obtain ⟨I1, e1, m1, f1, f2, f3, f4⟩ := x_begin (I := I) (A := A) (z1 := A 9 q) (z2 := z2) l1 (by omega) l3 h2 hb s2 c0 c1
  have h' := h.mv (I' := I1) (A' := A) (m1 17 rfl) (m1 18 rfl) (m1 19 rfl) rfl rfl rfl rfl
  obtain ⟨A2, e2, m2, f5⟩ := x_copyQ21 h' h1 hq
  obtain ⟨A3, e3, m3, f6⟩ := x_level21 (I := I1) (A := A2) (z := A2 10 1) (k := (r 162).toInt) f2 (by omega) l3 (fun i hi => (l4 i hi).2) f5 (by rw [m2 10 rfl]; exact s1)
  unfold fX0_openQuery
  simp only [f_lt_eq]
  rw [hL, ifp, e1, bdX_mk, e2, bdX_mk, x_vOf (z := 1) (k := 1) rfl (by omega), e3, bdX_mk]
  exact ⟨I1, A3, rfl, m1, Md.tr m2 m3 rfl, f1, f2, f3, f4, f6⟩
theorem x_secW (h : XW I A r N nq ql qv) {z1 : Int32} {s n : Nat} (h1 : z1.toInt = (s : Int)) (h28 : (I 28).toInt = (n : Int)) (h30 : (I 30).toInt = (n : Int)) (hn : n ≤ 16) (hw : wnR r N s n) : ∃ A' : Nat → Nat → Int32, fX0_laySecondWindow I A z1 = (0, I, A') ∧ Md [22] A A' ∧ FR A' n (lvl r n (gW r s)) := by
  obtain ⟨s0, s1, -⟩ := h.2.2.2.2.n
  obtain ⟨A2, e2, m2, f5⟩ := x_copyW22 h (z2 := I 28) h1 h28 hn hw
  obtain ⟨A3, e3, m3, f6⟩ := x_level22 (I := I) (A := A2) (z := A2 10 1) (k := (r 162).toInt) h30 hw.1 hn (gW_raw h.1.1 hw) f5 (by rw [m2 10 rfl]; exact s1)
  unfold fX0_laySecondWindow
  simp only [f_lt_eq]
  rw [e2, bdX_mk, x_vOf (z := 1) (k := 1) rfl (by omega), e3, bdX_mk]
  exact ⟨A3, rfl, Md.tr m2 m3 rfl, f6⟩
theorem x_secQ (h : XW I A r N nq ql qv) {z1 : Int32} {q : Nat} (h1 : z1.toInt = (q : Int)) (hq : q < nq) (h30 : (I 30).toInt = (ql q : Int)) : ∃ A' : Nat → Nat → Int32, fX0_laySecondQuery I A z1 = (0, I, A') ∧ Md [22] A A' ∧ FR A' (ql q) (lvl r (ql q) (qv q)) := by
  obtain ⟨s0, s1, -⟩ := h.2.2.2.2.n
  obtain ⟨l1, l2, l3, l4⟩ := h.2.2.2.1 q hq
  obtain ⟨A2, e2, m2, f5⟩ := x_copyQ22 h h1 hq
  obtain ⟨A3, e3, m3, f6⟩ := x_level22 (I := I) (A := A2) (z := A2 10 1) (k := (r 162).toInt) h30 (by omega) l3 (fun i hi => (l4 i hi).2) f5 (by rw [m2 10 rfl]; exact s1)
  unfold fX0_laySecondQuery
  simp only [f_lt_eq]
  rw [e2, bdX_mk, x_vOf (z := 1) (k := 1) rfl (by omega), e3, bdX_mk]
  exact ⟨A3, rfl, Md.tr m2 m3 rfl, f6⟩
end OPEN
section MLAY
variable {J : Nat → Int32} {B : Nat → Nat → Int32} {L : Nat → Nat → Int64}
theorem m_laysW {r : Nat → Int32} {N s n : Nat} {z1 z2 : Int32} (hr : rok r N) (h18 : ∀ k, k < 165 → B 18 k = r k) (hk0 : 0 ≤ (r 162).toInt) (hk3 : (r 162).toInt ≤ 3) (h1 : z1.toInt = (s : Int)) (h2 : z2.toInt = (n : Int)) (hn : n ≤ 16) (hw : wnR r N s n) : ∃ B' : Nat → Nat → Int32, fM12_laysWindow J B L z1 z2 = (0, J, B', L) ∧ Md [19] B B' ∧ (∀ i, i < n → (B' 19 i).toInt = lvl r n (gW r s) i) := by
  have hsn := hw.2.1
  have hN := hr.2.1
  unfold fM12_laysWindow
  refine run_iIAL (Q := fun v => ∃ B' : Nat → Nat → Int32, v = (0, J, B', L) ∧ Md [19] B B' ∧ (∀ i, i < n → (B' 19 i).toInt = lvl r n (gW r s) i)) n (fun j x J1 B1 L1 => x.toInt = (j : Int) ∧ J1 = J ∧ L1 = L ∧ Md [19] B B1 ∧ ∀ i, i < j → (B1 19 i).toInt = gW r s i) (fun G j x J1 B1 L1 hj hP => ?_) FU 0 0 J B L ⟨rfl, rfl, rfl, Md.rf, fun i hi => by omega⟩ (by omega) (fu_lt (by omega))
  obtain ⟨hx, eJ, eL, mB, hi⟩ := hP
  unfold bM12_laysWindow_2
  dsimp only [f_lt]
  by_cases c : z2.toInt ≤ x.toInt
  · rw [if_pos c, eJ, eL]
    right
    obtain ⟨B', e, m, f, -⟩ := m_level (J := J) (B := B1) (L := L) (z := z2) (k := (r 162).toInt) h2 hw.1 hn (gW_raw hr hw) (fun i h9 => hi i (by omega)) (by rw [mB 18 rfl, h18 162 (by omega)]) hk0 hk3
    rw [e, bdM_mk]
    exact ⟨B', rfl, Md.tr mB m rfl, f⟩
  · rw [if_neg c, clN hx]
    left
    have e1 : (1 + z1).toInt = ((1 + s : Nat) : Int) := by
      have := i32_add (x := 1) (y := z1) (a := 1) rfl rfl h1 (by omega) (by omega)
      omega
    have e2 := i_ad e1 hx (by omega) (by omega)
    rw [clN e2]
    refine ⟨by omega, _, _, _, _, rfl, i_s hx (by omega), eJ, eL, Md.up3 mB rfl, fun i h9 => ?_⟩
    by_cases e : i = j
    · rw [up3_at e, e, h18 _ (by omega)]
      unfold gW
      rw [show 1 + s + j = 1 + (s + j) by omega]
    · rw [up3_ne e]; exact hi i (by omega)
theorem m_changes {n : Nat} {z : Int32} (hz : z.toInt = (n : Int)) (hn : n ≤ 16) : ∃ B' : Nat → Nat → Int32, fM12_changesBoth J B L z = (0, J, B', L) ∧ Md [19, 20] B B' ∧ (∀ i, i < n → B' 19 i = B 20 i) ∧ ∀ i, i < n → B' 20 i = B 19 i := by
  unfold fM12_changesBoth
  refine run_iIAL (Q := fun v => ∃ B' : Nat → Nat → Int32, v = (0, J, B', L) ∧ Md [19, 20] B B' ∧ (∀ i, i < n → B' 19 i = B 20 i) ∧ ∀ i, i < n → B' 20 i = B 19 i) n (fun j x J1 B1 L1 => x.toInt = (j : Int) ∧ J1 = J ∧ L1 = L ∧ Md [19, 20] B B1 ∧ (∀ i, i < j → B1 19 i = B 20 i) ∧ (∀ i, i < j → B1 20 i = B 19 i) ∧ (∀ i, j ≤ i → B1 19 i = B 19 i) ∧ ∀ i, j ≤ i → B1 20 i = B 20 i) (fun G j x J1 B1 L1 hj hP => ?_) FU 0 0 J B L ⟨rfl, rfl, rfl, Md.rf, fun i hi => by omega, fun i hi => by omega, fun i _ => rfl, fun i _ => rfl⟩ (by omega) (fu_lt (by omega))
  obtain ⟨hx, eJ, eL, mB, h1, h2, h3, h4⟩ := hP
  unfold bM12_changesBoth_2
  dsimp only [f_lt]
  by_cases c : z.toInt ≤ x.toInt
  · rw [if_pos c, eJ, eL]; right; exact ⟨B1, rfl, mB, fun i hi => h1 i (by omega), fun i hi => h2 i (by omega)⟩
  · rw [if_neg c, clN hx]
    left
    refine ⟨by omega, _, _, _, _, rfl, i_s hx (by omega), eJ, eL, Md.up3 (Md.up3 mB rfl) rfl, fun i hi => ?_, fun i hi => ?_, fun i hi => ?_, fun i hi => ?_⟩
    · rw [up3_o (by decide)]
      by_cases e : i = j
      · rw [up3_at e, e]; exact h4 j (Nat.le_refl j)
      · rw [up3_ne e]; exact h1 i (by omega)
    · by_cases e : i = j
      · rw [up3_at e, e]; exact h3 j (Nat.le_refl j)
      · rw [up3_ne e, up3_o (by decide)]; exact h2 i (by omega)
    · rw [up3_o (by decide), up3_ne (by omega)]; exact h3 i (by omega)
    · rw [up3_ne (by omega), up3_o (by decide)]; exact h4 i (by omega)
theorem m_laysQ {σ N nq : Nat} {ql : Nat → Nat} {qv : Nat → Nat → Int} {k : Int} {z : Int32} {q : Nat} (h : MW J B σ N nq ql qv) (hk : (B 18 162).toInt = k) (hk0 : 0 ≤ k) (hk3 : k ≤ 3) (hz : z.toInt = (q : Int)) (hq : q < nq) : ∃ B' : Nat → Nat → Int32, fM12_laysQuery J B L z = (0, J, B', L) ∧ Md [19] B B' ∧ (∀ i, i < ql q → (B' 19 i).toInt = lvS k (ql q) (qv q) i) := by
  obtain ⟨-, h15, hσ, h10, h5, hqs⟩ := h
  obtain ⟨l1, l2, l3, l4⟩ := hqs q hq
  have e5 := i_5 h15 hσ hz (by omega)
  unfold fM12_laysQuery
  refine run_iIAL (Q := fun v => ∃ B' : Nat → Nat → Int32, v = (0, J, B', L) ∧ Md [19] B B' ∧ (∀ i, i < ql q → (B' 19 i).toInt = lvS k (ql q) (qv q) i)) (ql q) (fun j x J1 B1 L1 => x.toInt = (j : Int) ∧ J1 = J ∧ L1 = L ∧ Md [19] B B1 ∧ ∀ i, i < j → (B1 19 i).toInt = qv q i) (fun G j x J1 B1 L1 hj hP => ?_) FU 0 0 J B L ⟨rfl, rfl, rfl, Md.rf, fun i hi => by omega⟩ (by omega) (fu_lt (by omega))
  obtain ⟨hx, eJ, eL, mB, hi⟩ := hP
  unfold bM12_laysQuery_2
  dsimp only [f_lt]
  rw [clN e5]
  by_cases c : (B 11 (5 * σ + q)).toInt ≤ x.toInt
  · rw [if_pos c, eJ, eL]
    right
    obtain ⟨B', e, m, f, -⟩ := m_level (J := J) (B := B1) (L := L) (z := B 11 (5 * σ + q)) (k := k) (g := qv q) l1 (by omega) l3 (fun i h9 => (l4 i h9).2) (fun i h9 => hi i (by omega)) (by rw [mB 18 rfl]; exact hk) hk0 hk3
    rw [e, bdM_mk]
    exact ⟨B', rfl, Md.tr mB m rfl, f⟩
  · rw [if_neg c, clN hx]
    left
    have e6 := i32_mul (x := 16) (y := 5 * J 15 + z) (a := 16) rfl rfl e5 (by omega) (by omega)
    have e7 : (16 * (5 * J 15 + z) + x).toInt = ((80 * σ + (16 * q + j) : Nat) : Int) := by
      have := i32_add (x := 16 * (5 * J 15 + z)) (y := x) rfl e6 hx (by omega) (by omega)
      omega
    rw [clN e7]
    refine ⟨by omega, _, _, _, _, rfl, i_s hx (by omega), eJ, eL, Md.up3 mB rfl, fun i h9 => ?_⟩
    by_cases e : i = j
    · rw [up3_at e, e]; exact (l4 j (by omega)).1
    · rw [up3_ne e]; exact hi i (by omega)
/-- first and other row lie side by side -/
def ML (J : Nat → Int32) (B : Nat → Nat → Int32) (n : Nat) (lf rt : Nat → Int) : Prop := (J 18).toInt = (n : Int) ∧ (∀ i, i < n → (B 19 i).toInt = lf i) ∧ ∀ i, i < n → (B 20 i).toInt = rt i
theorem m_laysBoth {σ N nq : Nat} {ql : Nat → Nat} {qv : Nat → Nat → Int} {z1 z2 : Int32} {q s : Nat} {r : Nat → Int32} (h : MW J B σ N nq ql qv) (hr : rok r N) (h18 : ∀ k, k < 165 → B 18 k = r k) (hk0 : 0 ≤ (r 162).toInt) (hk3 : (r 162).toInt ≤ 3) (h1 : z1.toInt = (q : Int)) (hq : q < nq) (h2 : z2.toInt = (s : Int)) (hw : wnR r N s (ql q)) : ∃ (J' : Nat → Int32) (B' : Nat → Nat → Int32), fM12_laysBoth J B L z1 z2 = (0, J', B', L) ∧ Md [18] J J' ∧ Md [19, 20] B B' ∧ ML J' B' (ql q) (lvl r (ql q) (qv q)) (lvl r (ql q) (gW r s)) := by
  obtain ⟨l1, l2, l3, l4⟩ := h.2.2.2.2.2 q hq
  have e5 := i_5 h.2.1 h.2.2.1 h1 (by have := h.2.2.2.2.1; omega)
  obtain ⟨B1, a1, a2, a3⟩ := m_laysW (J := upd J 18 (B 11 (5 * σ + q))) (B := B) (L := L) hr h18 hk0 hk3 h2 l1 l3 hw
  obtain ⟨B2, b1, b2, b3, b4⟩ := m_changes (J := upd J 18 (B 11 (5 * σ + q))) (B := B1) (L := L) l1 l3
  have h' := h.mv (J' := upd J 18 (B 11 (5 * σ + q))) (B' := B2) rfl ((b2 10 rfl).trans (a2 10 rfl)) ((b2 11 rfl).trans (a2 11 rfl)) ((b2 12 rfl).trans (a2 12 rfl)) ((b2 17 rfl).trans (a2 17 rfl))
  obtain ⟨B3, c1, c2, c3⟩ := m_laysQ (J := upd J 18 (B 11 (5 * σ + q))) (B := B2) (L := L) (k := (r 162).toInt) h' (by rw [b2 18 rfl, a2 18 rfl, h18 162 (by omega)]) hk0 hk3 h1 hq
  unfold fM12_laysBoth
  rw [clN e5, a1, bdM_mk, b1, bdM_mk, c1, bdM_mk]
  refine ⟨_, B3, rfl, Md.up Md.rf rfl, Md.tr (Md.tr (Md.tr Md.rf a2 rfl) b2 rfl) c2 rfl, l1, c3, fun i hi => ?_⟩
  rw [c2 20 rfl, b4 i hi]; exact a3 i hi
theorem m_laysWs {N : Nat} {z1 z2 z3 : Int32} {s o n : Nat} {r : Nat → Int32} (hr : rok r N) (h18 : ∀ k, k < 165 → B 18 k = r k) (hk0 : 0 ≤ (r 162).toInt) (hk3 : (r 162).toInt ≤ 3) (h1 : z1.toInt = (s : Int)) (h2 : z2.toInt = (o : Int)) (h3 : z3.toInt = (n : Int)) (hn : n ≤ 16) (hw : wnR r N s n) (hw2 : wnR r N o n) : ∃ (J' : Nat → Int32) (B' : Nat → Nat → Int32), fM12_laysWindows J B L z1 z2 z3 = (0, J', B', L) ∧ Md [18] J J' ∧ Md [19, 20] B B' ∧ ML J' B' n (lvl r n (gW r s)) (lvl r n (gW r o)) := by
  obtain ⟨B1, a1, a2, a3⟩ := m_laysW (J := upd J 18 z3) (B := B) (L := L) hr h18 hk0 hk3 h2 h3 hn hw2
  obtain ⟨B2, b1, b2, b3, b4⟩ := m_changes (J := upd J 18 z3) (B := B1) (L := L) h3 hn
  obtain ⟨B3, c1, c2, c3⟩ := m_laysW (J := upd J 18 z3) (B := B2) (L := L) hr (fun k hk => by rw [b2 18 rfl, a2 18 rfl]; exact h18 k hk) hk0 hk3 h1 h3 hn hw
  unfold fM12_laysWindows
  rw [a1, bdM_mk, b1, bdM_mk, c1, bdM_mk]
  refine ⟨_, B3, rfl, Md.up Md.rf rfl, Md.tr (Md.tr (Md.tr Md.rf a2 rfl) b2 rfl) c2 rfl, h3, c3, fun i hi => ?_⟩
  rw [c2 20 rfl, b4 i hi]; exact a3 i hi
end MLAY
end
section
/-- the COST of two readings -/
def csT (c a b : Int) : Int := if c = 0 then (if a - b < 0 then -(a - b) else a - b) else (a - b) * (a - b)
theorem sq_b {x : Int} (h1 : -3996 ≤ x) (h2 : x ≤ 3996) : 0 ≤ x * x ∧ x * x ≤ 15968016 := by
  have a : 0 ≤ (3996 - x) * (3996 + x) := Int.mul_nonneg (by omega) (by omega)
  rw [Int.sub_mul, Int.mul_add, Int.mul_add] at a
  have b : 0 ≤ x * x := by
    by_cases c : 0 ≤ x
    · exact Int.mul_nonneg c c
    · have := Int.mul_nonneg (a := -x) (b := -x) (by omega) (by omega)
      rwa [Int.neg_mul_neg] at this
  omega
theorem csT_b {c a b : Int} (ha : -1998 ≤ a ∧ a ≤ 1998) (hb : -1998 ≤ b ∧ b ≤ 1998) : 0 ≤ csT c a b ∧ csT c a b ≤ 15968016 := by
  unfold csT
  have := sq_b (x := a - b) (by omega) (by omega)
  split
  · split <;> omega
  · exact this
theorem csT_comm {c a b : Int} : csT c a b = csT c b a := by
  unfold csT
  split
  · split <;> (try split) <;> omega
  · have e : b - a = -(a - b) := by omega
    rw [e, Int.neg_mul_neg]
def inB (b : Int) (i j : Nat) : Prop := (i : Int) - (j : Int) ≤ b ∧ (j : Int) - (i : Int) ≤ b
def m2 (a b : Int) : Int := if a ≤ b then a else b
theorem m2_l {a b : Int} : m2 a b ≤ a := by unfold m2; split <;> omega
theorem m2_r {a b : Int} : m2 a b ≤ b := by unfold m2; split <;> omega
theorem m2_c {a b : Int} : m2 a b = a ∨ m2 a b = b := by unfold m2; split <;> omega
theorem m2_g {a b v : Int} (h1 : v ≤ a) (h2 : v ≤ b) : v ≤ m2 a b := by unfold m2; split <;> omega
/-- a row of the table of all ways, out of the row above -/
def rwT (b : Int) (C : Nat → Int) (i : Nat) (up : Nat → Int) : Nat → Int
  | 0 => if (i : Int) - (0 : Nat) ≤ b ∧ ((0 : Nat) : Int) - i ≤ b then (if i = 0 then 0 else up 0) + C 0 else 2000000000
  | j + 1 => if (i : Int) - (j + 1 : Nat) ≤ b ∧ ((j + 1 : Nat) : Int) - i ≤ b then m2 (up j) (m2 (up (j + 1)) (rwT b C i up j)) + C (j + 1) else 2000000000
def tT (b : Int) (C : Nat → Nat → Int) : Nat → Nat → Int
  | 0 => rwT b (C 0) 0 (fun _ => 2000000000)
  | i + 1 => rwT b (C (i + 1)) (i + 1) (tT b C i)
def cok (n : Nat) (C : Nat → Nat → Int) : Prop := ∀ i j, i < n → j < n → 0 ≤ C i j ∧ C i j ≤ 15968016
theorem tT_out {b : Int} {C : Nat → Nat → Int} {i j : Nat} (h : ¬ inB b i j) : tT b C i j = 2000000000 := by
  have key : ∀ (c : Nat → Int) (i : Nat) (up : Nat → Int) (j : Nat), ¬ inB b i j → rwT b c i up j = 2000000000 := by
    intro c i up j hh
    unfold inB at hh
    cases j with
    | zero => unfold rwT; rw [if_neg hh]
    | succ j => unfold rwT; rw [if_neg hh]
  cases i with
  | zero => exact key _ _ _ _ h
  | succ i => exact key _ _ _ _ h
/-- what a place of the table is -/
theorem tT_in {b : Int} {C : Nat → Nat → Int} {i j : Nat} (h : inB b i j) : tT b C i j = (match i, j with
    | 0, 0 => 0
    | 0, j + 1 => m2 2000000000 (m2 2000000000 (tT b C 0 j))
    | i + 1, 0 => tT b C i 0
    | i + 1, j + 1 => m2 (tT b C i j) (m2 (tT b C i (j + 1)) (tT b C (i + 1) j))) + C i j := by
  unfold inB at h
  match i, j, h with
  | 0, 0, h => show rwT b (C 0) 0 (fun _ => 2000000000) 0 = _; unfold rwT; rw [if_pos h, if_pos rfl]
  | 0, j + 1, h => show rwT b (C 0) 0 (fun _ => 2000000000) (j + 1) = _; unfold rwT; rw [if_pos h]; rfl
  | i + 1, 0, h => show rwT b (C (i + 1)) (i + 1) (tT b C i) 0 = _; unfold rwT; rw [if_pos h, if_neg (by omega)]
  | i + 1, j + 1, h => show rwT b (C (i + 1)) (i + 1) (tT b C i) (j + 1) = _; unfold rwT; rw [if_pos h]; rfl
theorem tT_b {b : Int} {C : Nat → Nat → Int} {n : Nat} (hb : 0 ≤ b) (hC : cok n C) (hn : n ≤ 16) : ∀ i, i < n → ∀ j, j < n → inB b i j → C 0 0 ≤ tT b C i j ∧ 0 ≤ tT b C i j ∧ tT b C i j ≤ ((i : Int) + j + 1) * 15968016 := by
  intro i
  induction i with
  | zero =>
    intro hi j
    induction j with
    | zero =>
      intro hj h
      have c0 := hC 0 0 hi hj
      rw [tT_in h]
      show C 0 0 ≤ 0 + C 0 0 ∧ 0 ≤ 0 + C 0 0 ∧ 0 + C 0 0 ≤ _
      omega
    | succ j ih =>
      intro hj h
      have c1 := hC 0 (j + 1) hi hj
      have g := ih (by omega) (by unfold inB at *; omega)
      rw [tT_in h]
      show C 0 0 ≤ m2 2000000000 (m2 2000000000 (tT b C 0 j)) + C 0 (j + 1) ∧ 0 ≤ m2 2000000000 (m2 2000000000 (tT b C 0 j)) + C 0 (j + 1) ∧ m2 2000000000 (m2 2000000000 (tT b C 0 j)) + C 0 (j + 1) ≤ _
      have e : m2 2000000000 (m2 2000000000 (tT b C 0 j)) = tT b C 0 j := by
        unfold m2; split <;> (try split) <;> omega
      rw [e]; omega
  | succ i ih =>
    intro hi j
    induction j with
    | zero =>
      intro hj h
      have c1 := hC (i + 1) 0 hi hj
      have g := ih (by omega) 0 hj (by unfold inB at *; omega)
      rw [tT_in h]
      show C 0 0 ≤ tT b C i 0 + C (i + 1) 0 ∧ 0 ≤ tT b C i 0 + C (i + 1) 0 ∧ tT b C i 0 + C (i + 1) 0 ≤ _
      omega
    | succ j ihj =>
      intro hj h
      have c1 := hC (i + 1) (j + 1) hi hj
      have g := ih (by omega) j (by omega) (by unfold inB at *; omega)
      have g0 : C 0 0 ≤ tT b C i (j + 1) ∧ 0 ≤ tT b C i (j + 1) := by
        by_cases c : inB b i (j + 1)
        · have := ih (by omega) (j + 1) hj c; omega
        · rw [tT_out c]; have := hC 0 0 (by omega) (by omega); omega
      have g1 : C 0 0 ≤ tT b C (i + 1) j ∧ 0 ≤ tT b C (i + 1) j := by
        by_cases c : inB b (i + 1) j
        · have := ihj (by omega) c; omega
        · rw [tT_out c]; have := hC 0 0 (by omega) (by omega); omega
      rw [tT_in h]
      show C 0 0 ≤ m2 (tT b C i j) (m2 (tT b C i (j + 1)) (tT b C (i + 1) j)) + C (i + 1) (j + 1) ∧ 0 ≤ m2 (tT b C i j) (m2 (tT b C i (j + 1)) (tT b C (i + 1) j)) + C (i + 1) (j + 1) ∧ m2 (tT b C i j) (m2 (tT b C i (j + 1)) (tT b C (i + 1) j)) + C (i + 1) (j + 1) ≤ _
      have u1 := m2_l (a := tT b C i j) (b := m2 (tT b C i (j + 1)) (tT b C (i + 1) j))
      have u2 := m2_g (v := C 0 0) g.1 (m2_g g0.1 g1.1)
      have u3 := m2_g (v := 0) g.2.1 (m2_g g0.2 g1.2)
      omega
/-- every place: at least the first cost, at most far -/
theorem tT_a {b : Int} {C : Nat → Nat → Int} {n : Nat} (hb : 0 ≤ b) (hC : cok n C) (hn : n ≤ 16) {i j : Nat} (hi : i < n) (hj : j < n) : C 0 0 ≤ tT b C i j ∧ 0 ≤ tT b C i j ∧ tT b C i j ≤ 2000000000 := by
  by_cases c : inB b i j
  · have := tT_b hb hC hn i hi j hj c
    omega
  · rw [tT_out c]
    have := hC 0 0 (by omega) (by omega)
    omega
/-- a row of the table is nowhere below the least of the row above -/
theorem tT_up {b v : Int} {C : Nat → Nat → Int} {n : Nat} (hb : 0 ≤ b) (hC : cok n C) (hv : v ≤ 2000000000) {i : Nat} (hi : i + 1 < n) (h : ∀ j, j < n → v ≤ tT b C i j) : ∀ j, j < n → v ≤ tT b C (i + 1) j := by
  intro j
  induction j with
  | zero =>
    intro hj
    by_cases c : inB b (i + 1) 0
    · rw [tT_in c]
      show v ≤ tT b C i 0 + C (i + 1) 0
      have := hC (i + 1) 0 hi hj
      have := h 0 hj
      omega
    · rw [tT_out c]; exact hv
  | succ j ih =>
    intro hj
    by_cases c : inB b (i + 1) (j + 1)
    · rw [tT_in c]
      show v ≤ m2 (tT b C i j) (m2 (tT b C i (j + 1)) (tT b C (i + 1) j)) + C (i + 1) (j + 1)
      have := hC (i + 1) (j + 1) hi hj
      have := m2_g (v := v) (h j (by omega)) (m2_g (h (j + 1) hj) (ih (by omega)))
      omega
    · rw [tT_out c]; exact hv
theorem tT_dn {b v : Int} {C : Nat → Nat → Int} {n : Nat} (hb : 0 ≤ b) (hC : cok n C) (hv : v ≤ 2000000000) {i : Nat} (h : ∀ j, j < n → v ≤ tT b C i j) : ∀ k, i + k < n → ∀ j, j < n → v ≤ tT b C (i + k) j := by
  intro k
  induction k with
  | zero => intro _ j hj; exact h j hj
  | succ k ih => intro hk; exact tT_up hb hC hv (i := i + k) hk (ih (by omega))
/-- the least of a row -/
def rmT (b : Int) (C : Nat → Nat → Int) (i : Nat) : Nat → Int
  | 0 => 2000000000
  | j + 1 => m2 (rmT b C i j) (tT b C i j)
theorem rmT_le {b : Int} {C : Nat → Nat → Int} {i : Nat} : ∀ n j, j < n → rmT b C i n ≤ tT b C i j := by
  intro n
  induction n with
  | zero => intro j h; omega
  | succ n ih =>
    intro j hj
    show m2 (rmT b C i n) (tT b C i n) ≤ tT b C i j
    by_cases e : j = n
    · rw [e]; exact m2_r
    · have := ih j (by omega)
      have := m2_l (a := rmT b C i n) (b := tT b C i n)
      omega
theorem rmT_far {b : Int} {C : Nat → Nat → Int} {i : Nat} : ∀ n, rmT b C i n ≤ 2000000000 := by
  intro n
  induction n with
  | zero => exact Int.le_refl _
  | succ n ih =>
    have := m2_l (a := rmT b C i n) (b := tT b C i n)
    show m2 (rmT b C i n) (tT b C i n) ≤ _
    omega
theorem rmT_lt {b : Int} {C : Nat → Nat → Int} {n : Nat} (hb : 0 ≤ b) (hC : cok n C) (hn : n ≤ 16) {i : Nat} (hi : i < n) : rmT b C i n ≤ 500000000 := by
  have a := rmT_le (b := b) (C := C) (i := i) n i hi
  have c := tT_b hb hC hn i hi i hi (by unfold inB; omega)
  omega
theorem rmT_out {b : Int} {C : Nat → Nat → Int} {i : Nat} : ∀ n, (∀ j, j < n → ¬ inB b i j) → rmT b C i n = 2000000000 := by
  intro n
  induction n with
  | zero => intro _; rfl
  | succ n ih =>
    intro h
    show m2 (rmT b C i n) (tT b C i n) = _
    rw [ih (fun j hj => h j (by omega)), tT_out (h n (by omega))]; rfl
theorem rmT_tail {b : Int} {C : Nat → Nat → Int} {i k : Nat} : ∀ m, (∀ j, k ≤ j → j < k + m → ¬ inB b i j) → rmT b C i (k + m) = rmT b C i k := by
  intro m
  induction m with
  | zero => intro _; rfl
  | succ m ih =>
    intro h
    show m2 (rmT b C i (k + m)) (tT b C i (k + m)) = _
    rw [ih (fun j h1 h2 => h j h1 (by omega)), tT_out (h (k + m) (by omega) (by omega))]
    have := rmT_far (b := b) (C := C) (i := i) k
    unfold m2
    rw [if_pos this]
/-- the DISTANCE -/
def dT (b : Int) (C : Nat → Nat → Int) (n : Nat) : Int := tT b C (n - 1) (n - 1)
theorem dT_b {b : Int} {C : Nat → Nat → Int} {n : Nat} (hb : 0 ≤ b) (hC : cok n C) (hn1 : 1 ≤ n) (hn : n ≤ 16) : 0 ≤ dT b C n ∧ dT b C n ≤ 500000000 := by
  have c := tT_b hb hC hn (n - 1) (by omega) (n - 1) (by omega) (by unfold inB; omega)
  unfold dT
  omega
/-- a row that has nothing below the limit: neither has the DISTANCE -/
theorem dT_row {b v : Int} {C : Nat → Nat → Int} {n : Nat} (hb : 0 ≤ b) (hC : cok n C) {i : Nat} (hi : i < n) (h : v ≤ rmT b C i n) : v ≤ dT b C n := by
  have f := rmT_far (b := b) (C := C) (i := i) n
  have g := tT_dn hb hC (v := v) (by omega) (i := i) (fun j hj => by have := rmT_le (b := b) (C := C) (i := i) n j hj; omega) (n - 1 - i) (by omega) (n - 1) (by omega)
  rw [show i + (n - 1 - i) = n - 1 by omega] at g
  exact g
/-- the ends' BOUND -/
theorem dT_ends {b : Int} {C : Nat → Nat → Int} {n : Nat} (hb : 0 ≤ b) (hC : cok n C) (hn2 : 2 ≤ n) (hn : n ≤ 16) : C 0 0 + C (n - 1) (n - 1) ≤ dT b C n := by
  obtain ⟨m, hm⟩ : ∃ m, n = m + 2 := ⟨n - 2, by omega⟩
  subst hm
  unfold dT
  have e : m + 2 - 1 = m + 1 := by omega
  rw [e, tT_in (by unfold inB; omega)]
  show C 0 0 + C (m + 1) (m + 1) ≤ m2 (tT b C m m) (m2 (tT b C m (m + 1)) (tT b C (m + 1) m)) + C (m + 1) (m + 1)
  have a1 := tT_a hb hC hn (i := m) (j := m) (by omega) (by omega)
  have a2 := tT_a hb hC hn (i := m) (j := m + 1) (by omega) (by omega)
  have a3 := tT_a hb hC hn (i := m + 1) (j := m) (by omega) (by omega)
  have := m2_g (v := C 0 0) a1.1 (m2_g a2.1 a3.1)
  omega
/-- where a row's band begins and ends; how many places it has -/
def frT (b : Int) (i : Nat) : Int := if 0 < (i : Int) - b then (i : Int) - b else 0
def toT (b : Int) (n i : Nat) : Int := if (i : Int) + b < (n : Int) - 1 then (i : Int) + b else (n : Int) - 1
def cnT (b : Int) (n i : Nat) : Int := toT b n i - frT b i + 1
def csum (b : Int) (n : Nat) : Nat → Int
  | 0 => 0
  | i + 1 => csum b n i + cnT b n i
theorem cnT_b {b : Int} {n i : Nat} (hb : 0 ≤ b) (hi : i < n) : 1 ≤ cnT b n i ∧ cnT b n i ≤ n ∧ 0 ≤ frT b i ∧ frT b i ≤ i ∧ (i : Int) ≤ toT b n i ∧ toT b n i < n := by
  unfold cnT toT frT
  split <;> (try split) <;> omega
theorem csum_b {b : Int} {n : Nat} (hb : 0 ≤ b) (hn : n ≤ 16) : ∀ i, i ≤ n → 0 ≤ csum b n i ∧ csum b n i ≤ 16 * (i : Int) := by
  intro i
  induction i with
  | zero => intro _; exact ⟨Int.le_refl 0, Int.le_refl 0⟩
  | succ i ih =>
    intro h
    have := ih (by omega)
    have := cnT_b (b := b) (n := n) (i := i) hb (by omega)
    show 0 ≤ csum b n i + cnT b n i ∧ csum b n i + cnT b n i ≤ 16 * ((i + 1 : Nat) : Int)
    omega
theorem inB_ft {b : Int} {n i j : Nat} (hj : j < n) : inB b i j ↔ frT b i ≤ j ∧ (j : Int) ≤ toT b n i := by
  unfold inB frT toT
  constructor
  · intro h; split <;> (try split) <;> omega
  · intro h
    constructor
    · have := h.1; split at this <;> omega
    · have := h.2; split at this <;> omega
end
section
theorem x_cost {I : Nat → Int32} {A : Nat → Nat → Int32} {c a b : Int} {z1 z2 : Int32} (h32 : (I 32).toInt = c) (h1 : z1.toInt = a) (h2 : z2.toInt = b) (ha : -1998 ≤ a ∧ a ≤ 1998) (hb : -1998 ≤ b ∧ b ≤ 1998) : (fX2_costOf I A z1 z2).toInt = csT c a b := by
  have e := i32_sub (x := z1) (y := z2) rfl h1 h2 (by omega) (by omega)
  have sq := sq_b (x := a - b) (by omega) (by omega)
  unfold fX2_costOf csT
  simp only [f_lt_eq]
  by_cases c0 : c = 0
  · rw [if_pos (by omega), if_pos c0]
    by_cases c1 : 0 ≤ (z1 - z2).toInt
    · rw [if_pos c1, if_neg (by omega)]; exact e
    · rw [if_neg c1, if_pos (by omega), i32_neg (by omega), e]
  · rw [if_neg (by omega), if_neg c0]
    exact i32_mul (x := z1 - z2) (y := z1 - z2) rfl e e (by omega) (by omega)
theorem m_cost {J : Nat → Int32} {B : Nat → Nat → Int32} {L : Nat → Nat → Int64} {c a b : Int} {z1 z2 : Int32} (hc : (B 18 163).toInt = c) (h1 : z1.toInt = a) (h2 : z2.toInt = b) (ha : -1998 ≤ a ∧ a ≤ 1998) (hb : -1998 ≤ b ∧ b ≤ 1998) : (fM12_costOf J B L z1 z2).toInt = csT c a b := by
  have e := i32_sub (x := z1) (y := z2) rfl h1 h2 (by omega) (by omega)
  have e' := i32_sub (x := z2) (y := z1) rfl h2 h1 (by omega) (by omega)
  have sq := sq_b (x := a - b) (by omega) (by omega)
  have sq' := sq_b (x := b - a) (by omega) (by omega)
  have es : (b - a) * (b - a) = (a - b) * (a - b) := by
    rw [show b - a = -(a - b) by omega, Int.neg_mul_neg]
  unfold fM12_costOf csT
  simp only [f_lt_eq]
  by_cases c1 : z2.toInt ≤ z1.toInt
  · rw [if_pos c1]
    by_cases c0 : c = 0
    · rw [if_neg (by omega), if_pos c0, if_neg (by omega)]; exact e
    · rw [if_pos (by omega), if_neg c0]
      exact i32_mul (x := z1 - z2) (y := z1 - z2) rfl e e (by omega) (by omega)
  · rw [if_neg c1]
    by_cases c0 : c = 0
    · rw [if_neg (by omega), if_pos c0, if_pos (by omega)]; omega
    · rw [if_pos (by omega), if_neg c0, ← es]
      exact i32_mul (x := z2 - z1) (y := z2 - z1) rfl e' e' (by omega) (by omega)
/-- the class's table: the rows ahead of i are laid -/
def XTb (A : Nat → Nat → Int32) (n : Nat) (b : Int) (C : Nat → Nat → Int) (i : Nat) : Prop := ∀ i', i' < i → ∀ j, j < n → inB b i' j → (A 23 (16 * i' + j)).toInt = tT b C i' j
theorem x_ahead {I : Nat → Int32} {A : Nat → Nat → Int32} {n : Nat} {b : Int} {C : Nat → Nat → Int} (h31 : (I 31).toInt = b) (hb : 0 ≤ b) (hC : cok n C) (hn : n ≤ 16) {i j : Nat} (hi : i < n) (hj : j < n) (hB : inB b i j) (h0 : ¬ (i = 0 ∧ j = 0)) (hr : XTb A n b C i) (hc : ∀ j', j' < j → inB b i j' → (A 23 (16 * i + j')).toInt = tT b C i j') {zi zj : Int32} (hzi : zi.toInt = (i : Int)) (hzj : zj.toInt = (j : Int)) : (fX2_leastAhead I A zi zj).toInt + C i j = tT b C i j := by
  have hB2 := hB
  unfold inB at hB2
  have e1 := i32_mul (x := zi) (y := 16) (b := 16) rfl hzi rfl (by omega) (by omega)
  have e2 := i32_add (x := zi * 16) (y := zj) rfl e1 hzj (by omega) (by omega)
  have d1 := i32_sub (x := zi) (y := zj) rfl hzi hzj (by omega) (by omega)
  have d2 := i32_sub (x := zj) (y := zi) rfl hzj hzi (by omega) (by omega)
  have f1 : 1 ≤ 16 * (i : Int) + j → (zi * 16 + zj - 1).toInt = ((16 * i + j - 1 : Nat) : Int) := fun h => by
    have := i32_sub (x := zi * 16 + zj) (y := 1) (b := 1) rfl e2 rfl (by omega) (by omega)
    omega
  have f16 : 1 ≤ i → (zi * 16 + zj - 16).toInt = ((16 * (i - 1) + j : Nat) : Int) := fun h => by
    have := i32_sub (x := zi * 16 + zj) (y := 16) (b := 16) rfl e2 rfl (by omega) (by omega)
    omega
  have f17 : 1 ≤ i → 1 ≤ j → (zi * 16 + zj - 16 - 1).toInt = ((16 * (i - 1) + (j - 1) : Nat) : Int) := fun h h' => by
    have := f16 h
    have := i32_sub (x := zi * 16 + zj - 16) (y := 1) (b := 1) rfl this rfl (by omega) (by omega)
    omega
  have bd : ∀ i' j', i' < n → j' < n → inB b i' j' → 0 ≤ tT b C i' j' ∧ tT b C i' j' ≤ 500000000 := fun i' j' h1 h2 h3 => by
    have := tT_b hb hC hn i' h1 j' h2 h3
    omega
  unfold fX2_leastAhead
  simp only [f_lt_eq]
  match i, j, hi, hj, hB, hB2, h0, hr, hc, hzi, hzj, f1, f16, f17, d1, d2 with
  | 0, 0, _, _, _, _, h0, _, _, _, _, _, _, _, _, _ => exact absurd ⟨rfl, rfl⟩ h0
  | 0, j + 1, hi, hj, hB, hB2, h0, hr, hc, hzi, hzj, f1, f16, f17, d1, d2 =>
    have g : inB b 0 j := by unfold inB; omega
    have v := hc j (by omega) g
    have vb := bd 0 j hi (by omega) g
    have ix := clN (f1 (by omega))
    rw [show 16 * 0 + (j + 1) - 1 = 16 * 0 + j by omega] at ix
    rw [if_pos (by omega), if_neg (by omega), ix, if_neg (by omega), tT_in hB, v]
    show tT b C 0 j + C 0 (j + 1) = m2 2000000000 (m2 2000000000 (tT b C 0 j)) + C 0 (j + 1)
    have e : m2 2000000000 (m2 2000000000 (tT b C 0 j)) = tT b C 0 j := by unfold m2; split <;> (try split) <;> omega
    rw [e]
  | i + 1, 0, hi, hj, hB, hB2, h0, hr, hc, hzi, hzj, f1, f16, f17, d1, d2 =>
    have g : inB b i 0 := by unfold inB; omega
    have v := hr i (by omega) 0 hj g
    have vb := bd i 0 (by omega) hj g
    have ix := clN (f16 (by omega))
    rw [show 16 * (i + 1 - 1) + 0 = 16 * i + 0 by omega] at ix
    rw [if_neg (by omega), if_pos (by omega), ix, if_neg (by omega), tT_in hB, v]
  | i + 1, j + 1, hi, hj, hB, hB2, h0, hr, hc, hzi, hzj, f1, f16, f17, d1, d2 =>
    have g0 : inB b i j := by unfold inB; omega
    have u := hr i (by omega) j (by omega) g0
    have ub := bd i j (by omega) (by omega) g0
    have ix0 := clN (f17 (by omega) (by omega))
    rw [show 16 * (i + 1 - 1) + (j + 1 - 1) = 16 * i + j by omega] at ix0
    have ix1 := clN (f16 (by omega))
    rw [show 16 * (i + 1 - 1) + (j + 1) = 16 * i + (j + 1) by omega] at ix1
    have ix2 := clN (f1 (by omega))
    rw [show 16 * (i + 1) + (j + 1) - 1 = 16 * (i + 1) + j by omega] at ix2
    rw [if_neg (by omega), if_neg (by omega), ix0, ix1, ix2, tT_in hB]
    show _ = m2 (tT b C i j) (m2 (tT b C i (j + 1)) (tT b C (i + 1) j)) + C (i + 1) (j + 1)
    by_cases cu : inB b i (j + 1)
    · have v := hr i (by omega) (j + 1) hj cu
      have cu2 := cu
      unfold inB at cu2
      rw [if_neg (show ¬ (I 31).toInt ≤ (zj - zi).toInt by omega)]
      by_cases cw : inB b (i + 1) j
      · have w := hc j (by omega) cw
        have cw2 := cw
        unfold inB at cw2
        rw [if_neg (show ¬ (I 31).toInt ≤ (zi - zj).toInt by omega)]
        unfold m2
        split <;> split <;> split <;> first | omega | (split <;> first | omega | (split <;> omega))
      · have cx : (I 31).toInt ≤ (zi - zj).toInt := by unfold inB at cw; omega
        rw [if_pos cx, tT_out cw]
        unfold m2
        repeat' (first | omega | split)
    · rw [if_pos (show (I 31).toInt ≤ (zj - zi).toInt by unfold inB at cu; omega), tT_out cu]
      by_cases cw : inB b (i + 1) j
      · have w := hc j (by omega) cw
        have cw2 := cw
        unfold inB at cw2
        rw [if_neg (show ¬ (I 31).toInt ≤ (zi - zj).toInt by omega)]
        unfold m2
        split <;> split <;> first | omega | (split <;> first | omega | (split <;> omega))
      · rw [if_pos (show (I 31).toInt ≤ (zi - zj).toInt by unfold inB at cw; omega), tT_out cw]
        unfold m2
        split <;> first | omega | (split <;> first | omega | (split <;> omega))
theorem i_16r {x y : Int32} {k j : Nat} (h : x.toInt = (k : Int)) (h2 : y.toInt = (j : Int)) (hk : k < 1000) (hj : j < 1000) : (16 * x + y).toNatClampNeg = 16 * k + j := by
  have e1 := i32_mul (x := 16) (y := x) (a := 16) rfl rfl h (by omega) (by omega)
  have e2 := i32_add (x := 16 * x) (y := y) rfl e1 h2 (by omega) (by omega)
  exact clN (by omega)
/-- all that a table is laid of -/
def TB (I : Nat → Int32) (A : Nat → Nat → Int32) (n : Nat) (b c : Int) (lf rt : Nat → Int) : Prop := (1 ≤ n ∧ n ≤ 16) ∧ ((I 30).toInt = (n : Int) ∧ (I 31).toInt = b ∧ (I 32).toInt = c) ∧ (0 ≤ b ∧ b ≤ 1000) ∧ ((∀ i, i < n → (A 21 i).toInt = lf i) ∧ ∀ i, i < n → (A 22 i).toInt = rt i) ∧ (∀ i, i < n → -1998 ≤ lf i ∧ lf i ≤ 1998) ∧ ∀ i, i < n → -1998 ≤ rt i ∧ rt i ≤ 1998
def cC (c : Int) (lf rt : Nat → Int) (i j : Nat) : Int := csT c (lf i) (rt j)
theorem TB.cok {I : Nat → Int32} {A : Nat → Nat → Int32} {n : Nat} {b c : Int} {lf rt : Nat → Int} (h : TB I A n b c lf rt) : cok n (cC c lf rt) := fun i j hi hj => csT_b (h.2.2.2.2.1 i hi) (h.2.2.2.2.2 j hj)
theorem TB.mv {I I' : Nat → Int32} {A A' : Nat → Nat → Int32} {n : Nat} {b c : Int} {lf rt : Nat → Int} (h : TB I A n b c lf rt) (i30 : I' 30 = I 30) (i31 : I' 31 = I 31) (i32 : I' 32 = I 32) (a21 : A' 21 = A 21) (a22 : A' 22 = A 22) : TB I' A' n b c lf rt := by
  unfold TB at *
  rw [i30, i31, i32, a21, a22]; exact h
theorem x_layR {I : Nat → Int32} {A : Nat → Nat → Int32} {n : Nat} {b c : Int} {lf rt : Nat → Int} (h : TB I A n b c lf rt) {i : Nat} (hi : i < n) {z : Int32} (hz : z.toInt = (i : Int)) (hr : XTb A n b (cC c lf rt) i) (h33 : 0 ≤ (I 33).toInt ∧ (I 33).toInt ≤ 1000) : ∃ (v : Int32) (I' : Nat → Int32) (A' : Nat → Nat → Int32), fX2_layRow I A z = (v, I', A') ∧ v.toInt = rmT b (cC c lf rt) i n ∧ Md [33] I I' ∧ (I' 33).toInt = (I 33).toInt + cnT b n i ∧ Md [23] A A' ∧ XTb A' n b (cC c lf rt) (i + 1) := by
  have hC := h.cok
  obtain ⟨⟨hn1, hn⟩, ⟨h30, h31, h32⟩, ⟨hb, hb2⟩, ⟨hl, hrt⟩, lb, rb⟩ := h
  obtain ⟨k1, k2, k3, k4, k5, k6⟩ := cnT_b (b := b) (n := n) (i := i) hb hi
  obtain ⟨C, hCd⟩ : ∃ C, C = cC c lf rt := ⟨_, rfl⟩
  rw [← hCd] at hC hr ⊢
  have t0 : (0 : Int32).toInt = 0 := rfl
  have s1 := i32_sub (x := z) (y := I 31) rfl hz h31 (by omega) (by omega)
  have s2 := i32_sub (x := I 30) (y := 1) (b := 1) rfl h30 rfl (by omega) (by omega)
  have s3 := i32_add (x := z) (y := I 31) rfl hz h31 (by omega) (by omega)
  obtain ⟨fr, hfr⟩ : ∃ fr : Int32, fr = if (0 : Int32) < z - I 31 then z - I 31 else (0 : Int32) := ⟨_, rfl⟩
  obtain ⟨to, hto⟩ : ∃ to : Int32, to = if z + I 31 < I 30 - 1 then z + I 31 else I 30 - 1 := ⟨_, rfl⟩
  have efr : fr.toInt = frT b i := by
    unfold frT
    rcases i32_max (x := 0) (y := z - I 31) hfr with ⟨a, a'⟩ | ⟨a, a'⟩ <;> split <;> omega
  have eto : to.toInt = toT b n i := by
    unfold toT
    rcases i32_min (x := I 30 - 1) (y := z + I 31) hto with ⟨a, a'⟩ | ⟨a, a'⟩ <;> split <;> omega
  obtain ⟨f, hf⟩ : ∃ f : Nat, frT b i = (f : Int) := ⟨(frT b i).toNat, by omega⟩
  obtain ⟨t, ht⟩ : ∃ t : Nat, toT b n i = (t : Int) := ⟨(toT b n i).toNat, by omega⟩
  unfold fX2_layRow
  simp only [f_lt_eq]
  rw [← hfr, ← hto]
  refine run_iiIA (Q := fun r => ∃ (v : Int32) (I' : Nat → Int32) (A' : Nat → Nat → Int32), r = (v, I', A') ∧ v.toInt = rmT b C i n ∧ Md [33] I I' ∧ (I' 33).toInt = (I 33).toInt + cnT b n i ∧ Md [23] A A' ∧ XTb A' n b C (i + 1)) (t + 1 - f) (fun k x y I1 A1 => x.toInt = ((f + k : Nat) : Int) ∧ (y.toInt = if k = 0 then 2147483647 else rmT b C i (f + k)) ∧ I1 = I ∧ Md [23] A A1 ∧ XTb A1 n b C i ∧ ∀ j, j < f + k → inB b i j → (A1 23 (16 * i + j)).toInt = tT b C i j) (fun G k x y I1 A1 hk hP => ?_) FU 0 fr 2147483647 I A ⟨by omega, rfl, rfl, Md.rf, hr, fun j hj hin => ?_⟩ (by omega) (fu_lt (by omega))
  · obtain ⟨hx, hy, eI, mA, hrA, hcA⟩ := hP
    unfold bX2_layRow_34
    dsimp only [f_lt]
    by_cases c1 : to.toInt < x.toInt
    · rw [if_pos c1]
      right
      have ek : f + k = t + 1 := by omega
      have s4 := i32_sub (x := to) (y := fr) rfl eto efr (by omega) (by omega)
      have s5 : (to - fr + 1).toInt = cnT b n i := by
        rw [i32_inc (by omega), s4]; rfl
      have s6 := i32_add (x := I 33) (y := to - fr + 1) rfl rfl s5 (by omega) (by omega)
      refine ⟨_, _, _, rfl, ?_, by rw [eI]; exact Md.up Md.rf rfl, s6, mA, fun i' hi' j hj hin => ?_⟩
      · rw [hy, if_neg (by omega), ek]
        have tl := rmT_tail (b := b) (C := C) (i := i) (k := t + 1) (n - (t + 1)) (fun j h1 h2 hin => by
          have := (inB_ft (b := b) (n := n) (i := i) (j := j) (by omega)).mp hin
          omega)
        rw [show t + 1 + (n - (t + 1)) = n by omega] at tl
        exact tl.symm
      · by_cases e : i' = i
        · subst e
          have := (inB_ft (b := b) (n := n) (i := i') (j := j) hj).mp hin
          exact hcA j (by omega) hin
        · exact hrA i' (by omega) j hj hin
    · rw [if_neg c1]
      left
      have hj : f + k < n := by omega
      have hin : inB b i (f + k) := (inB_ft (b := b) (n := n) (i := i) (j := f + k) hj).mpr ⟨by omega, by omega⟩
      have tb := tT_b hb hC hn i hi (f + k) hj hin
      rw [clN hz, clN hx]
      have cost : (fX2_costOf I1 A1 (A 21 i) (A 22 (f + k))).toInt = C i (f + k) := by
        rw [x_cost (I := I1) (A := A1) (c := c) (by rw [eI]; exact h32) (hl i hi) (hrt (f + k) hj) (lb i hi) (rb (f + k) hj), hCd]; rfl
      have cb := hC i (f + k) hi hj
      have ah : ¬ (i = 0 ∧ f + k = 0) → (fX2_leastAhead I1 A1 z x).toInt + C i (f + k) = tT b C i (f + k) := fun h0 => x_ahead (I := I1) (A := A1) (by rw [eI]; exact h31) hb hC hn hi hj hin h0 hrA hcA hz hx
      -- what is put into the table, and the least so far
      have fin : ∀ (v w : Int32), v.toInt = tT b C i (f + k) → (w = if y.toInt ≤ v.toInt then y else v) → (x + Int32.ofInt 1).toInt = ((f + (k + 1) : Nat) : Int) ∧ (w.toInt = if k + 1 = 0 then 2147483647 else rmT b C i (f + (k + 1))) ∧ I1 = I ∧ Md [23] A (up3 A1 23 (16 * i + (f + k)) v) ∧ XTb (up3 A1 23 (16 * i + (f + k)) v) n b C i ∧ ∀ j, j < f + (k + 1) → inB b i j → (up3 A1 23 (16 * i + (f + k)) v 23 (16 * i + j)).toInt = tT b C i j := fun v w hv hw => by
        refine ⟨i_s (k := f + k) hx (by omega), ?_, eI, Md.up3 mA rfl, fun i' hi' j hj' hin' => ?_, fun j hj' hin' => ?_⟩
        · rw [if_neg (by omega)]
          show w.toInt = m2 (rmT b C i (f + k)) (tT b C i (f + k))
          by_cases k0 : k = 0
          · rw [if_pos k0] at hy
            rw [if_neg (by omega)] at hw
            have ro := rmT_out (b := b) (C := C) (i := i) (f + k) (fun j h1 h2 => by
              have := (inB_ft (b := b) (n := n) (i := i) (j := j) (by omega)).mp h2
              omega)
            rw [ro, hw, hv]
            unfold m2
            rw [if_neg (by omega)]
          · rw [if_neg k0] at hy
            unfold m2
            by_cases c5 : y.toInt ≤ v.toInt
            · rw [if_pos c5] at hw
              rw [if_pos (by omega), hw, hy]
            · rw [if_neg c5] at hw
              rw [if_neg (by omega), hw, hv]
        · rw [up3_ne (by omega)]; exact hrA i' hi' j hj' hin'
        · by_cases e : j = f + k
          · rw [up3_at (by omega), e]; exact hv
          · rw [up3_ne (by omega)]; exact hcA j (by omega) hin'
      have ix : (z * 16 + x).toNatClampNeg = 16 * i + (f + k) := i_16 hz hx (by omega) (by omega)
      refine ⟨by omega, ?_⟩
      by_cases c2 : 0 < z.toInt
      · rw [if_pos c2, ix]
        have a := ah (by omega)
        have ev : (fX2_costOf I1 A1 (A 21 i) (A 22 (f + k)) + fX2_leastAhead I1 A1 z x).toInt = tT b C i (f + k) := by
          have := i32_add (x := fX2_costOf I1 A1 (A 21 i) (A 22 (f + k))) (y := fX2_leastAhead I1 A1 z x) rfl cost rfl (by omega) (by omega)
          omega
        by_cases c5 : y.toInt ≤ (fX2_costOf I1 A1 (A 21 i) (A 22 (f + k)) + fX2_leastAhead I1 A1 z x).toInt
        · rw [if_pos c5]
          exact ⟨_, _, _, _, rfl, fin _ y ev (by rw [if_pos c5])⟩
        · rw [if_neg c5]
          exact ⟨_, _, _, _, rfl, fin _ _ ev (by rw [if_neg c5])⟩
      · rw [if_neg c2]
        have i0 : i = 0 := by omega
        by_cases c3 : x.toInt ≤ 0
        · rw [if_pos c3, ix]
          have ev : (fX2_costOf I1 A1 (A 21 i) (A 22 (f + k))).toInt = tT b C i (f + k) := by
            rw [cost]
            have e0 : f + k = 0 := by omega
            rw [e0] at hin ⊢
            rw [i0] at hin ⊢
            rw [tT_in hin]
            show C 0 0 = 0 + C 0 0
            omega
          by_cases c5 : y.toInt ≤ (fX2_costOf I1 A1 (A 21 i) (A 22 (f + k))).toInt
          · rw [if_pos c5]
            exact ⟨_, _, _, _, rfl, fin _ y ev (by rw [if_pos c5])⟩
          · rw [if_neg c5]
            exact ⟨_, _, _, _, rfl, fin _ _ ev (by rw [if_neg c5])⟩
        · rw [if_neg c3, ix]
          have a := ah (by omega)
          have ev : (fX2_costOf I1 A1 (A 21 i) (A 22 (f + k)) + fX2_leastAhead I1 A1 z x).toInt = tT b C i (f + k) := by
            have := i32_add (x := fX2_costOf I1 A1 (A 21 i) (A 22 (f + k))) (y := fX2_leastAhead I1 A1 z x) rfl cost rfl (by omega) (by omega)
            omega
          by_cases c5 : y.toInt ≤ (fX2_costOf I1 A1 (A 21 i) (A 22 (f + k)) + fX2_leastAhead I1 A1 z x).toInt
          · rw [if_pos c5]
            exact ⟨_, _, _, _, rfl, fin _ y ev (by rw [if_pos c5])⟩
          · rw [if_neg c5]
            exact ⟨_, _, _, _, rfl, fin _ _ ev (by rw [if_neg c5])⟩
  · have := (inB_ft (b := b) (n := n) (i := i) (j := j) (by omega)).mp hin
    omega
/-- how a table is laid up to a limit: whole, or broken off at the row i0 -/
def WH (b : Int) (C : Nat → Nat → Int) (n : Nat) (lim : Int) : Prop := ∀ i, i < n → rmT b C i n < lim
def BK (b : Int) (C : Nat → Nat → Int) (n : Nat) (lim : Int) (i0 : Nat) : Prop := i0 < n ∧ (∀ i, i < i0 → rmT b C i n < lim) ∧ lim ≤ rmT b C i0 n
theorem BK.uq {b : Int} {C : Nat → Nat → Int} {n : Nat} {lim : Int} {i j : Nat} (h : BK b C n lim i) (h' : BK b C n lim j) : i = j := by
  by_cases c : i < j
  · have := h'.2.1 i c; have := h.2.2; omega
  · by_cases d : j < i
    · have := h.2.1 j d; have := h'.2.2; omega
    · omega
theorem x_table {I : Nat → Int32} {A : Nat → Nat → Int32} {n : Nat} {b c : Int} {lf rt : Nat → Int} (h : TB I A n b c lf rt) {z : Int32} {lim : Int} (hz : z.toInt = lim) : ∃ (I' : Nat → Int32) (A' : Nat → Nat → Int32), fX2_layTable I A z = (0, I', A') ∧ Md [33, 34] I I' ∧ Md [23] A A' ∧ ((WH b (cC c lf rt) n lim ∧ (I' 34).toInt = -2 ∧ (I' 33).toInt = csum b n n ∧ XTb A' n b (cC c lf rt) n) ∨ (∃ i0, BK b (cC c lf rt) n lim i0 ∧ (I' 34).toInt = (i0 : Int) ∧ (I' 33).toInt = csum b n (i0 + 1))) := by
  obtain ⟨⟨hn1, hn⟩, ⟨h30, h31, h32⟩, ⟨hb, hb2⟩, -⟩ := id h
  unfold fX2_layTable
  refine run_iIA (Q := fun r => ∃ (I' : Nat → Int32) (A' : Nat → Nat → Int32), r = (0, I', A') ∧ Md [33, 34] I I' ∧ Md [23] A A' ∧ ((WH b (cC c lf rt) n lim ∧ (I' 34).toInt = -2 ∧ (I' 33).toInt = csum b n n ∧ XTb A' n b (cC c lf rt) n) ∨ (∃ i0, BK b (cC c lf rt) n lim i0 ∧ (I' 34).toInt = (i0 : Int) ∧ (I' 33).toInt = csum b n (i0 + 1)))) n (fun k x I1 A1 => x.toInt = (k : Int) ∧ Md [33, 34] I I1 ∧ Md [23] A A1 ∧ (I1 34).toInt = -2 ∧ (I1 33).toInt = csum b n k ∧ XTb A1 n b (cC c lf rt) k ∧ ∀ i, i < k → rmT b (cC c lf rt) i n < lim) (fun G k x I1 A1 hk hP => ?_) FU 0 0 _ A ⟨rfl, Md.up (Md.up Md.rf rfl) rfl, Md.rf, rfl, rfl, fun i' hi' => by omega, fun i hi => by omega⟩ (by omega) (fu_lt (by omega))
  obtain ⟨hx, mI, mA, h34, h33, hr, hl⟩ := hP
  unfold bX2_layTable_13
  dsimp only [f_lt]
  by_cases c1 : (I 30).toInt ≤ x.toInt
  · rw [if_pos c1]
    right
    have ek : k = n := by omega
    subst ek
    exact ⟨I1, A1, rfl, mI, mA, Or.inl ⟨hl, h34, h33, hr⟩⟩
  · rw [if_neg c1]
    have cs := csum_b (b := b) (n := n) hb hn k hk
    have h' := h.mv (I' := I1) (A' := A1) (mI 30 rfl) (mI 31 rfl) (mI 32 rfl) (mA 21 rfl) (mA 22 rfl)
    obtain ⟨v, I2, A2, e1, e2, e3, e4, e5, e6⟩ := x_layR h' (i := k) (by omega) hx hr (by omega)
    rw [e1, bdX_mk]
    by_cases c2 : v.toInt < z.toInt
    · rw [if_pos c2]
      left
      refine ⟨by omega, _, _, _, rfl, i_s hx (by omega), Md.tr mI e3 rfl, Md.tr mA e5 rfl, by rw [e3 34 rfl]; exact h34, by rw [e4, h33]; rfl, e6, fun i hi => ?_⟩
      by_cases e : i = k
      · rw [e]; omega
      · exact hl i (by omega)
    · rw [if_neg c2]
      right
      refine ⟨_, A2, rfl, Md.up (Md.tr mI e3 rfl) rfl, Md.tr mA e5 rfl, Or.inr ⟨k, ⟨by omega, hl, by omega⟩, hx, ?_⟩⟩
      show (I2 33).toInt = csum b n (k + 1)
      rw [e4, h33]; rfl
/-- the DISTANCE that lies in a whole table -/
theorem x_laid {I : Nat → Int32} {A : Nat → Nat → Int32} {n : Nat} {b : Int} {C : Nat → Nat → Int} (h30 : (I 30).toInt = (n : Int)) (hn1 : 1 ≤ n) (hn : n ≤ 16) (hb : 0 ≤ b) (h : XTb A n b C n) : (fX2_laidDistance I A).toInt = dT b C n := by
  have e1 := i32_sub (x := I 30) (y := 1) (b := 1) rfl h30 rfl (by omega) (by omega)
  have e2 := i32_mul (x := I 30 - 1) (y := 16) (b := 16) rfl e1 rfl (by omega) (by omega)
  have e3 := i32_add (x := (I 30 - 1) * 16) (y := I 30) rfl e2 h30 (by omega) (by omega)
  have e4 : ((I 30 - 1) * 16 + I 30 - 1).toInt = ((16 * (n - 1) + (n - 1) : Nat) : Int) := by
    have := i32_sub (x := (I 30 - 1) * 16 + I 30) (y := 1) (b := 1) rfl e3 rfl (by omega) (by omega)
    omega
  unfold fX2_laidDistance
  simp only [f_lt_eq]
  rw [clN e4]
  exact h (n - 1) (by omega) (n - 1) (by omega) (by unfold inB; omega)
theorem WH.far {b : Int} {C : Nat → Nat → Int} {n : Nat} {lim : Int} (hb : 0 ≤ b) (hC : cok n C) (hn : n ≤ 16) (hl : 500000000 < lim) : WH b C n lim := fun i hi => by
  have := rmT_lt hb hC hn hi
  omega
theorem x_whole {I : Nat → Int32} {A : Nat → Nat → Int32} {n : Nat} {b c : Int} {lf rt : Nat → Int} (h : TB I A n b c lf rt) : ∃ (v : Int32) (I' : Nat → Int32) (A' : Nat → Nat → Int32), fX2_wholeDistance I A = (v, I', A') ∧ v.toInt = dT b (cC c lf rt) n ∧ Md [33, 34] I I' ∧ Md [23] A A' ∧ XTb A' n b (cC c lf rt) n := by
  obtain ⟨⟨hn1, hn⟩, ⟨h30, -, -⟩, ⟨hb, hb2⟩, -⟩ := id h
  obtain ⟨I', A', e1, e2, e3, e4⟩ := x_table h (z := 2147483647) (lim := 2147483647) rfl
  have wh := WH.far (lim := 2147483647) hb h.cok hn (by omega)
  unfold fX2_wholeDistance
  rw [e1, bdX_mk, f_lt_eq]
  rcases e4 with ⟨-, -, -, g⟩ | ⟨i0, g, -⟩
  · exact ⟨_, I', A', rfl, x_laid (by rw [e2 30 rfl]; exact h30) hn1 hn hb g, e2, e3, g⟩
  · have := wh i0 g.1; have := g.2.2; omega
end
section
/-- all that the reference's table is laid of -/
def TN (J : Nat → Int32) (B : Nat → Nat → Int32) (n : Nat) (b c : Int) (lf rt : Nat → Int) : Prop := (1 ≤ n ∧ n ≤ 16) ∧ ((J 18).toInt = (n : Int) ∧ (B 18 161).toInt = b ∧ (B 18 163).toInt = c) ∧ (0 ≤ b ∧ b ≤ 1000) ∧ ((∀ i, i < n → (B 19 i).toInt = lf i) ∧ ∀ i, i < n → (B 20 i).toInt = rt i) ∧ (∀ i, i < n → -1998 ≤ lf i ∧ lf i ≤ 1998) ∧ ∀ i, i < n → -1998 ≤ rt i ∧ rt i ≤ 1998
theorem TN.cok {J : Nat → Int32} {B : Nat → Nat → Int32} {n : Nat} {b c : Int} {lf rt : Nat → Int} (h : TN J B n b c lf rt) : cok n (cC c lf rt) := fun i j hi hj => csT_b (h.2.2.2.2.1 i hi) (h.2.2.2.2.2 j hj)
theorem TN.mv {J J' : Nat → Int32} {B B' : Nat → Nat → Int32} {n : Nat} {b c : Int} {lf rt : Nat → Int} (h : TN J B n b c lf rt) (j18 : J' 18 = J 18) (b18 : B' 18 = B 18) (b19 : B' 19 = B 19) (b20 : B' 20 = B 20) : TN J' B' n b c lf rt := by
  unfold TN at *
  rw [j18, b18, b19, b20]; exact h
def MTb (B : Nat → Nat → Int32) (n : Nat) (b : Int) (C : Nat → Nat → Int) (i : Nat) : Prop := ∀ i', i' < i → ∀ j, j < n → inB b i' j → (B 21 (16 * i' + j)).toInt = tT b C i' j
theorem m_band {J : Nat → Int32} {B : Nat → Nat → Int32} {L : Nat → Nat → Int64} {n : Nat} {b : Int} (hn : n ≤ 16) (h18 : (J 18).toInt = (n : Int)) (hb : (B 18 161).toInt = b) (hb0 : 0 ≤ b) (hb1 : b ≤ 1000) {z1 z2 : Int32} {i j : Nat} (h1 : z1.toInt = (i : Int)) (h2 : z2.toInt = (j : Int)) (hi : i < 1000) (hj : j < 1000) : (fM12_isBand J B L z1 z2 = 1 ∧ j < n ∧ inB b i j) ∨ (fM12_isBand J B L z1 z2 = 0 ∧ ¬ (j < n ∧ inB b i j)) := by
  have e0 : (0 : Int32).toInt = 0 := rfl
  have e1 := i32_sub (x := J 18) (y := 1) (b := 1) rfl h18 rfl (by omega) (by omega)
  have e2 := i32_sub (x := z1) (y := z2) rfl h1 h2 (by omega) (by omega)
  have e3 : (-(B 18 161)).toInt = -b := by rw [i32_neg (by omega), hb]
  unfold fM12_isBand inB
  simp only [f_lt_eq]
  rw [m_in, m_in, if10, if10]
  by_cases c1 : j < n
  · rw [if_pos (by omega)]
    by_cases c2 : (i : Int) - (j : Int) ≤ b ∧ (j : Int) - (i : Int) ≤ b
    · rw [if_pos (by omega)]; exact Or.inl ⟨rfl, c1, c2⟩
    · rw [if_neg (by omega)]; exact Or.inr ⟨rfl, fun h9 => c2 h9.2⟩
  · rw [if_neg (by omega)]; exact Or.inr ⟨rfl, fun h9 => c1 h9.1⟩
section MTAB
variable {J : Nat → Int32} {B : Nat → Nat → Int32} {L : Nat → Nat → Int64} {n : Nat} {b : Int} {C : Nat → Nat → Int}
theorem m_atn {z1 z2 : Int32} (h : z1.toInt < 0 ∨ z2.toInt < 0) : fM12_atTable J B L z1 z2 = 2000000000 := by
  unfold fM12_atTable
  simp only [f_lt_eq]
  by_cases c : z1.toInt < 0
  · rw [if_pos c]
  · rw [if_neg c, if_pos (by omega)]
theorem m_at (hn : n ≤ 16) (h18 : (J 18).toInt = (n : Int)) (hb : (B 18 161).toInt = b) (hb0 : 0 ≤ b) (hb1 : b ≤ 1000) {z1 z2 : Int32} {i j : Nat} (h1 : z1.toInt = (i : Int)) (h2 : z2.toInt = (j : Int)) (hi : i < 1000) (hj : j < n) (ht : inB b i j → (B 21 (16 * i + j)).toInt = tT b C i j) : (fM12_atTable J B L z1 z2).toInt = tT b C i j := by
  unfold fM12_atTable
  simp only [f_lt_eq]
  rw [if_neg (by omega), if_neg (by omega)]
  rcases m_band (J := J) (B := B) (L := L) hn h18 hb hb0 hb1 h1 h2 hi (by omega) with ⟨a, -, d⟩ | ⟨a, d⟩
  · rw [a, if_neg (by decide), i_16r h1 h2 hi (by omega)]; exact ht d
  · rw [a, if_pos rfl, tT_out (fun h9 => d ⟨hj, h9⟩)]; rfl
theorem m_lst {z1 z2 : Int32} : (fM12_least J B L z1 z2).toInt = m2 z1.toInt z2.toInt := by
  unfold fM12_least m2
  split <;> (try split) <;> omega
theorem m_ahead (hn : n ≤ 16) (h18 : (J 18).toInt = (n : Int)) (hb : (B 18 161).toInt = b) (hb0 : 0 ≤ b) (hb1 : b ≤ 1000) (hC : cok n C) {i j : Nat} (hi : i < n) (hj : j < n) (hB : inB b i j) (h0 : ¬ (i = 0 ∧ j = 0)) (hr : MTb B n b C i) (hc : ∀ j', j' < j → inB b i j' → (B 21 (16 * i + j')).toInt = tT b C i j') {zi zj : Int32} (hzi : zi.toInt = (i : Int)) (hzj : zj.toInt = (j : Int)) : (fM12_least J B L (fM12_atTable J B L (zi - 1) (zj - 1)) (fM12_least J B L (fM12_atTable J B L (zi - 1) zj) (fM12_atTable J B L zi (zj - 1)))).toInt + C i j = tT b C i j := by
  have d1 := i32_sub (x := zi) (y := 1) (b := 1) rfl hzi rfl (by omega) (by omega)
  have d2 := i32_sub (x := zj) (y := 1) (b := 1) rfl hzj rfl (by omega) (by omega)
  have far : (2000000000 : Int32).toInt = 2000000000 := rfl
  rw [m_lst, m_lst]
  match i, j, hi, hj, hB, h0, hr, hc, hzi, hzj, d1, d2 with
  | 0, 0, _, _, _, h0, _, _, _, _, _, _ => exact absurd ⟨rfl, rfl⟩ h0
  | 0, j + 1, hi, hj, hB, h0, hr, hc, hzi, hzj, d1, d2 =>
    rw [m_atn (J := J) (B := B) (L := L) (z1 := zi - 1) (z2 := zj - 1) (Or.inl (by omega)), m_atn (J := J) (B := B) (L := L) (z1 := zi - 1) (z2 := zj) (Or.inl (by omega)), m_at (C := C) (i := 0) (j := j) hn h18 hb hb0 hb1 hzi (by omega) (by omega) (by omega) (fun h9 => hc j (by omega) h9), tT_in hB, far]
  | i + 1, 0, hi, hj, hB, h0, hr, hc, hzi, hzj, d1, d2 =>
    have tb := (tT_a hb0 hC hn (i := i) (j := 0) (by omega) hj).2.2
    rw [m_atn (J := J) (B := B) (L := L) (z1 := zi - 1) (z2 := zj - 1) (Or.inr (by omega)), m_atn (J := J) (B := B) (L := L) (z1 := zi) (z2 := zj - 1) (Or.inr (by omega)), m_at (C := C) (i := i) (j := 0) hn h18 hb hb0 hb1 (by omega) hzj (by omega) hj (fun h9 => hr i (by omega) 0 hj h9), tT_in hB, far]
    show m2 2000000000 (m2 (tT b C i 0) 2000000000) + C (i + 1) 0 = tT b C i 0 + C (i + 1) 0
    have e : m2 2000000000 (m2 (tT b C i 0) 2000000000) = tT b C i 0 := by unfold m2; split <;> (try split) <;> omega
    rw [e]
  | i + 1, j + 1, hi, hj, hB, h0, hr, hc, hzi, hzj, d1, d2 =>
    rw [m_at (C := C) (i := i) (j := j) hn h18 hb hb0 hb1 (by omega) (by omega) (by omega) (by omega) (fun h9 => hr i (by omega) j (by omega) h9), m_at (C := C) (i := i) (j := j + 1) hn h18 hb hb0 hb1 (by omega) hzj (by omega) hj (fun h9 => hr i (by omega) (j + 1) hj h9), m_at (C := C) (i := i + 1) (j := j) hn h18 hb hb0 hb1 hzi (by omega) (by omega) (by omega) (fun h9 => hc j (by omega) h9), tT_in hB]
end MTAB
/-- places of the band ahead of j -/
def cjT (b : Int) (n i j : Nat) : Int := if (j : Int) ≤ frT b i then 0 else if (j : Int) ≤ toT b n i + 1 then (j : Int) - frT b i else toT b n i + 1 - frT b i
theorem m_row {J : Nat → Int32} {B : Nat → Nat → Int32} {L : Nat → Nat → Int64} {n : Nat} {b c : Int} {lf rt : Nat → Int} (h : TN J B n b c lf rt) {i : Nat} (hi : i < n) {z : Int32} (hz : z.toInt = (i : Int)) (hr : MTb B n b (cC c lf rt) i) (h19 : 0 ≤ (J 19).toInt ∧ (J 19).toInt ≤ 1000) : ∃ (v : Int32) (J' : Nat → Int32) (B' : Nat → Nat → Int32), fM12_laysRow J B L z = (v, J', B', L) ∧ v.toInt = rmT b (cC c lf rt) i n ∧ Md [19] J J' ∧ (J' 19).toInt = (J 19).toInt + cnT b n i ∧ Md [21] B B' ∧ MTb B' n b (cC c lf rt) (i + 1) := by
  have hC := h.cok
  obtain ⟨⟨hn1, hn⟩, ⟨h18, hbb, hcc⟩, ⟨hb, hb2⟩, ⟨hl, hrt⟩, lb, rb⟩ := h
  obtain ⟨k1, k2, k3, k4, k5, k6⟩ := cnT_b (b := b) (n := n) (i := i) hb hi
  obtain ⟨C, hCd⟩ : ∃ C, C = cC c lf rt := ⟨_, rfl⟩
  rw [← hCd] at hC hr ⊢
  unfold fM12_laysRow
  refine run_iiIAL (Q := fun r => ∃ (v : Int32) (J' : Nat → Int32) (B' : Nat → Nat → Int32), r = (v, J', B', L) ∧ v.toInt = rmT b C i n ∧ Md [19] J J' ∧ (J' 19).toInt = (J 19).toInt + cnT b n i ∧ Md [21] B B' ∧ MTb B' n b C (i + 1)) n (fun j x y J1 B1 L1 => x.toInt = (j : Int) ∧ y.toInt = rmT b C i j ∧ Md [19] J J1 ∧ (J1 19).toInt = (J 19).toInt + cjT b n i j ∧ Md [21] B B1 ∧ L1 = L ∧ MTb B1 n b C i ∧ ∀ j', j' < j → inB b i j' → (B1 21 (16 * i + j')).toInt = tT b C i j') (fun G j x y J1 B1 L1 hj hP => ?_) FU 0 0 2000000000 J B L ⟨rfl, rfl, Md.rf, by unfold cjT; rw [if_pos (by omega)]; omega, Md.rf, rfl, hr, fun j' hj' => by omega⟩ (by omega) (fu_lt (by omega))
  obtain ⟨hx, hy, mJ, hcn, mB, eL, hrB, hcB⟩ := hP
  have cjb : 0 ≤ cjT b n i j ∧ cjT b n i j ≤ 16 := by
    unfold cjT
    split
    · omega
    · split <;> omega
  unfold bM12_laysRow_6
  dsimp only [f_lt]
  by_cases c1 : (J 18).toInt ≤ x.toInt
  · rw [if_pos c1]
    right
    have ej : j = n := by omega
    subst ej
    refine ⟨_, _, _, by rw [eL], hy, mJ, ?_, mB, fun i' hi' j' hj' hin => ?_⟩
    · rw [hcn]
      unfold cjT cnT
      rw [if_neg (by omega)]
      split <;> omega
    · by_cases e : i' = i
      · subst e; exact hcB j' hj' hin
      · exact hrB i' (by omega) j' hj' hin
  · rw [if_neg c1]
    left
    have hjn : j < n := by omega
    refine ⟨hjn, ?_⟩
    have g18 : (J1 18).toInt = (n : Int) := by rw [mJ 18 rfl]; exact h18
    have gb : (B1 18 161).toInt = b := by rw [mB 18 rfl]; exact hbb
    have ft := inB_ft (b := b) (n := n) (i := i) (j := j) hjn
    rcases m_band (J := J1) (B := B1) (L := L1) hn g18 gb hb hb2 hz hx (by omega) (by omega) with ⟨a, -, hin⟩ | ⟨a, hout⟩
    · rw [a, if_neg (by decide)]
      have f1 := ft.mp hin
      have tb := tT_b hb hC hn i hi j hjn hin
      have cb := hC i j hi hjn
      rw [clN hz, clN hx]
      have cost : (fM12_costOf J1 B1 L1 (B 19 i) (B 20 j)).toInt = C i j := by
        rw [m_cost (c := c) (by rw [mB 18 rfl]; exact hcc) (hl i hi) (hrt j hjn) (lb i hi) (rb j hjn), hCd]; rfl
      have ah : ¬ (i = 0 ∧ j = 0) → _ := fun h0 => m_ahead (J := J1) (B := B1) (L := L1) hn g18 gb hb hb2 hC hi hjn hin h0 hrB hcB hz hx
      have fin : ∀ (v : Int32), v.toInt = tT b C i j → (x + Int32.ofInt 1).toInt = ((j + 1 : Nat) : Int) ∧ (fM12_least J1 (up3 B1 21 (16 * i + j) v) L1 y (up3 B1 21 (16 * i + j) v 21 (16 * i + j))).toInt = rmT b C i (j + 1) ∧ Md [19] J (upd J1 19 (J1 19 + 1)) ∧ (upd J1 19 (J1 19 + 1) 19).toInt = (J 19).toInt + cjT b n i (j + 1) ∧ Md [21] B (up3 B1 21 (16 * i + j) v) ∧ L1 = L ∧ MTb (up3 B1 21 (16 * i + j) v) n b C i ∧ ∀ j', j' < j + 1 → inB b i j' → (up3 B1 21 (16 * i + j) v 21 (16 * i + j')).toInt = tT b C i j' := fun v hv => by
        refine ⟨i_s hx (by omega), ?_, Md.up mJ rfl, ?_, Md.up3 mB rfl, eL, fun i' hi' j' hj' hin' => ?_, fun j' hj' hin' => ?_⟩
        · rw [m_lst, up3_at rfl, hy, hv]; rfl
        · show (J1 19 + 1).toInt = _
          rw [i32_inc (by omega), hcn]
          have e1 : cjT b n i j = (j : Int) - frT b i := by
            unfold cjT
            by_cases c9 : (j : Int) ≤ frT b i
            · rw [if_pos c9]; omega
            · rw [if_neg c9, if_pos (by omega)]
          have e2 : cjT b n i (j + 1) = ((j + 1 : Nat) : Int) - frT b i := by
            unfold cjT
            rw [if_neg (by omega), if_pos (by omega)]
          omega
        · rw [up3_ne (by omega)]; exact hrB i' hi' j' hj' hin'
        · by_cases e : j' = j
          · rw [up3_at (by omega), e]; exact hv
          · rw [up3_ne (by omega)]; exact hcB j' (by omega) hin'
      have ix : (16 * z + x).toNatClampNeg = 16 * i + j := i_16r hz hx (by omega) (by omega)
      rw [ix]
      obtain ⟨q, hq⟩ : ∃ q, q = fM12_least J1 B1 L1 (fM12_atTable J1 B1 L1 (z - 1) (x - 1)) (fM12_least J1 B1 L1 (fM12_atTable J1 B1 L1 (z - 1) x) (fM12_atTable J1 B1 L1 z (x - 1))) := ⟨_, rfl⟩
      rw [← hq] at ah ⊢
      by_cases c2 : z.toInt = 0
      · rw [if_neg (fun h9 => h9 c2)]
        by_cases c3 : x.toInt = 0
        · rw [if_neg (fun h9 => h9 c3)]
          refine ⟨_, _, _, _, _, rfl, fin _ ?_⟩
          have i0 : i = 0 := by omega
          have j0 : j = 0 := by omega
          have := i32_add (x := 0) (y := fM12_costOf J1 B1 L1 (B 19 i) (B 20 j)) (a := 0) rfl rfl cost (by omega) (by omega)
          rw [this]
          subst i0; subst j0
          rw [tT_in hin]
        · rw [if_pos c3]
          have a9 := ah (by omega)
          refine ⟨_, _, _, _, _, rfl, fin _ ?_⟩
          have := i32_add (x := q) (y := fM12_costOf J1 B1 L1 (B 19 i) (B 20 j)) rfl rfl cost (by omega) (by omega)
          omega
      · rw [if_pos c2]
        have a9 := ah (by omega)
        refine ⟨_, _, _, _, _, rfl, fin _ ?_⟩
        have := i32_add (x := q) (y := fM12_costOf J1 B1 L1 (B 19 i) (B 20 j)) rfl rfl cost (by omega) (by omega)
        omega
    · rw [a, if_pos rfl]
      have hout2 : ¬ inB b i j := fun h9 => hout ⟨hjn, h9⟩
      have f1 : ¬ (frT b i ≤ j ∧ (j : Int) ≤ toT b n i) := fun h9 => hout2 (ft.mpr h9)
      refine ⟨_, _, _, _, _, rfl, i_s hx (by omega), ?_, mJ, ?_, mB, eL, hrB, fun j' hj' hin' => ?_⟩
      · show y.toInt = m2 (rmT b C i j) (tT b C i j)
        rw [tT_out hout2, hy]
        have := rmT_far (b := b) (C := C) (i := i) j
        unfold m2
        rw [if_pos this]
      · rw [hcn]
        unfold cjT
        split <;> split <;> first | omega | (split <;> first | omega | (split <;> omega))
      · by_cases e : j' = j
        · rw [e] at hin'; exact absurd hin' hout2
        · exact hcB j' (by omega) hin'
theorem m_table {J : Nat → Int32} {B : Nat → Nat → Int32} {L : Nat → Nat → Int64} {n : Nat} {b c : Int} {lf rt : Nat → Int} (h : TN J B n b c lf rt) {z : Int32} {lim : Int} (hz : z.toInt = lim) : ∃ (v : Int32) (J' : Nat → Int32) (B' : Nat → Nat → Int32), fM12_laysTable J B L z = (v, J', B', L) ∧ Md [19, 20] J J' ∧ Md [21] B B' ∧ ((WH b (cC c lf rt) n lim ∧ v.toInt = dT b (cC c lf rt) n ∧ (J' 20).toInt = -1 ∧ (J' 19).toInt = csum b n n ∧ MTb B' n b (cC c lf rt) n) ∨ (∃ i0, BK b (cC c lf rt) n lim i0 ∧ v.toInt = 2000000000 ∧ (J' 20).toInt = (i0 : Int) ∧ (J' 19).toInt = csum b n (i0 + 1))) := by
  obtain ⟨⟨hn1, hn⟩, ⟨h18, hbb, hcc⟩, ⟨hb, hb2⟩, -⟩ := id h
  unfold fM12_laysTable
  refine run_iIAL (Q := fun r => ∃ (v : Int32) (J' : Nat → Int32) (B' : Nat → Nat → Int32), r = (v, J', B', L) ∧ Md [19, 20] J J' ∧ Md [21] B B' ∧ ((WH b (cC c lf rt) n lim ∧ v.toInt = dT b (cC c lf rt) n ∧ (J' 20).toInt = -1 ∧ (J' 19).toInt = csum b n n ∧ MTb B' n b (cC c lf rt) n) ∨ (∃ i0, BK b (cC c lf rt) n lim i0 ∧ v.toInt = 2000000000 ∧ (J' 20).toInt = (i0 : Int) ∧ (J' 19).toInt = csum b n (i0 + 1)))) n (fun k x J1 B1 L1 => x.toInt = (k : Int) ∧ Md [19, 20] J J1 ∧ Md [21] B B1 ∧ L1 = L ∧ (J1 20).toInt = -1 ∧ (J1 19).toInt = csum b n k ∧ MTb B1 n b (cC c lf rt) k ∧ ∀ i, i < k → rmT b (cC c lf rt) i n < lim) (fun G k x J1 B1 L1 hk hP => ?_) FU 0 0 _ B L ⟨rfl, Md.up (Md.up Md.rf rfl) rfl, Md.rf, rfl, rfl, rfl, fun i' hi' => by omega, fun i hi => by omega⟩ (by omega) (fu_lt (by omega))
  obtain ⟨hx, mJ, mB, eL, h20, h19, hr, hl⟩ := hP
  unfold bM12_laysTable_12
  dsimp only [f_lt]
  by_cases c1 : (J 18).toInt ≤ x.toInt
  · rw [if_pos c1]
    right
    have ek : k = n := by omega
    subst ek
    have e1 : (J 18 - 1).toInt = ((k - 1 : Nat) : Int) := by
      have := i32_sub (x := J 18) (y := 1) (b := 1) rfl h18 rfl (by omega) (by omega)
      omega
    refine ⟨_, J1, B1, by rw [eL], mJ, mB, Or.inl ⟨hl, ?_, h20, h19, hr⟩⟩
    exact m_at (C := cC c lf rt) (i := k - 1) (j := k - 1) hn (by rw [mJ 18 rfl]; exact h18) (by rw [mB 18 rfl]; exact hbb) hb hb2 e1 e1 (by omega) (by omega) (fun h9 => hr (k - 1) (by omega) (k - 1) (by omega) h9)
  · rw [if_neg c1]
    have cs := csum_b (b := b) (n := n) hb hn k hk
    have h' := h.mv (J' := J1) (B' := B1) (mJ 18 rfl) (mB 18 rfl) (mB 19 rfl) (mB 20 rfl)
    obtain ⟨v, J2, B2, e1, e2, e3, e4, e5, e6⟩ := m_row (L := L1) h' (i := k) (by omega) hx hr (by omega)
    rw [e1, bdM_mk]
    by_cases c2 : z.toInt ≤ v.toInt
    · rw [if_pos c2]
      right
      refine ⟨_, upd J2 20 x, B2, by rw [eL], Md.up (Md.tr mJ e3 rfl) rfl, Md.tr mB e5 rfl, Or.inr ⟨k, ⟨by omega, hl, by omega⟩, rfl, hx, ?_⟩⟩
      show (J2 19).toInt = csum b n (k + 1)
      rw [e4, h19]; rfl
    · rw [if_neg c2]
      left
      refine ⟨by omega, _, _, _, _, rfl, i_s hx (by omega), Md.tr mJ e3 rfl, Md.tr mB e5 rfl, eL, by rw [e3 20 rfl]; exact h20, by rw [e4, h19]; rfl, e6, fun i hi => ?_⟩
      by_cases e : i = k
      · rw [e]; omega
      · exact hl i (by omega)
theorem m_whole {J : Nat → Int32} {B : Nat → Nat → Int32} {L : Nat → Nat → Int64} {n : Nat} {b c : Int} {lf rt : Nat → Int} (h : TN J B n b c lf rt) : ∃ (v : Int32) (J' : Nat → Int32) (B' : Nat → Nat → Int32), fM12_laysTable J B L 2000000000 = (v, J', B', L) ∧ v.toInt = dT b (cC c lf rt) n ∧ Md [19, 20] J J' ∧ Md [21] B B' ∧ MTb B' n b (cC c lf rt) n := by
  obtain ⟨⟨hn1, hn⟩, -, ⟨hb, hb2⟩, -⟩ := id h
  obtain ⟨v, J', B', e1, e2, e3, e4⟩ := m_table (L := L) h (z := 2000000000) (lim := 2000000000) rfl
  have wh := WH.far (lim := 2000000000) hb h.cok hn (by omega)
  rcases e4 with ⟨-, g1, -, -, g⟩ | ⟨i0, g, -⟩
  · exact ⟨v, J', B', e1, g1, e2, e3, g⟩
  · have := wh i0 g.1; have := g.2.2; omega
end
section
theorem lvl_b {r : Nat → Int32} {n : Nat} {g : Nat → Int} (h : raw n g) : ∀ i, i < n → -1998 ≤ lvl r n g i ∧ lvl r n g i ≤ 1998 := fun _ hi => lvS_b h hi
theorem x_str {I : Nat → Int32} {A : Nat → Nat → Int32} {z : Int32} : fX11_isStretch I A z = if 2 ≤ z.toInt ∧ z.toInt ≤ 16 then 1 else 0 := by
  unfold fX11_isStretch
  by_cases c : z.toInt < 2
  · rw [if_pos c, if_neg (by omega)]
  · rw [if_neg c]
    by_cases d : 16 < z.toInt
    · rw [if_pos d, if_neg (by omega)]
    · rw [if_neg d, if_pos (by omega)]
theorem m_cp {B : Nat → Nat → Int32} : ∀ k, k < 165 → (up2 B 18 (cpo (B 17) (B 18) 0 165)) 18 k = B 17 k := fun k hk => by
  show cpo (B 17) (B 18) 0 165 k = B 17 k
  rw [cpo_in (by omega) (by omega)]; rfl
theorem MW.cp {J : Nat → Int32} {B : Nat → Nat → Int32} {σ N nq : Nat} {ql : Nat → Nat} {qv : Nat → Nat → Int} (h : MW J B σ N nq ql qv) : MW J (up2 B 18 (cpo (B 17) (B 18) 0 165)) σ N nq ql qv := h.mv rfl rfl rfl rfl rfl
section ANS2
variable {I I' J J' : Nat → Int32} {A A' B B' : Nat → Nat → Int32} {M M' : Nat → Nat → Int64} {z z1 z2 z3 v w : Int32}
theorem ans_level (h : RA I A J B M) (_ : IvX I A) (_ : IvM J B) (eX : FE (fX11_level I A z1 z2 z3) (v, I', A')) (eM : FE (fM12_level J B M z1 z2 z3) (w, J', B', M')) : v = w := by
  have eX2 : fX11_level I A z1 z2 z3 = (v, I', A') := eX
  have eM2 : fM12_level J B M z1 z2 z3 = (w, J', B', M') := eM
  obtain ⟨σ, N, nq, ql, qv, hx, hm⟩ := h.xm
  have hs := hx.2.2.2.2.n
  have t2 : (2 : Int32).toInt = 2 := rfl
  have t16 : (16 : Int32).toInt = 16 := rfl
  have t0 : (0 : Int32).toInt = 0 := rfl
  unfold fX11_level at eX2
  unfold fM12_level at eM2
  rw [x_str, if10] at eX2
  rw [m_in, if10] at eM2
  by_cases cn : 2 ≤ z2.toInt ∧ z2.toInt ≤ 16
  · rw [if_pos cn] at eX2
    rw [if_pos (by omega)] at eM2
    have d := i32_sub (x := z2) (y := 1) (b := 1) rfl rfl rfl (by omega) (by omega)
    rw [f_lt_eq, m_in, if10] at eM2
    rcases win_eq (J := J) (L := M) hx.1 z1 z2 with ⟨a, b⟩ | ⟨a, b, s, n, hs1, hs2, hw⟩
    · rw [b, if_pos rfl] at eM2
      rw [a, if_pos rfl] at eX2
      cases eM2
      by_cases c1 : z3.toInt < 0
      · rw [if_pos c1] at eX2; cases eX2; rfl
      · rw [if_neg c1] at eX2
        by_cases c2 : z2.toInt ≤ z3.toInt
        · rw [if_pos c2] at eX2; cases eX2; rfl
        · rw [if_neg c2] at eX2; cases eX2; rfl
    · rw [b, if_neg (by decide)] at eM2
      rw [a, if_neg (show ¬ (1 : Int32) = 0 by decide)] at eX2
      by_cases c1 : z3.toInt < 0
      · rw [if_pos c1] at eX2
        rw [if_neg (by omega)] at eM2
        cases eX2; cases eM2; rfl
      · rw [if_neg c1] at eX2
        by_cases c2 : z2.toInt ≤ z3.toInt
        · rw [if_pos c2] at eX2
          rw [if_neg (by omega)] at eM2
          cases eX2; cases eM2; rfl
        · rw [if_neg c2] at eX2
          rw [if_pos (by omega)] at eM2
          obtain ⟨I2, A2, e1, -, -, e2⟩ := x_openW hx hs1 hs2 (by omega) hw
          rw [e1, bdX_mk] at eX2
          unfold fM12_copies at eM2
          rw [bdM_mk] at eM2
          obtain ⟨B2, e3, -, e4⟩ := m_laysW (J := J) (B := up2 B 18 (cpo (B 17) (B 18) 0 165)) (L := M) hm.1 m_cp hs.2.2.2.2.2.2.1 hs.2.2.2.2.2.2.2.1 hs1 hs2 (by omega) hw
          rw [e3, bdM_mk] at eM2
          cases eX2; cases eM2
          obtain ⟨i, hi⟩ : ∃ i : Nat, z3.toInt = (i : Int) := ⟨z3.toInt.toNat, by omega⟩
          rw [clN hi]
          apply Int32.toInt_inj.mp
          rw [e2.2.2.2.2 i (by omega), e4 i (by omega)]
  · rw [if_neg cn] at eX2
    rw [if_neg (by omega)] at eM2
    cases eX2; cases eM2; rfl
end ANS2
/-- a QUERY and a WINDOW of it -/
theorem both_eq {I J : Nat → Int32} {A B : Nat → Nat → Int32} {L : Nat → Nat → Int64} {r : Nat → Int32} {σ N nq : Nat} {ql : Nat → Nat} {qv : Nat → Nat → Int} (hx : XW I A r N nq ql qv) (hm : MW J B σ N nq ql qv) (hr : ∀ k, k < 161 → B 17 k = r k) (z1 z2 : Int32) : (fX0_hasBoth I A z1 z2 = 0 ∧ fM12_isOf J B L z1 z2 = 0) ∨ (fX0_hasBoth I A z1 z2 = 1 ∧ fM12_isOf J B L z1 z2 = 1 ∧ ∃ q s : Nat, z1.toInt = (q : Int) ∧ z2.toInt = (s : Int) ∧ q < nq ∧ wnR r N s (ql q)) := by
  have wr : ∀ s k, wnR (B 17) N s k → wnR r N s k := fun s k hw => ⟨hw.1, hw.2.1, fun j hj => by
    have := hw.2.2 j hj
    rw [hr (1 + (s + j)) (by have := hw.2.1; have := hx.1.1.2.1; omega)] at this
    exact this⟩
  have wr' : ∀ s k, wnR r N s k → wnR (B 17) N s k := fun s k hw => ⟨hw.1, hw.2.1, fun j hj => by
    rw [hr (1 + (s + j)) (by have := hw.2.1; have := hx.1.1.2.1; omega)]
    exact hw.2.2 j hj⟩
  unfold fX0_hasBoth fM12_isOf
  simp only [f_lt_eq]
  rw [m_isQuery hm.2.1 hm.2.2.1 hm.2.2.2.1 hm.2.2.2.2.1, x_hasQ hx.2.1 hx.2.2.1, if10, if10]
  by_cases c : 0 ≤ z1.toInt ∧ z1.toInt < (nq : Int)
  · obtain ⟨q, hq⟩ : ∃ q : Nat, z1.toInt = (q : Int) := ⟨z1.toInt.toNat, by omega⟩
    rw [if_pos c, if_pos c, x_len2 hx.2.1 hx.2.2.1 hq (by omega), ifp, clN (i_5 hm.2.1 hm.2.2.1 hq (by have := hm.2.2.2.2.1; omega))]
    obtain ⟨l1, l2, l3, -⟩ := hx.2.2.2.1 q (by omega)
    obtain ⟨k1, -⟩ := hm.2.2.2.2.2 q (by omega)
    have e9 : B 11 (5 * σ + q) = A 9 q := Int32.toInt_inj.mp (by omega)
    rw [e9]
    show ((if fX6_hasWindow I A z2 (A 9 q) = 0 then (0 : Int32) else 1) = 0 ∧ _) ∨ ((if fX6_hasWindow I A z2 (A 9 q) = 0 then (0 : Int32) else 1) = 1 ∧ _)
    rcases x_win hx.1 (z1 := z2) (z2 := A 9 q) with ⟨a, b⟩ | ⟨a, s, k, b, b2, d⟩
    · rw [a, if_pos rfl]
      rcases m_win (J := J) (L := L) hm.1 (z1 := z2) (z2 := A 9 q) with ⟨a2, -⟩ | ⟨a2, s2, k2, b2, c2, d2⟩
      · rw [a2, if_pos rfl]; exact Or.inl ⟨rfl, rfl⟩
      · exact absurd (wr s2 k2 d2) (b s2 k2 b2 c2)
    · rw [a, if_neg (by decide)]
      rcases m_win (J := J) (L := L) hm.1 (z1 := z2) (z2 := A 9 q) with ⟨a2, b2'⟩ | ⟨a2, -⟩
      · exact absurd (wr' s k d) (b2' s k b b2)
      · rw [a2, if_neg (by decide)]
        refine Or.inr ⟨rfl, rfl, q, s, hq, b, by omega, ?_⟩
        rw [show ql q = k by omega]; exact d
  · rw [if_neg c, if_neg c]; exact Or.inl ⟨rfl, rfl⟩
/-- the DISTANCE of a QUERY's WINDOW within a band -/
def dQ (r : Nat → Int32) (ql : Nat → Nat) (qv : Nat → Nat → Int) (b : Int) (q s : Nat) : Int := dT b (cC (r 163).toInt (lvl r (ql q) (qv q)) (lvl r (ql q) (gW r s))) (ql q)
section DIST
variable {I J : Nat → Int32} {A B : Nat → Nat → Int32} {L : Nat → Nat → Int64} {r : Nat → Int32} {σ N nq : Nat} {ql : Nat → Nat} {qv : Nat → Nat → Int}
theorem XW.qraw (hx : XW I A r N nq ql qv) {q : Nat} (hq : q < nq) : raw (ql q) (qv q) := fun i hi => ((hx.2.2.2.1 q hq).2.2.2 i hi).2
theorem x_TB (hx : XW I A r N nq ql qv) {q s : Nat} {b : Int} (hq : q < nq) (hw : wnR r N s (ql q)) (hb : 0 ≤ b ∧ b ≤ 1000) (hL : FL I A (ql q) b (r 163).toInt (lvl r (ql q) (qv q))) (hR : FR A (ql q) (lvl r (ql q) (gW r s))) : TB I A (ql q) b (r 163).toInt (lvl r (ql q) (qv q)) (lvl r (ql q) (gW r s)) := by
  obtain ⟨-, l2, l3, -⟩ := hx.2.2.2.1 q hq
  exact ⟨⟨by omega, l3⟩, ⟨hL.2.1, hL.2.2.1, hL.2.2.2.1⟩, hb, ⟨hL.2.2.2.2, hR⟩, lvl_b (hx.qraw hq), lvl_b (gW_raw hx.1.1 hw)⟩
theorem x_openB (hx : XW I A r N nq ql qv) {z1 z2 : Int32} {q s : Nat} (h1 : z1.toInt = (q : Int)) (h2 : z2.toInt = (s : Int)) (hq : q < nq) (hw : wnR r N s (ql q)) (h0 : fX0_hasBoth I A z1 z2 = 1) : ∃ (I' : Nat → Int32) (A' : Nat → Nat → Int32), fX0_openBoth I A z1 z2 = (1, I', A') ∧ Md [28, 30, 31, 32] I I' ∧ Md [21, 22] A A' ∧ TB I' A' (ql q) (r 161).toInt (r 163).toInt (lvl r (ql q) (qv q)) (lvl r (ql q) (gW r s)) := by
  have hs := hx.2.2.2.2.n
  obtain ⟨-, l2, l3, -⟩ := hx.2.2.2.1 q hq
  obtain ⟨I1, A1, a1, a2, a3, a4⟩ := x_openQ hx (z2 := A 10 0) (b := (r 161).toInt) h1 hq hs.1 hs.2.2.2.2.1
  have hx1 := hx.mv (I' := I1) (A' := A1) (a2 17 rfl) (a2 18 rfl) (a2 19 rfl) (a3 7 rfl) (a3 8 rfl) (a3 9 rfl) (a3 10 rfl)
  obtain ⟨A2, b1, b2, b3⟩ := x_secW hx1 h2 a4.1 a4.2.1 l3 hw
  unfold fX0_openBoth
  rw [h0, if_neg (by decide), f_lt_eq, x_vOf (z := 0) (k := 0) rfl (by omega), a1, bdX_mk, b1, bdX_mk]
  refine ⟨I1, A2, rfl, a2, Md.tr (Md.tr Md.rf a3 rfl) b2 rfl, ?_⟩
  have hx2 := hx1.mv (I' := I1) (A' := A2) rfl rfl rfl (b2 7 rfl) (b2 8 rfl) (b2 9 rfl) (b2 10 rfl)
  exact x_TB hx2 hq hw ⟨hs.2.2.2.2.1, by omega⟩ ⟨a4.1, a4.2.1, a4.2.2.1, a4.2.2.2.1, fun i hi => by rw [b2 21 rfl]; exact a4.2.2.2.2 i hi⟩ b3
theorem x_openB0 {z1 z2 : Int32} (h0 : fX0_hasBoth I A z1 z2 = 0) : fX0_openBoth I A z1 z2 = (0, I, A) := by
  unfold fX0_openBoth
  rw [h0, if_pos rfl]
theorem m_openB (hm : MW J B σ N nq ql qv) (hr : rok r N) (h18 : ∀ k, k < 165 → B 18 k = r k) (hk0 : 0 ≤ (r 162).toInt) (hk3 : (r 162).toInt ≤ 3) {b c : Int} (hb : (r 161).toInt = b) (hb0 : 0 ≤ b ∧ b ≤ 1000) (hc : (r 163).toInt = c) {z1 z2 : Int32} {q s : Nat} (h1 : z1.toInt = (q : Int)) (hq : q < nq) (h2 : z2.toInt = (s : Int)) (hw : wnR r N s (ql q)) : ∃ (J' : Nat → Int32) (B' : Nat → Nat → Int32), fM12_laysBoth J B L z1 z2 = (0, J', B', L) ∧ Md [18] J J' ∧ Md [19, 20] B B' ∧ TN J' B' (ql q) b c (lvl r (ql q) (qv q)) (lvl r (ql q) (gW r s)) := by
  obtain ⟨l1, l2, l3, l4⟩ := hm.2.2.2.2.2 q hq
  obtain ⟨J', B', e1, e2, e3, e4⟩ := m_laysBoth (L := L) hm hr h18 hk0 hk3 h1 hq h2 hw
  exact ⟨J', B', e1, e2, e3, ⟨by omega, l3⟩, ⟨e4.1, by rw [e3 18 rfl, h18 161 (by omega)]; exact hb, by rw [e3 18 rfl, h18 163 (by omega)]; exact hc⟩, hb0, e4.2, lvl_b (fun i hi => (l4 i hi).2), lvl_b (gW_raw hr hw)⟩
theorem m_dist (hm : MW J B σ N nq ql qv) (hr : rok r N) (h18 : ∀ k, k < 165 → B 18 k = r k) (hk0 : 0 ≤ (r 162).toInt) (hk3 : (r 162).toInt ≤ 3) (hb0 : 0 ≤ (r 161).toInt ∧ (r 161).toInt ≤ 1000) {z1 z2 : Int32} {q s : Nat} (h1 : z1.toInt = (q : Int)) (hq : q < nq) (h2 : z2.toInt = (s : Int)) (hw : wnR r N s (ql q)) : ∃ (v : Int32) (J' : Nat → Int32) (B' : Nat → Nat → Int32), fM12_distanceOf J B L z1 z2 = (v, J', B', L) ∧ v.toInt = dQ r ql qv (r 161).toInt q s ∧ Md [18, 19, 20] J J' ∧ Md [19, 20, 21] B B' ∧ TN J' B' (ql q) (r 161).toInt (r 163).toInt (lvl r (ql q) (qv q)) (lvl r (ql q) (gW r s)) ∧ MTb B' (ql q) (r 161).toInt (cC (r 163).toInt (lvl r (ql q) (qv q)) (lvl r (ql q) (gW r s))) (ql q) := by
  obtain ⟨J1, B1, a1, a2, a3, a4⟩ := m_openB (L := L) hm hr h18 hk0 hk3 rfl hb0 rfl h1 hq h2 hw
  obtain ⟨v, J2, B2, b1, b2, b3, b4, b5⟩ := m_whole (L := L) a4
  unfold fM12_distanceOf
  rw [a1, bdM_mk, b1, bdM_mk]
  exact ⟨v, J2, B2, rfl, b2, Md.tr (Md.tr Md.rf a2 rfl) b3 rfl, Md.tr (Md.tr Md.rf a3 rfl) b4 rfl, a4.mv (b3 18 rfl) (b4 18 rfl) (b4 19 rfl) (b4 20 rfl), b5⟩
end DIST
section ANS3
variable {I I' J J' : Nat → Int32} {A A' B B' : Nat → Nat → Int32} {M M' : Nat → Nat → Int64} {z z1 z2 z3 z4 v w : Int32}
theorem ans_distance (h : RA I A J B M) (_ : IvX I A) (_ : IvM J B) (eX : FE (fX11_distance I A z1 z2) (v, I', A')) (eM : FE (fM12_distance J B M z1 z2) (w, J', B', M')) : v = w := by
  have eX2 : fX11_distance I A z1 z2 = (v, I', A') := eX
  have eM2 : fM12_distance J B M z1 z2 = (w, J', B', M') := eM
  obtain ⟨σ, N, nq, ql, qv, hx, hm⟩ := h.xm
  have hs := hx.2.2.2.2.n
  unfold fX11_distance at eX2
  unfold fM12_distance at eM2
  rcases both_eq (L := M) hx hm (fun _ _ => rfl) z1 z2 with ⟨a, b⟩ | ⟨a, b, q, s, h1, h2, hq, hw⟩
  · rw [x_openB0 a, bdX_mk, if_pos (by decide)] at eX2
    rw [b, if_pos rfl] at eM2
    cases eX2; cases eM2; rfl
  · obtain ⟨I1, A1, a1, -, -, a4⟩ := x_openB hx h1 h2 hq hw a
    obtain ⟨v1, I2, A2, b1, b2, -⟩ := x_whole a4
    rw [a1, bdX_mk, if_neg (by decide), b1, bdX_mk] at eX2
    unfold fM12_copies at eM2
    obtain ⟨w1, J2, B2, c1, c2, -⟩ := m_dist (L := M) hm.cp hx.1.1 m_cp hs.2.2.2.2.2.2.1 hs.2.2.2.2.2.2.2.1 ⟨hs.2.2.2.2.1, by omega⟩ h1 hq h2 hw
    rw [b, if_neg (by decide), bdM_mk, c1, bdM_mk] at eM2
    cases eX2; cases eM2
    exact Int32.toInt_inj.mp (by rw [b2, c2]; rfl)
theorem ans_alike (h : RA I A J B M) (_ : IvX I A) (_ : IvM J B) (eX : FE (fX11_alike I A z1 z2) (v, I', A')) (eM : FE (fM12_alike J B M z1 z2) (w, J', B', M')) : v = w := by
  have eX2 : fX11_alike I A z1 z2 = (v, I', A') := eX
  have eM2 : fM12_alike J B M z1 z2 = (w, J', B', M') := eM
  obtain ⟨σ, N, nq, ql, qv, hx, hm⟩ := h.xm
  have hs := hx.2.2.2.2.n
  unfold fX11_alike at eX2
  unfold fM12_alike at eM2
  simp only [f_lt_eq] at eX2 eM2
  rw [m_isQuery hm.2.1 hm.2.2.1 hm.2.2.2.1 hm.2.2.2.2.1, m_isQuery hm.2.1 hm.2.2.1 hm.2.2.2.1 hm.2.2.2.2.1, if10, if10] at eM2
  rw [x_hasQ hx.2.1 hx.2.2.1, x_hasQ hx.2.1 hx.2.2.1, if10, if10] at eX2
  by_cases c1 : 0 ≤ z1.toInt ∧ z1.toInt < (nq : Int)
  · rw [if_pos c1] at eX2 eM2
    by_cases c2 : 0 ≤ z2.toInt ∧ z2.toInt < (nq : Int)
    · rw [if_pos c2] at eX2 eM2
      obtain ⟨q, hq⟩ : ∃ q : Nat, z1.toInt = (q : Int) := ⟨z1.toInt.toNat, by omega⟩
      obtain ⟨o, ho⟩ : ∃ o : Nat, z2.toInt = (o : Int) := ⟨z2.toInt.toNat, by omega⟩
      obtain ⟨l1, l2, l3, l4⟩ := hx.2.2.2.1 q (by omega)
      obtain ⟨k1, k2, k3, k4⟩ := hx.2.2.2.1 o (by omega)
      obtain ⟨m1, -⟩ := hm.2.2.2.2.2 q (by omega)
      obtain ⟨n1, -⟩ := hm.2.2.2.2.2 o (by omega)
      have iq := clN (i_5 hm.2.1 hm.2.2.1 hq (by have := hm.2.2.2.2.1; omega))
      have io := clN (i_5 hm.2.1 hm.2.2.1 ho (by have := hm.2.2.2.2.1; omega))
      rw [x_len2 hx.2.1 hx.2.2.1 hq (by omega), x_len2 hx.2.1 hx.2.2.1 ho (by omega)] at eX2
      simp only [ifp] at eX2
      rw [iq, io] at eM2
      by_cases c3 : (A 9 q).toInt = (A 9 o).toInt
      · have e0 : ql q = ql o := by omega
        obtain ⟨I1, A1, a1, a2, a3, a4⟩ := x_openQ hx (z2 := A 10 0) (b := (B 17 161).toInt) hq (by omega) hs.1 hs.2.2.2.2.1
        have hx1 := hx.mv (I' := I1) (A' := A1) (a2 17 rfl) (a2 18 rfl) (a2 19 rfl) (a3 7 rfl) (a3 8 rfl) (a3 9 rfl) (a3 10 rfl)
        obtain ⟨A2, b1, b2, b3⟩ := x_secQ hx1 ho (by omega) (by rw [← e0]; exact a4.2.1)
        have tb : TB I1 A2 (ql q) (B 17 161).toInt (B 17 163).toInt (lvl (B 17) (ql q) (qv q)) (lvl (B 17) (ql q) (qv o)) := ⟨⟨by omega, l3⟩, ⟨a4.2.1, a4.2.2.1, a4.2.2.2.1⟩, ⟨hs.2.2.2.2.1, by omega⟩, ⟨fun i hi => by rw [b2 21 rfl]; exact a4.2.2.2.2 i hi, fun i hi => by rw [e0] at hi ⊢; exact b3 i hi⟩, lvl_b (hx.qraw (by omega)), by rw [e0]; exact lvl_b (hx.qraw (by omega))⟩
        obtain ⟨v1, I3, A3, d1, d2, -⟩ := x_whole tb
        rw [if_pos c3, x_vOf (z := 0) (k := 0) rfl (by omega), a1, bdX_mk, b1, bdX_mk, d1, bdX_mk] at eX2
        unfold fM12_copies at eM2
        rw [if_pos (by omega), bdM_mk] at eM2
        -- the reference: the other first, changed, then the first
        obtain ⟨J4, hJ4⟩ : ∃ J4, J4 = upd J 18 (B 11 (5 * σ + q)) := ⟨_, rfl⟩
        obtain ⟨B4, hB4⟩ : ∃ B4, B4 = up2 B 18 (cpo (B 17) (B 18) 0 165) := ⟨_, rfl⟩
        have hm4 : MW J4 B4 σ N nq ql qv := by rw [hJ4, hB4]; exact hm.cp.mv rfl rfl rfl rfl rfl
        have q18 : ∀ k, k < 165 → B4 18 k = B 17 k := by rw [hB4]; exact m_cp
        obtain ⟨B5, f1, f2, f3⟩ := m_laysQ (J := J4) (B := B4) (L := M) (k := (B 17 162).toInt) hm4 (by rw [q18 162 (by omega)]) hs.2.2.2.2.2.2.1 hs.2.2.2.2.2.2.2.1 ho (by omega)
        have z18 : (J4 18).toInt = (ql q : Int) := by rw [hJ4]; exact m1
        obtain ⟨B6, g1, g2, g3, g4⟩ := m_changes (J := J4) (B := B5) (L := M) (n := ql q) (z := B 11 (5 * σ + q)) m1 l3
        have hm6 := hm4.mv (J' := J4) (B' := B6) rfl ((g2 10 rfl).trans (f2 10 rfl)) ((g2 11 rfl).trans (f2 11 rfl)) ((g2 12 rfl).trans (f2 12 rfl)) ((g2 17 rfl).trans (f2 17 rfl))
        obtain ⟨B7, p1, p2, p3⟩ := m_laysQ (J := J4) (B := B6) (L := M) (k := (B 17 162).toInt) hm6 (by rw [g2 18 rfl, f2 18 rfl, q18 162 (by omega)]) hs.2.2.2.2.2.2.1 hs.2.2.2.2.2.2.2.1 hq (by omega)
        have b18 : B7 18 = B4 18 := by rw [p2 18 rfl, g2 18 rfl, f2 18 rfl]
        have tn : TN J4 B7 (ql q) (B 17 161).toInt (B 17 163).toInt (lvl (B 17) (ql q) (qv q)) (lvl (B 17) (ql q) (qv o)) := ⟨⟨by omega, l3⟩, ⟨z18, by rw [b18, q18 161 (by omega)], by rw [b18, q18 163 (by omega)]⟩, ⟨hs.2.2.2.2.1, by omega⟩, ⟨p3, fun i hi => by
          rw [p2 20 rfl, g4 i hi, f3 i (by omega)]
          unfold lvl
          rw [e0]⟩, lvl_b (hx.qraw (by omega)), by rw [e0]; exact lvl_b (hx.qraw (by omega))⟩
        obtain ⟨w1, J8, B8, r1, r2, -⟩ := m_whole (L := M) tn
        rw [← hJ4, ← hB4, f1, bdM_mk, g1, bdM_mk, p1, bdM_mk, r1, bdM_mk] at eM2
        cases eX2; cases eM2
        exact Int32.toInt_inj.mp (by rw [d2, r2])
      · rw [if_neg c3] at eX2
        rw [if_neg (by omega)] at eM2
        cases eX2; cases eM2; rfl
    · rw [if_neg c2] at eX2 eM2
      cases eX2; cases eM2; rfl
  · rw [if_neg c1] at eX2 eM2
    cases eX2; cases eM2; rfl
end ANS3
end
section
/-- the envelope of a row around a place: greatest and least within the band -/
def mxJ (b : Int) (g : Nat → Int) (j : Nat) : Nat → Int
  | 0 => -2000000000
  | i + 1 => if ((i : Int) - (j : Int) ≤ b ∧ (j : Int) - (i : Int) ≤ b) ∧ mxJ b g j i < g i then g i else mxJ b g j i
def mnJ (b : Int) (g : Nat → Int) (j : Nat) : Nat → Int
  | 0 => 2000000000
  | i + 1 => if ((i : Int) - (j : Int) ≤ b ∧ (j : Int) - (i : Int) ≤ b) ∧ g i < mnJ b g j i then g i else mnJ b g j i
def ocT (c b : Int) (n : Nat) (g : Nat → Int) (v : Int) (j : Nat) : Int := if mxJ b g j n < v then csT c v (mxJ b g j n) else if v < mnJ b g j n then csT c v (mnJ b g j n) else 0
def ovT (c b : Int) (n : Nat) (g h : Nat → Int) : Nat → Int
  | 0 => 0
  | j + 1 => ovT c b n g h j + ocT c b n g (h j) j
def lvb (n : Nat) (g : Nat → Int) : Prop := ∀ i, i < n → -1998 ≤ g i ∧ g i ≤ 1998
theorem envJ {b : Int} {g : Nat → Int} {n j : Nat} (hg : lvb n g) : ∀ k, k ≤ n → ((mxJ b g j k = -2000000000 ∧ mnJ b g j k = 2000000000 ∧ ∀ i, i < k → ¬ ((i : Int) - (j : Int) ≤ b ∧ (j : Int) - (i : Int) ≤ b)) ∨ (-1998 ≤ mnJ b g j k ∧ mnJ b g j k ≤ mxJ b g j k ∧ mxJ b g j k ≤ 1998)) := by
  intro k
  induction k with
  | zero => intro _; exact Or.inl ⟨rfl, rfl, fun i hi => by omega⟩
  | succ k ih =>
    intro hk
    have e1 : mxJ b g j (k + 1) = if ((k : Int) - (j : Int) ≤ b ∧ (j : Int) - (k : Int) ≤ b) ∧ mxJ b g j k < g k then g k else mxJ b g j k := rfl
    have e2 : mnJ b g j (k + 1) = if ((k : Int) - (j : Int) ≤ b ∧ (j : Int) - (k : Int) ≤ b) ∧ g k < mnJ b g j k then g k else mnJ b g j k := rfl
    have gk := hg k (by omega)
    have h := ih (by omega)
    by_cases c : (k : Int) - (j : Int) ≤ b ∧ (j : Int) - (k : Int) ≤ b
    · right
      rw [e1, e2]
      rcases h with ⟨a1, a2, -⟩ | h
      · rw [if_pos ⟨c, by omega⟩, if_pos ⟨c, by omega⟩]; omega
      · split <;> (try split) <;> omega
    · rw [e1, e2, if_neg (fun h9 => c h9.1), if_neg (fun h9 => c h9.1)]
      rcases h with ⟨a1, a2, a3⟩ | h
      · refine Or.inl ⟨a1, a2, fun i hi => ?_⟩
        by_cases e : i = k
        · rw [e]; exact c
        · exact a3 i (by omega)
      · exact Or.inr h
theorem envJ_n {b : Int} {g : Nat → Int} {n j : Nat} (hg : lvb n g) (hb : 0 ≤ b) (hj : j < n) : -1998 ≤ mnJ b g j n ∧ mnJ b g j n ≤ mxJ b g j n ∧ mxJ b g j n ≤ 1998 := by
  rcases envJ (b := b) (j := j) hg n (Nat.le_refl n) with ⟨-, -, h⟩ | h
  · exact absurd ⟨by omega, by omega⟩ (h j hj)
  · exact h
theorem envJ_tail {b : Int} {g : Nat → Int} {j k : Nat} : ∀ m, (∀ i, k ≤ i → i < k + m → ¬ ((i : Int) - (j : Int) ≤ b ∧ (j : Int) - (i : Int) ≤ b)) → mxJ b g j (k + m) = mxJ b g j k ∧ mnJ b g j (k + m) = mnJ b g j k := by
  intro m
  induction m with
  | zero => intro _; exact ⟨rfl, rfl⟩
  | succ m ih =>
    intro h
    obtain ⟨a, d⟩ := ih (fun i h1 h2 => h i h1 (by omega))
    have c := h (k + m) (by omega) (by omega)
    have e1 : mxJ b g j (k + m + 1) = if (((k + m : Nat) : Int) - (j : Int) ≤ b ∧ (j : Int) - ((k + m : Nat) : Int) ≤ b) ∧ mxJ b g j (k + m) < g (k + m) then g (k + m) else mxJ b g j (k + m) := rfl
    have e2 : mnJ b g j (k + m + 1) = if (((k + m : Nat) : Int) - (j : Int) ≤ b ∧ (j : Int) - ((k + m : Nat) : Int) ≤ b) ∧ g (k + m) < mnJ b g j (k + m) then g (k + m) else mnJ b g j (k + m) := rfl
    rw [← Nat.add_assoc, e1, e2, if_neg (fun h9 => c h9.1), if_neg (fun h9 => c h9.1)]
    exact ⟨a, d⟩
theorem envJ_0 {b : Int} {g : Nat → Int} {j f : Nat} (h : ∀ i, i < f → ¬ ((i : Int) - (j : Int) ≤ b ∧ (j : Int) - (i : Int) ≤ b)) : mxJ b g j f = -2000000000 ∧ mnJ b g j f = 2000000000 := by
  have := envJ_tail (b := b) (g := g) (j := j) (k := 0) f (fun i _ hi => h i (by omega))
  rw [Nat.zero_add] at this
  exact this
theorem ocT_b {c b : Int} {n : Nat} {g : Nat → Int} {v : Int} {j : Nat} (hg : lvb n g) (hb : 0 ≤ b) (hj : j < n) (hv : -1998 ≤ v ∧ v ≤ 1998) : 0 ≤ ocT c b n g v j ∧ ocT c b n g v j ≤ 15968016 := by
  have e := envJ_n (b := b) (j := j) hg hb hj
  unfold ocT
  split
  · exact csT_b hv ⟨by omega, by omega⟩
  · split
    · exact csT_b hv ⟨by omega, by omega⟩
    · omega
theorem ovT_b {c b : Int} {n : Nat} {g h : Nat → Int} (hg : lvb n g) (hh : lvb n h) (hb : 0 ≤ b) : ∀ k, k ≤ n → 0 ≤ ovT c b n g h k ∧ ovT c b n g h k ≤ 15968016 * (k : Int) := by
  intro k
  induction k with
  | zero => intro _; exact ⟨Int.le_refl 0, Int.le_refl 0⟩
  | succ k ih =>
    intro hk
    have a := ih (by omega)
    have d := ocT_b (c := c) (b := b) (j := k) hg hb (by omega) (hh k (by omega))
    show 0 ≤ ovT c b n g h k + ocT c b n g (h k) k ∧ ovT c b n g h k + ocT c b n g (h k) k ≤ 15968016 * ((k + 1 : Nat) : Int)
    omega
theorem x_ends {I : Nat → Int32} {A : Nat → Nat → Int32} {n : Nat} {b c : Int} {lf rt : Nat → Int} (h : TB I A n b c lf rt) : (fX2_endsBound I A).toInt = cC c lf rt 0 0 + cC c lf rt (n - 1) (n - 1) := by
  have hC := h.cok
  obtain ⟨⟨hn1, hn⟩, ⟨h30, h31, h32⟩, ⟨hb, hb2⟩, ⟨hl, hrt⟩, lb, rb⟩ := h
  have e1 : (I 30 - 1).toInt = ((n - 1 : Nat) : Int) := by
    have := i32_sub (x := I 30) (y := 1) (b := 1) rfl h30 rfl (by omega) (by omega)
    omega
  have c0 := hC 0 0 (by omega) (by omega)
  have c1 := hC (n - 1) (n - 1) (by omega) (by omega)
  unfold fX2_endsBound
  simp only [f_lt_eq]
  rw [clN e1]
  exact i32_add rfl (x_cost h32 (hl 0 (by omega)) (hrt 0 (by omega)) (lb 0 (by omega)) (rb 0 (by omega))) (x_cost h32 (hl (n - 1) (by omega)) (hrt (n - 1) (by omega)) (lb (n - 1) (by omega)) (rb (n - 1) (by omega))) (by omega) (by omega)
theorem m_ends {J : Nat → Int32} {B : Nat → Nat → Int32} {L : Nat → Nat → Int64} {n : Nat} {b c : Int} {lf rt : Nat → Int} (h : TN J B n b c lf rt) : (fM12_endsOf J B L).toInt = cC c lf rt 0 0 + cC c lf rt (n - 1) (n - 1) := by
  have hC := h.cok
  obtain ⟨⟨hn1, hn⟩, ⟨h18, hbb, hcc⟩, ⟨hb, hb2⟩, ⟨hl, hrt⟩, lb, rb⟩ := h
  have e1 : (J 18 - 1).toInt = ((n - 1 : Nat) : Int) := by
    have := i32_sub (x := J 18) (y := 1) (b := 1) rfl h18 rfl (by omega) (by omega)
    omega
  have c0 := hC 0 0 (by omega) (by omega)
  have c1 := hC (n - 1) (n - 1) (by omega) (by omega)
  unfold fM12_endsOf
  simp only [f_lt_eq]
  rw [clN e1]
  exact i32_add rfl (m_cost hcc (hl 0 (by omega)) (hrt 0 (by omega)) (lb 0 (by omega)) (rb 0 (by omega))) (m_cost hcc (hl (n - 1) (by omega)) (hrt (n - 1) (by omega)) (lb (n - 1) (by omega)) (rb (n - 1) (by omega))) (by omega) (by omega)
theorem x_out21 {I : Nat → Int32} {A : Nat → Nat → Int32} {n : Nat} {b c : Int} {lf rt : Nat → Int} (h : TB I A n b c lf rt) {z1 z3 : Int32} {v : Int} {j : Nat} (hv : z1.toInt = v) (hvb : -1998 ≤ v ∧ v ≤ 1998) (hz : z3.toInt = (j : Int)) (hj : j < n) : (fX2_outsideCost I A z1 z3).toInt = ocT c b n lf v j := by
  obtain ⟨⟨hn1, hn⟩, ⟨h30, h31, h32⟩, ⟨hb, hb2⟩, ⟨hl, hrt⟩, lb, rb⟩ := h
  obtain ⟨k1, k2, k3, k4, k5, k6⟩ := cnT_b (b := b) (n := n) (i := j) hb hj
  have t0 : (0 : Int32).toInt = 0 := rfl
  have s1 := i32_sub (x := z3) (y := I 31) rfl hz h31 (by omega) (by omega)
  have s2 := i32_sub (x := I 30) (y := 1) (b := 1) rfl h30 rfl (by omega) (by omega)
  have s3 := i32_add (x := z3) (y := I 31) rfl hz h31 (by omega) (by omega)
  obtain ⟨fr, hfr⟩ : ∃ fr : Int32, fr = if (0 : Int32) < z3 - I 31 then z3 - I 31 else (0 : Int32) := ⟨_, rfl⟩
  obtain ⟨to, hto⟩ : ∃ to : Int32, to = if z3 + I 31 < I 30 - 1 then z3 + I 31 else I 30 - 1 := ⟨_, rfl⟩
  have efr : fr.toInt = frT b j := by
    unfold frT
    rcases i32_max (x := 0) (y := z3 - I 31) hfr with ⟨a, a'⟩ | ⟨a, a'⟩ <;> split <;> omega
  have eto : to.toInt = toT b n j := by
    unfold toT
    rcases i32_min (x := I 30 - 1) (y := z3 + I 31) hto with ⟨a, a'⟩ | ⟨a, a'⟩ <;> split <;> omega
  obtain ⟨f, hf⟩ : ∃ f : Nat, frT b j = (f : Int) := ⟨(frT b j).toNat, by omega⟩
  obtain ⟨t, ht⟩ : ∃ t : Nat, toT b n j = (t : Int) := ⟨(toT b n j).toNat, by omega⟩
  have ft : ∀ i, i < n → (((i : Int) - (j : Int) ≤ b ∧ (j : Int) - (i : Int) ≤ b) ↔ f ≤ i ∧ i ≤ t) := fun i hi => by
    unfold frT at hf
    unfold toT at ht
    constructor
    · intro h9; split at hf <;> split at ht <;> omega
    · intro h9; split at hf <;> split at ht <;> omega
  have h0 := envJ_0 (b := b) (g := lf) (j := j) (f := f) (fun i hi h9 => by have := (ft i (by omega)).mp h9; omega)
  have gf := lb f (by omega)
  have e1 : mxJ b lf j (f + 1) = lf f := by
    show (if ((f : Int) - (j : Int) ≤ b ∧ (j : Int) - (f : Int) ≤ b) ∧ mxJ b lf j f < lf f then lf f else mxJ b lf j f) = _
    rw [if_pos ⟨(ft f (by omega)).mpr ⟨by omega, by omega⟩, by rw [h0.1]; omega⟩]
  have e2 : mnJ b lf j (f + 1) = lf f := by
    show (if ((f : Int) - (j : Int) ≤ b ∧ (j : Int) - (f : Int) ≤ b) ∧ lf f < mnJ b lf j f then lf f else mnJ b lf j f) = _
    rw [if_pos ⟨(ft f (by omega)).mpr ⟨by omega, by omega⟩, by rw [h0.2]; omega⟩]
  have efn : fr.toInt = (f : Int) := by omega
  unfold fX2_outsideCost
  simp only [f_lt_eq]
  rw [← hfr, ← hto, clN efn]
  refine run_iii (Q := fun (w : Int32) => w.toInt = ocT c b n lf v j) (t - f) (fun k x p q => x.toInt = ((f + 1 + k : Nat) : Int) ∧ p.toInt = mxJ b lf j (f + 1 + k) ∧ q.toInt = mnJ b lf j (f + 1 + k)) (fun G k x p q hk hP => ?_) FU 0 (fr + 1) (A 21 f) (A 21 f) ⟨by rw [i32_inc (by omega)]; omega, by rw [Nat.add_zero, e1]; exact hl f (by omega), by rw [Nat.add_zero, e2]; exact hl f (by omega)⟩ (by omega) (fu_lt (by omega))
  obtain ⟨hx, hp, hq⟩ := hP
  unfold bX2_outsideCost_45
  dsimp only [f_lt]
  by_cases c1 : to.toInt < x.toInt
  · rw [if_pos c1]
    right
    have ek : f + 1 + k = t + 1 := by omega
    rw [ek] at hp hq
    have tl := envJ_tail (b := b) (g := lf) (j := j) (k := t + 1) (n - (t + 1)) (fun i h1 h2 h9 => by have := (ft i (by omega)).mp h9; omega)
    rw [show t + 1 + (n - (t + 1)) = n by omega] at tl
    have en := envJ_n (b := b) (j := j) (g := lf) lb hb hj
    rw [← tl.1] at hp
    rw [← tl.2] at hq
    unfold ocT
    by_cases c2 : z1.toInt ≤ p.toInt
    · rw [if_pos c2, if_neg (show ¬ mxJ b lf j n < v by omega)]
      by_cases c3 : q.toInt ≤ z1.toInt
      · rw [if_pos c3, if_neg (by omega)]; rfl
      · rw [if_neg c3, if_pos (by omega)]
        exact x_cost h32 hv hq hvb ⟨by omega, by omega⟩
    · rw [if_neg c2, if_pos (show mxJ b lf j n < v by omega)]
      exact x_cost h32 hv hp hvb ⟨by omega, by omega⟩
  · rw [if_neg c1, clN hx]
    left
    have hin := (ft (f + 1 + k) (by omega)).mpr ⟨by omega, by omega⟩
    have gi := hl (f + 1 + k) (by omega)
    have m1 : mxJ b lf j (f + 1 + k + 1) = if (((f + 1 + k : Nat) : Int) - (j : Int) ≤ b ∧ (j : Int) - ((f + 1 + k : Nat) : Int) ≤ b) ∧ mxJ b lf j (f + 1 + k) < lf (f + 1 + k) then lf (f + 1 + k) else mxJ b lf j (f + 1 + k) := rfl
    have m2' : mnJ b lf j (f + 1 + k + 1) = if (((f + 1 + k : Nat) : Int) - (j : Int) ≤ b ∧ (j : Int) - ((f + 1 + k : Nat) : Int) ≤ b) ∧ lf (f + 1 + k) < mnJ b lf j (f + 1 + k) then lf (f + 1 + k) else mnJ b lf j (f + 1 + k) := rfl
    have en : mnJ b lf j (f + 1 + k) ≤ mxJ b lf j (f + 1 + k) := by
      rcases envJ (b := b) (j := j) (g := lf) lb (f + 1 + k) (by omega) with ⟨-, -, h9⟩ | h9
      · exact absurd ((ft f (by omega)).mpr ⟨by omega, by omega⟩) (h9 f (by omega))
      · exact h9.2.1
    refine ⟨by omega, ?_⟩
    by_cases c2 : q.toInt ≤ (A 21 (f + 1 + k)).toInt
    · rw [if_pos c2]
      by_cases c3 : (A 21 (f + 1 + k)).toInt ≤ p.toInt
      · rw [if_pos c3]
        refine ⟨_, _, _, rfl, i_s (k := f + 1 + k) hx (by omega), ?_, ?_⟩
        · show p.toInt = mxJ b lf j (f + 1 + k + 1)
          rw [m1, if_neg (fun h9 => by have := h9.2; omega)]; exact hp
        · show q.toInt = mnJ b lf j (f + 1 + k + 1)
          rw [m2', if_neg (fun h9 => by have := h9.2; omega)]; exact hq
      · rw [if_neg c3]
        refine ⟨_, _, _, rfl, i_s (k := f + 1 + k) hx (by omega), ?_, ?_⟩
        · show (A 21 (f + 1 + k)).toInt = mxJ b lf j (f + 1 + k + 1)
          rw [m1, if_pos ⟨hin, by omega⟩]; exact gi
        · show q.toInt = mnJ b lf j (f + 1 + k + 1)
          rw [m2', if_neg (fun h9 => by have := h9.2; omega)]; exact hq
    · rw [if_neg c2]
      refine ⟨_, _, _, rfl, i_s (k := f + 1 + k) hx (by omega), ?_, ?_⟩
      · show p.toInt = mxJ b lf j (f + 1 + k + 1)
        rw [m1, if_neg (fun h9 => by have := h9.2; omega)]; exact hp
      · show (A 21 (f + 1 + k)).toInt = mnJ b lf j (f + 1 + k + 1)
        rw [m2', if_pos ⟨hin, by omega⟩]; exact gi
theorem x_env21 {I : Nat → Int32} {A : Nat → Nat → Int32} {n : Nat} {b c : Int} {lf rt : Nat → Int} (h : TB I A n b c lf rt) : (fX2_envelopeBound I A).toInt = ovT c b n lf rt n := by
  obtain ⟨⟨hn1, hn⟩, ⟨h30, h31, h32⟩, ⟨hb, hb2⟩, ⟨hl, hrt⟩, lb, rb⟩ := id h
  unfold fX2_envelopeBound
  refine run_ii (Q := fun (w : Int32) => w.toInt = ovT c b n lf rt n) n (fun k x y => x.toInt = (k : Int) ∧ y.toInt = ovT c b n lf rt k) (fun G k x y hk hP => ?_) FU 0 0 0 ⟨rfl, rfl⟩ (by omega) (fu_lt (by omega))
  obtain ⟨hx, hy⟩ := hP
  unfold bX2_envelopeBound_5
  dsimp only [f_lt]
  by_cases c1 : (I 30).toInt ≤ x.toInt
  · rw [if_pos c1]; right; rw [hy, show k = n by omega]
  · rw [if_neg c1, clN hx]
    left
    refine ⟨by omega, _, _, rfl, i_s hx (by omega), ?_⟩
    have a := ovT_b (c := c) (b := b) (g := lf) (h := rt) lb rb hb k hk
    have d := ocT_b (c := c) (b := b) (g := lf) (j := k) lb hb (by omega) (rb k (by omega))
    exact i32_add rfl hy (x_out21 h (hrt k (by omega)) (rb k (by omega)) hx (by omega)) (by omega) (by omega)
theorem x_out22 {I : Nat → Int32} {A : Nat → Nat → Int32} {n : Nat} {b c : Int} {lf rt : Nat → Int} (h : TB I A n b c lf rt) {z1 z3 : Int32} {v : Int} {j : Nat} (hv : z1.toInt = v) (hvb : -1998 ≤ v ∧ v ≤ 1998) (hz : z3.toInt = (j : Int)) (hj : j < n) : (fX2_outsideCost_2 I A z1 z3).toInt = ocT c b n rt v j := by
  obtain ⟨⟨hn1, hn⟩, ⟨h30, h31, h32⟩, ⟨hb, hb2⟩, ⟨hl, hrt⟩, lb, rb⟩ := h
  obtain ⟨k1, k2, k3, k4, k5, k6⟩ := cnT_b (b := b) (n := n) (i := j) hb hj
  have t0 : (0 : Int32).toInt = 0 := rfl
  have s1 := i32_sub (x := z3) (y := I 31) rfl hz h31 (by omega) (by omega)
  have s2 := i32_sub (x := I 30) (y := 1) (b := 1) rfl h30 rfl (by omega) (by omega)
  have s3 := i32_add (x := z3) (y := I 31) rfl hz h31 (by omega) (by omega)
  obtain ⟨fr, hfr⟩ : ∃ fr : Int32, fr = if (0 : Int32) < z3 - I 31 then z3 - I 31 else (0 : Int32) := ⟨_, rfl⟩
  obtain ⟨to, hto⟩ : ∃ to : Int32, to = if z3 + I 31 < I 30 - 1 then z3 + I 31 else I 30 - 1 := ⟨_, rfl⟩
  have efr : fr.toInt = frT b j := by
    unfold frT
    rcases i32_max (x := 0) (y := z3 - I 31) hfr with ⟨a, a'⟩ | ⟨a, a'⟩ <;> split <;> omega
  have eto : to.toInt = toT b n j := by
    unfold toT
    rcases i32_min (x := I 30 - 1) (y := z3 + I 31) hto with ⟨a, a'⟩ | ⟨a, a'⟩ <;> split <;> omega
  obtain ⟨f, hf⟩ : ∃ f : Nat, frT b j = (f : Int) := ⟨(frT b j).toNat, by omega⟩
  obtain ⟨t, ht⟩ : ∃ t : Nat, toT b n j = (t : Int) := ⟨(toT b n j).toNat, by omega⟩
  have ft : ∀ i, i < n → (((i : Int) - (j : Int) ≤ b ∧ (j : Int) - (i : Int) ≤ b) ↔ f ≤ i ∧ i ≤ t) := fun i hi => by
    unfold frT at hf
    unfold toT at ht
    constructor
    · intro h9; split at hf <;> split at ht <;> omega
    · intro h9; split at hf <;> split at ht <;> omega
  have h0 := envJ_0 (b := b) (g := rt) (j := j) (f := f) (fun i hi h9 => by have := (ft i (by omega)).mp h9; omega)
  have gf := rb f (by omega)
  have e1 : mxJ b rt j (f + 1) = rt f := by
    show (if ((f : Int) - (j : Int) ≤ b ∧ (j : Int) - (f : Int) ≤ b) ∧ mxJ b rt j f < rt f then rt f else mxJ b rt j f) = _
    rw [if_pos ⟨(ft f (by omega)).mpr ⟨by omega, by omega⟩, by rw [h0.1]; omega⟩]
  have e2 : mnJ b rt j (f + 1) = rt f := by
    show (if ((f : Int) - (j : Int) ≤ b ∧ (j : Int) - (f : Int) ≤ b) ∧ rt f < mnJ b rt j f then rt f else mnJ b rt j f) = _
    rw [if_pos ⟨(ft f (by omega)).mpr ⟨by omega, by omega⟩, by rw [h0.2]; omega⟩]
  have efn : fr.toInt = (f : Int) := by omega
  unfold fX2_outsideCost_2
  simp only [f_lt_eq]
  rw [← hfr, ← hto, clN efn]
  refine run_iii (Q := fun (w : Int32) => w.toInt = ocT c b n rt v j) (t - f) (fun k x p q => x.toInt = ((f + 1 + k : Nat) : Int) ∧ p.toInt = mxJ b rt j (f + 1 + k) ∧ q.toInt = mnJ b rt j (f + 1 + k)) (fun G k x p q hk hP => ?_) FU 0 (fr + 1) (A 22 f) (A 22 f) ⟨by rw [i32_inc (by omega)]; omega, by rw [Nat.add_zero, e1]; exact hrt f (by omega), by rw [Nat.add_zero, e2]; exact hrt f (by omega)⟩ (by omega) (fu_lt (by omega))
  obtain ⟨hx, hp, hq⟩ := hP
  unfold bX2_outsideCost_2_45
  dsimp only [f_lt]
  by_cases c1 : to.toInt < x.toInt
  · rw [if_pos c1]
    right
    have ek : f + 1 + k = t + 1 := by omega
    rw [ek] at hp hq
    have tl := envJ_tail (b := b) (g := rt) (j := j) (k := t + 1) (n - (t + 1)) (fun i h1 h2 h9 => by have := (ft i (by omega)).mp h9; omega)
    rw [show t + 1 + (n - (t + 1)) = n by omega] at tl
    have en := envJ_n (b := b) (j := j) (g := rt) rb hb hj
    rw [← tl.1] at hp
    rw [← tl.2] at hq
    unfold ocT
    by_cases c2 : z1.toInt ≤ p.toInt
    · rw [if_pos c2, if_neg (show ¬ mxJ b rt j n < v by omega)]
      by_cases c3 : q.toInt ≤ z1.toInt
      · rw [if_pos c3, if_neg (by omega)]; rfl
      · rw [if_neg c3, if_pos (by omega)]
        exact x_cost h32 hv hq hvb ⟨by omega, by omega⟩
    · rw [if_neg c2, if_pos (show mxJ b rt j n < v by omega)]
      exact x_cost h32 hv hp hvb ⟨by omega, by omega⟩
  · rw [if_neg c1, clN hx]
    left
    have hin := (ft (f + 1 + k) (by omega)).mpr ⟨by omega, by omega⟩
    have gi := hrt (f + 1 + k) (by omega)
    have m1 : mxJ b rt j (f + 1 + k + 1) = if (((f + 1 + k : Nat) : Int) - (j : Int) ≤ b ∧ (j : Int) - ((f + 1 + k : Nat) : Int) ≤ b) ∧ mxJ b rt j (f + 1 + k) < rt (f + 1 + k) then rt (f + 1 + k) else mxJ b rt j (f + 1 + k) := rfl
    have m2' : mnJ b rt j (f + 1 + k + 1) = if (((f + 1 + k : Nat) : Int) - (j : Int) ≤ b ∧ (j : Int) - ((f + 1 + k : Nat) : Int) ≤ b) ∧ rt (f + 1 + k) < mnJ b rt j (f + 1 + k) then rt (f + 1 + k) else mnJ b rt j (f + 1 + k) := rfl
    have en : mnJ b rt j (f + 1 + k) ≤ mxJ b rt j (f + 1 + k) := by
      rcases envJ (b := b) (j := j) (g := rt) rb (f + 1 + k) (by omega) with ⟨-, -, h9⟩ | h9
      · exact absurd ((ft f (by omega)).mpr ⟨by omega, by omega⟩) (h9 f (by omega))
      · exact h9.2.1
    refine ⟨by omega, ?_⟩
    by_cases c2 : q.toInt ≤ (A 22 (f + 1 + k)).toInt
    · rw [if_pos c2]
      by_cases c3 : (A 22 (f + 1 + k)).toInt ≤ p.toInt
      · rw [if_pos c3]
        refine ⟨_, _, _, rfl, i_s (k := f + 1 + k) hx (by omega), ?_, ?_⟩
        · show p.toInt = mxJ b rt j (f + 1 + k + 1)
          rw [m1, if_neg (fun h9 => by have := h9.2; omega)]; exact hp
        · show q.toInt = mnJ b rt j (f + 1 + k + 1)
          rw [m2', if_neg (fun h9 => by have := h9.2; omega)]; exact hq
      · rw [if_neg c3]
        refine ⟨_, _, _, rfl, i_s (k := f + 1 + k) hx (by omega), ?_, ?_⟩
        · show (A 22 (f + 1 + k)).toInt = mxJ b rt j (f + 1 + k + 1)
          rw [m1, if_pos ⟨hin, by omega⟩]; exact gi
        · show q.toInt = mnJ b rt j (f + 1 + k + 1)
          rw [m2', if_neg (fun h9 => by have := h9.2; omega)]; exact hq
    · rw [if_neg c2]
      refine ⟨_, _, _, rfl, i_s (k := f + 1 + k) hx (by omega), ?_, ?_⟩
      · show p.toInt = mxJ b rt j (f + 1 + k + 1)
        rw [m1, if_neg (fun h9 => by have := h9.2; omega)]; exact hp
      · show (A 22 (f + 1 + k)).toInt = mnJ b rt j (f + 1 + k + 1)
        rw [m2', if_pos ⟨hin, by omega⟩]; exact gi
theorem x_env22 {I : Nat → Int32} {A : Nat → Nat → Int32} {n : Nat} {b c : Int} {lf rt : Nat → Int} (h : TB I A n b c lf rt) : (fX2_envelopeBound_2 I A).toInt = ovT c b n rt lf n := by
  obtain ⟨⟨hn1, hn⟩, ⟨h30, h31, h32⟩, ⟨hb, hb2⟩, ⟨hl, hrt⟩, lb, rb⟩ := id h
  unfold fX2_envelopeBound_2
  refine run_ii (Q := fun (w : Int32) => w.toInt = ovT c b n rt lf n) n (fun k x y => x.toInt = (k : Int) ∧ y.toInt = ovT c b n rt lf k) (fun G k x y hk hP => ?_) FU 0 0 0 ⟨rfl, rfl⟩ (by omega) (fu_lt (by omega))
  obtain ⟨hx, hy⟩ := hP
  unfold bX2_envelopeBound_2_5
  dsimp only [f_lt]
  by_cases c1 : (I 30).toInt ≤ x.toInt
  · rw [if_pos c1]; right; rw [hy, show k = n by omega]
  · rw [if_neg c1, clN hx]
    left
    refine ⟨by omega, _, _, rfl, i_s hx (by omega), ?_⟩
    have a := ovT_b (c := c) (b := b) (g := rt) (h := lf) rb lb hb k hk
    have d := ocT_b (c := c) (b := b) (g := rt) (j := k) rb hb (by omega) (lb k (by omega))
    exact i32_add rfl hy (x_out22 h (hl k (by omega)) (lb k (by omega)) hx (by omega)) (by omega) (by omega)
theorem m_over {J : Nat → Int32} {B : Nat → Nat → Int32} {L : Nat → Nat → Int64} {n : Nat} {b c : Int} {lf rt : Nat → Int} (h : TN J B n b c lf rt) : (fM12_overOf J B L).toInt = ovT c b n lf rt n := by
  obtain ⟨⟨hn1, hn⟩, ⟨h18, hbb, hcc⟩, ⟨hb, hb2⟩, ⟨hl, hrt⟩, lb, rb⟩ := id h
  have far : (2000000000 : Int32).toInt = 2000000000 := rfl
  have far2 : (-2000000000 : Int32).toInt = -2000000000 := by decide
  unfold fM12_overOf
  refine run_ii (Q := fun (w : Int32) => w.toInt = ovT c b n lf rt n) n (fun k x y => x.toInt = (k : Int) ∧ y.toInt = ovT c b n lf rt k) (fun G k x y hk hP => ?_) FU 0 0 0 ⟨rfl, rfl⟩ (by omega) (fu_lt (by omega))
  obtain ⟨hx, hy⟩ := hP
  unfold bM12_overOf_4
  by_cases c1 : (J 18).toInt ≤ x.toInt
  · rw [if_pos c1]; right; rw [hy, show k = n by omega]
  · rw [if_neg c1]
    left
    have hkn : k < n := by omega
    refine ⟨hkn, ?_⟩
    have a := ovT_b (c := c) (b := b) (g := lf) (h := rt) lb rb hb k hk
    have d := ocT_b (c := c) (b := b) (g := lf) (j := k) lb hb hkn (rb k hkn)
    refine run_iii (Q := fun (w : Int32) => ∃ x' y' : Int32, w = G x' y' ∧ x'.toInt = ((k + 1 : Nat) : Int) ∧ y'.toInt = ovT c b n lf rt (k + 1)) n (fun i x2 q p => x2.toInt = (i : Int) ∧ q.toInt = mnJ b lf k i ∧ p.toInt = mxJ b lf k i) (fun G2 i x2 q p hi hP2 => ?_) FU 0 0 2000000000 (-2000000000) ⟨rfl, far, far2⟩ (by omega) (fu_lt (by omega))
    obtain ⟨hx2, hq, hp⟩ := hP2
    unfold bM12_overOf_24
    dsimp only [f_lt]
    by_cases c2 : (J 18).toInt ≤ x2.toInt
    · rw [if_pos c2, clN hx]
      right
      have ei : i = n := by omega
      rw [ei] at hq hp
      have en := envJ_n (b := b) (j := k) (g := lf) lb hb hkn
      have ev := hrt k hkn
      have evb := rb k hkn
      have st : ∀ y' : Int32, y'.toInt = ovT c b n lf rt k + ocT c b n lf (rt k) k → y'.toInt = ovT c b n lf rt (k + 1) := fun y' h9 => h9
      by_cases c3 : (B 20 k).toInt ≤ p.toInt
      · rw [if_pos c3]
        by_cases c4 : q.toInt ≤ (B 20 k).toInt
        · rw [if_pos c4]
          refine ⟨_, _, rfl, i_s hx (by omega), st _ ?_⟩
          unfold ocT
          rw [if_neg (by omega), if_neg (by omega)]; omega
        · rw [if_neg c4]
          refine ⟨_, _, rfl, i_s hx (by omega), st _ ?_⟩
          have oc : ocT c b n lf (rt k) k = csT c (rt k) (mnJ b lf k n) := by
            unfold ocT
            rw [if_neg (by omega), if_pos (by omega)]
          have mc := m_cost (J := J) (B := B) (L := L) (z1 := B 20 k) (z2 := q) hcc ev hq evb ⟨by omega, by omega⟩
          rw [← oc] at mc
          exact i32_add rfl hy mc (by omega) (by omega)
      · rw [if_neg c3, if_pos (show q.toInt ≤ (B 20 k).toInt by omega)]
        refine ⟨_, _, rfl, i_s hx (by omega), st _ ?_⟩
        have oc : ocT c b n lf (rt k) k = csT c (rt k) (mxJ b lf k n) := by
          unfold ocT
          rw [if_pos (by omega)]
        have mc := m_cost (J := J) (B := B) (L := L) (z1 := B 20 k) (z2 := p) hcc ev hp evb ⟨by omega, by omega⟩
        rw [← oc] at mc
        exact i32_add rfl hy mc (by omega) (by omega)
    · rw [if_neg c2]
      left
      refine ⟨by omega, ?_⟩
      have m1 : mxJ b lf k (i + 1) = if ((i : Int) - (k : Int) ≤ b ∧ (k : Int) - (i : Int) ≤ b) ∧ mxJ b lf k i < lf i then lf i else mxJ b lf k i := rfl
      have m2' : mnJ b lf k (i + 1) = if ((i : Int) - (k : Int) ≤ b ∧ (k : Int) - (i : Int) ≤ b) ∧ lf i < mnJ b lf k i then lf i else mnJ b lf k i := rfl
      have gi := hl i (by omega)
      rcases m_band (J := J) (B := B) (L := L) hn h18 hbb hb hb2 hx2 hx (by omega) (by omega) with ⟨e, -, hin⟩ | ⟨e, hout⟩
      · rw [e, if_neg (by decide), clN hx2]
        unfold inB at hin
        by_cases c3 : (B 19 i).toInt ≤ p.toInt
        · rw [if_pos c3]
          by_cases c4 : q.toInt ≤ (B 19 i).toInt
          · rw [if_pos c4]
            exact ⟨_, _, _, rfl, i_s hx2 (by omega), by rw [m2', if_neg (fun h9 => by have := h9.2; omega)]; exact hq, by rw [m1, if_neg (fun h9 => by have := h9.2; omega)]; exact hp⟩
          · rw [if_neg c4]
            exact ⟨_, _, _, rfl, i_s hx2 (by omega), by rw [m2', if_pos ⟨hin, by omega⟩]; exact gi, by rw [m1, if_neg (fun h9 => by have := h9.2; omega)]; exact hp⟩
        · rw [if_neg c3]
          by_cases c4 : q.toInt ≤ (B 19 i).toInt
          · rw [if_pos c4]
            exact ⟨_, _, _, rfl, i_s hx2 (by omega), by rw [m2', if_neg (fun h9 => by have := h9.2; omega)]; exact hq, by rw [m1, if_pos ⟨hin, by omega⟩]; exact gi⟩
          · rw [if_neg c4]
            exact ⟨_, _, _, rfl, i_s hx2 (by omega), by rw [m2', if_pos ⟨hin, by omega⟩]; exact gi, by rw [m1, if_pos ⟨hin, by omega⟩]; exact gi⟩
      · rw [e, if_pos rfl]
        have no : ¬ ((i : Int) - (k : Int) ≤ b ∧ (k : Int) - (i : Int) ≤ b) := fun h9 => hout ⟨hkn, h9⟩
        exact ⟨_, _, _, rfl, i_s hx2 (by omega), by rw [m2', if_neg (fun h9 => no h9.1)]; exact hq, by rw [m1, if_neg (fun h9 => no h9.1)]; exact hp⟩
theorem m_back {J : Nat → Int32} {B : Nat → Nat → Int32} {L : Nat → Nat → Int64} {n : Nat} {b c : Int} {lf rt : Nat → Int} (h : TN J B n b c lf rt) : ∃ (v : Int32) (B' : Nat → Nat → Int32), fM12_backOf J B L = (v, J, B', L) ∧ v.toInt = ovT c b n rt lf n ∧ Md [19, 20] B B' ∧ TN J B' n b c lf rt := by
  obtain ⟨⟨hn1, hn⟩, ⟨h18, hbb, hcc⟩, ⟨hb, hb2⟩, ⟨hl, hrt⟩, lb, rb⟩ := id h
  obtain ⟨B1, a1, a2, a3, a4⟩ := m_changes (J := J) (B := B) (L := L) (z := J 18) h18 hn
  have h1 : TN J B1 n b c rt lf := ⟨⟨hn1, hn⟩, ⟨h18, by rw [a2 18 rfl]; exact hbb, by rw [a2 18 rfl]; exact hcc⟩, ⟨hb, hb2⟩, ⟨fun i hi => by rw [a3 i hi]; exact hrt i hi, fun i hi => by rw [a4 i hi]; exact hl i hi⟩, rb, lb⟩
  obtain ⟨B2, b1, b2, b3, b4⟩ := m_changes (J := J) (B := B1) (L := L) (z := J 18) h18 hn
  unfold fM12_backOf
  rw [a1, bdM_mk, f_lt_eq, b1, bdM_mk]
  refine ⟨_, B2, rfl, m_over h1, Md.tr a2 b2 rfl, ⟨hn1, hn⟩, ⟨h18, by rw [b2 18 rfl, a2 18 rfl]; exact hbb, by rw [b2 18 rfl, a2 18 rfl]; exact hcc⟩, ⟨hb, hb2⟩, ⟨fun i hi => by rw [b3 i hi, a4 i hi]; exact hl i hi, fun i hi => by rw [b4 i hi, a3 i hi]; exact hrt i hi⟩, lb, rb⟩
end
section
/-- how a WINDOW is passed: how, places laid, the row at which it broke off -/
def HOW (b c : Int) (n : Nat) (lf rt : Nat → Int) (lim hw cl br : Int) : Prop :=
  (lim ≤ cC c lf rt 0 0 + cC c lf rt (n - 1) (n - 1) ∧ hw = 1 ∧ cl = 0 ∧ br = -2) ∨
  (cC c lf rt 0 0 + cC c lf rt (n - 1) (n - 1) < lim ∧ lim ≤ ovT c b n lf rt n ∧ hw = 2 ∧ cl = 0 ∧ br = -2) ∨
  (cC c lf rt 0 0 + cC c lf rt (n - 1) (n - 1) < lim ∧ ovT c b n lf rt n < lim ∧ lim ≤ ovT c b n rt lf n ∧ hw = 3 ∧ cl = 0 ∧ br = -2) ∨
  (cC c lf rt 0 0 + cC c lf rt (n - 1) (n - 1) < lim ∧ ovT c b n lf rt n < lim ∧ ovT c b n rt lf n < lim ∧ ∃ i0 : Nat, BK b (cC c lf rt) n lim i0 ∧ hw = 4 ∧ cl = csum b n (i0 + 1) ∧ br = (i0 : Int)) ∨
  (cC c lf rt 0 0 + cC c lf rt (n - 1) (n - 1) < lim ∧ ovT c b n lf rt n < lim ∧ ovT c b n rt lf n < lim ∧ WH b (cC c lf rt) n lim ∧ lim ≤ dT b (cC c lf rt) n ∧ hw = 5 ∧ cl = csum b n n ∧ br = -2) ∨
  (cC c lf rt 0 0 + cC c lf rt (n - 1) (n - 1) < lim ∧ ovT c b n lf rt n < lim ∧ ovT c b n rt lf n < lim ∧ WH b (cC c lf rt) n lim ∧ dT b (cC c lf rt) n < lim ∧ hw = 0 ∧ cl = csum b n n ∧ br = -2)
theorem BK.wh {b : Int} {C : Nat → Nat → Int} {n : Nat} {lim : Int} {i : Nat} (h : BK b C n lim i) (h' : WH b C n lim) : False := by
  have := h' i h.1; have := h.2.2; omega
theorem HOW.uq {b c : Int} {n : Nat} {lf rt : Nat → Int} {lim hw cl br hw' cl' br' : Int} (h : HOW b c n lf rt lim hw cl br) (h' : HOW b c n lf rt lim hw' cl' br') : hw = hw' ∧ cl = cl' ∧ br = br' := by
  unfold HOW at h h'
  rcases h with ⟨a1, a⟩ | ⟨a1, a2, a⟩ | ⟨a1, a2, a3, a⟩ | ⟨a1, a2, a3, i0, a4, a⟩ | ⟨a1, a2, a3, a4, a5, a⟩ | ⟨a1, a2, a3, a4, a5, a⟩
  · rcases h' with ⟨d1, d⟩ | ⟨d1, d2, d⟩ | ⟨d1, d2, d3, d⟩ | ⟨d1, d2, d3, j0, d4, d⟩ | ⟨d1, d2, d3, d4, d5, d⟩ | ⟨d1, d2, d3, d4, d5, d⟩ <;> omega
  · rcases h' with ⟨d1, d⟩ | ⟨d1, d2, d⟩ | ⟨d1, d2, d3, d⟩ | ⟨d1, d2, d3, j0, d4, d⟩ | ⟨d1, d2, d3, d4, d5, d⟩ | ⟨d1, d2, d3, d4, d5, d⟩ <;> omega
  · rcases h' with ⟨d1, d⟩ | ⟨d1, d2, d⟩ | ⟨d1, d2, d3, d⟩ | ⟨d1, d2, d3, j0, d4, d⟩ | ⟨d1, d2, d3, d4, d5, d⟩ | ⟨d1, d2, d3, d4, d5, d⟩ <;> omega
  · rcases h' with ⟨d1, d⟩ | ⟨d1, d2, d⟩ | ⟨d1, d2, d3, d⟩ | ⟨d1, d2, d3, j0, d4, d⟩ | ⟨d1, d2, d3, d4, d5, d⟩ | ⟨d1, d2, d3, d4, d5, d⟩
    · omega
    · omega
    · omega
    · have e := a4.uq d4
      subst e; omega
    · exact (a4.wh d4).elim
    · exact (a4.wh d4).elim
  · rcases h' with ⟨d1, d⟩ | ⟨d1, d2, d⟩ | ⟨d1, d2, d3, d⟩ | ⟨d1, d2, d3, j0, d4, d⟩ | ⟨d1, d2, d3, d4, d5, d⟩ | ⟨d1, d2, d3, d4, d5, d⟩
    · omega
    · omega
    · omega
    · exact (d4.wh a4).elim
    · omega
    · omega
  · rcases h' with ⟨d1, d⟩ | ⟨d1, d2, d⟩ | ⟨d1, d2, d3, d⟩ | ⟨d1, d2, d3, j0, d4, d⟩ | ⟨d1, d2, d3, d4, d5, d⟩ | ⟨d1, d2, d3, d4, d5, d⟩
    · omega
    · omega
    · omega
    · exact (d4.wh a4).elim
    · omega
    · omega
theorem x_look {I : Nat → Int32} {A : Nat → Nat → Int32} {n : Nat} {b c : Int} {lf rt : Nat → Int} (h : TB I A n b c lf rt) {z : Int32} {lim : Int} (hz : z.toInt = lim) : ∃ (hw : Int32) (I' : Nat → Int32) (A' : Nat → Nat → Int32), fX2_lookAt I A z = (hw, I', A') ∧ Md [33, 34] I I' ∧ Md [23] A A' ∧ HOW b c n lf rt lim hw.toInt (I' 33).toInt (I' 34).toInt ∧ (hw.toInt = 0 → XTb A' n b (cC c lf rt) n) := by
  obtain ⟨I1, hI1⟩ : ∃ I1, I1 = upd (upd I 33 0) 34 (-2) := ⟨_, rfl⟩
  have m1 : Md [33, 34] I I1 := by rw [hI1]; exact Md.up (Md.up Md.rf rfl) rfl
  have h1 : TB I1 A n b c lf rt := h.mv (m1 30 rfl) (m1 31 rfl) (m1 32 rfl) rfl rfl
  have i33 : (I1 33).toInt = 0 := by rw [hI1]; rfl
  have i34 : (I1 34).toInt = -2 := by rw [hI1]; rfl
  have e1 := x_ends h1
  have e2 := x_env21 h1
  have e3 := x_env22 h1
  unfold fX2_lookAt
  simp only [f_lt_eq]
  rw [← hI1]
  by_cases c1 : (fX2_endsBound I1 A).toInt < z.toInt
  · rw [if_pos c1]
    by_cases c2 : (fX2_envelopeBound I1 A).toInt < z.toInt
    · rw [if_pos c2]
      by_cases c3 : (fX2_envelopeBound_2 I1 A).toInt < z.toInt
      · rw [if_pos c3]
        obtain ⟨I2, A2, t1, t2, t3, t4⟩ := x_table h1 hz
        rw [t1, bdX_mk]
        rcases t4 with ⟨w1, w2, w3, w4⟩ | ⟨i0, w1, w2, w3⟩
        · have ld := x_laid (I := I2) (A := A2) (by rw [t2 30 rfl]; exact h1.2.1.1) h.1.1 h.1.2 h.2.2.1.1 w4
          rw [if_pos w2]
          by_cases c4 : (fX2_laidDistance I2 A2).toInt < z.toInt
          · rw [if_pos c4]
            exact ⟨0, I2, A2, rfl, Md.tr m1 t2 rfl, t3, Or.inr (Or.inr (Or.inr (Or.inr (Or.inr ⟨by omega, by omega, by omega, w1, by omega, rfl, w3, w2⟩)))), fun _ => w4⟩
          · rw [if_neg c4]
            exact ⟨5, I2, A2, rfl, Md.tr m1 t2 rfl, t3, Or.inr (Or.inr (Or.inr (Or.inr (Or.inl ⟨by omega, by omega, by omega, w1, by omega, rfl, w3, w2⟩)))), fun h9 => absurd h9 (by decide)⟩
        · rw [if_neg (by omega)]
          exact ⟨4, I2, A2, rfl, Md.tr m1 t2 rfl, t3, Or.inr (Or.inr (Or.inr (Or.inl ⟨by omega, by omega, by omega, i0, w1, rfl, w3, w2⟩))), fun h9 => absurd h9 (by decide)⟩
      · rw [if_neg c3]
        exact ⟨3, I1, A, rfl, m1, Md.rf, Or.inr (Or.inr (Or.inl ⟨by omega, by omega, by omega, rfl, i33, i34⟩)), fun h9 => absurd h9 (by decide)⟩
    · rw [if_neg c2]
      exact ⟨2, I1, A, rfl, m1, Md.rf, Or.inr (Or.inl ⟨by omega, by omega, rfl, i33, i34⟩), fun h9 => absurd h9 (by decide)⟩
  · rw [if_neg c1]
    exact ⟨1, I1, A, rfl, m1, Md.rf, Or.inl ⟨by omega, rfl, i33, i34⟩, fun h9 => absurd h9 (by decide)⟩
section PASS
variable {J : Nat → Int32} {B : Nat → Nat → Int32} {L : Nat → Nat → Int64} {r : Nat → Int32} {σ N nq : Nat} {ql : Nat → Nat} {qv : Nat → Nat → Int}
theorem m_pass (hm : MW J B σ N nq ql qv) (hr : rok r N) (h18 : ∀ k, k < 165 → B 18 k = r k) (hk0 : 0 ≤ (r 162).toInt) (hk3 : (r 162).toInt ≤ 3) (hb0 : 0 ≤ (r 161).toInt ∧ (r 161).toInt ≤ 1000) {z1 z2 z3 : Int32} {q s : Nat} {lim : Int} (h1 : z1.toInt = (q : Int)) (hq : q < nq) (h2 : z2.toInt = (s : Int)) (hw : wnR r N s (ql q)) (h3 : z3.toInt = lim) : ∃ (hw br : Int32) (J' : Nat → Int32) (B' : Nat → Nat → Int32), fM12_passes J B L z1 z2 z3 = (hw, J', B', L) ∧ Md [18, 19, 20, 21] J J' ∧ Md [19, 20, 21] B B' ∧ (br = if (J' 20).toInt < 0 then -2 else J' 20) ∧ HOW (r 161).toInt (r 163).toInt (ql q) (lvl r (ql q) (qv q)) (lvl r (ql q) (gW r s)) lim hw.toInt (J' 19).toInt br.toInt ∧ (hw.toInt = 0 → (J' 21).toInt = dQ r ql qv (r 161).toInt q s) := by
  obtain ⟨J1, B1, a1, a2, a3, a4⟩ := m_openB (L := L) hm hr h18 hk0 hk3 rfl hb0 rfl h1 hq h2 hw
  obtain ⟨J2, hJ2⟩ : ∃ J2, J2 = upd (upd (upd J1 19 0) 20 (-1)) 21 2000000000 := ⟨_, rfl⟩
  have m2 : Md [18, 19, 20, 21] J J2 := by rw [hJ2]; exact Md.up (Md.up (Md.up (Md.tr Md.rf a2 rfl) rfl) rfl) rfl
  have t2 : TN J2 B1 (ql q) (r 161).toInt (r 163).toInt (lvl r (ql q) (qv q)) (lvl r (ql q) (gW r s)) := a4.mv (by rw [hJ2]; rfl) rfl rfl rfl
  have j19 : (J2 19).toInt = 0 := by rw [hJ2]; rfl
  have j20 : (J2 20).toInt = -1 := by rw [hJ2]; rfl
  have b3 : Md [19, 20, 21] B B1 := Md.tr Md.rf a3 rfl
  have e1 := m_ends (L := L) t2
  have e2 := m_over (L := L) t2
  unfold fM12_passes
  rw [a1, bdM_mk]
  simp only [f_lt_eq]
  rw [← hJ2]
  by_cases c1 : (fM12_endsOf J2 B1 L).toInt < z3.toInt
  · rw [if_pos c1]
    by_cases c2 : (fM12_overOf J2 B1 L).toInt < z3.toInt
    · rw [if_pos c2]
      obtain ⟨v3, B3, f1, f2, f3, f4⟩ := m_back (L := L) t2
      rw [f1, bdM_mk]
      by_cases c3 : v3.toInt < z3.toInt
      · rw [if_pos c3]
        obtain ⟨v4, J4, B4, g1, g2, g3, g4⟩ := m_table (L := L) f4 h3
        rw [g1, bdM_mk]
        have mJ : Md [18, 19, 20, 21] J (upd J4 21 v4) := Md.up (Md.tr m2 g2 rfl) rfl
        have mB : Md [19, 20, 21] B B4 := Md.tr (Md.tr b3 f3 rfl) g3 rfl
        rcases g4 with ⟨w1, w2, w3, w4, w5⟩ | ⟨i0, w1, w2, w3, w4⟩
        · rw [if_pos (by omega)]
          by_cases c4 : v4.toInt < z3.toInt
          · rw [if_pos c4]
            exact ⟨0, -2, _, B4, rfl, mJ, mB, by show _ = (if (J4 20).toInt < 0 then (-2 : Int32) else J4 20); rw [if_pos (show (J4 20).toInt < 0 by omega)], Or.inr (Or.inr (Or.inr (Or.inr (Or.inr ⟨by omega, by omega, by omega, w1, by omega, rfl, w4, rfl⟩)))), fun _ => w2⟩
          · rw [if_neg c4]
            exact ⟨5, -2, _, B4, rfl, mJ, mB, by show _ = (if (J4 20).toInt < 0 then (-2 : Int32) else J4 20); rw [if_pos (show (J4 20).toInt < 0 by omega)], Or.inr (Or.inr (Or.inr (Or.inr (Or.inl ⟨by omega, by omega, by omega, w1, by omega, rfl, w4, rfl⟩)))), fun h9 => absurd h9 (by decide)⟩
        · rw [if_neg (by omega)]
          exact ⟨4, J4 20, _, B4, rfl, mJ, mB, by show _ = (if (J4 20).toInt < 0 then (-2 : Int32) else J4 20); rw [if_neg (show ¬ (J4 20).toInt < 0 by omega)], Or.inr (Or.inr (Or.inr (Or.inl ⟨by omega, by omega, by omega, i0, w1, rfl, w4, w3⟩))), fun h9 => absurd h9 (by decide)⟩
      · rw [if_neg c3]
        exact ⟨3, -2, J2, B3, rfl, m2, Md.tr b3 f3 rfl, by rw [if_pos (by omega)], Or.inr (Or.inr (Or.inl ⟨by omega, by omega, by omega, rfl, j19, rfl⟩)), fun h9 => absurd h9 (by decide)⟩
    · rw [if_neg c2]
      exact ⟨2, -2, J2, B1, rfl, m2, b3, by rw [if_pos (by omega)], Or.inr (Or.inl ⟨by omega, by omega, rfl, j19, rfl⟩), fun h9 => absurd h9 (by decide)⟩
  · rw [if_neg c1]
    exact ⟨1, -2, J2, B1, rfl, m2, b3, by rw [if_pos (by omega)], Or.inl ⟨by omega, rfl, j19, rfl⟩, fun h9 => absurd h9 (by decide)⟩
end PASS
section ANS4
variable {I I' J J' : Nat → Int32} {A A' B B' : Nat → Nat → Int32} {M M' : Nat → Nat → Int64} {z z1 z2 z3 z4 v w : Int32}
theorem ans_bound (h : RA I A J B M) (_ : IvX I A) (_ : IvM J B) (eX : FE (fX11_bound I A z1 z2 z3) (v, I', A')) (eM : FE (fM12_bound J B M z1 z2 z3) (w, J', B', M')) : v = w := by
  have eX2 : fX11_bound I A z1 z2 z3 = (v, I', A') := eX
  have eM2 : fM12_bound J B M z1 z2 z3 = (w, J', B', M') := eM
  obtain ⟨σ, N, nq, ql, qv, hx, hm⟩ := h.xm
  have hs := hx.2.2.2.2.n
  have t0 : (0 : Int32).toInt = 0 := rfl
  have t2 : (2 : Int32).toInt = 2 := rfl
  unfold fX11_bound at eX2
  unfold fM12_bound at eM2
  rcases both_eq (L := M) hx hm (fun _ _ => rfl) z1 z2 with ⟨a, b⟩ | ⟨a, b, q, s, h1, h2, hq, hw⟩
  · rw [x_openB0 a, bdX_mk, if_neg (by decide)] at eX2
    rw [b, if_pos rfl] at eM2
    cases eX2; cases eM2; rfl
  · obtain ⟨I1, A1, a1, -, -, a4⟩ := x_openB hx h1 h2 hq hw a
    rw [a1, bdX_mk, if_pos (by decide)] at eX2
    rw [b, if_neg (by decide), m_in, if10] at eM2
    unfold fM12_copies at eM2
    rw [bdM_mk] at eM2
    obtain ⟨J2, B2, c1, -, -, c4⟩ := m_openB (L := M) hm.cp hx.1.1 m_cp hs.2.2.2.2.2.2.1 hs.2.2.2.2.2.2.2.1 rfl ⟨hs.2.2.2.2.1, by omega⟩ rfl h1 hq h2 hw
    rw [c1, bdM_mk] at eM2
    simp only [f_lt_eq] at eX2 eM2
    by_cases k0 : z3.toInt = 0
    · rw [if_pos k0] at eX2
      rw [if_pos (by omega), if_neg (fun h9 => h9 k0)] at eM2
      cases eX2; cases eM2
      exact Int32.toInt_inj.mp (by rw [x_ends a4, m_ends c4])
    · rw [if_neg k0] at eX2
      by_cases k1 : z3.toInt = 1
      · rw [if_pos k1] at eX2
        rw [if_pos (by omega), if_pos k0, if_neg (fun h9 => h9 k1)] at eM2
        unfold fX2_overBound at eX2
        rw [f_lt_eq] at eX2
        cases eX2; cases eM2
        exact Int32.toInt_inj.mp (by rw [x_env21 a4, m_over c4])
      · rw [if_neg k1] at eX2
        by_cases k2 : z3.toInt = 2
        · rw [if_pos k2] at eX2
          rw [if_pos (by omega), if_pos k0, if_pos k1] at eM2
          unfold fX2_backBound at eX2
          rw [f_lt_eq] at eX2
          obtain ⟨v3, B3, f1, f2, -⟩ := m_back (L := M) c4
          rw [f1, bdM_mk] at eM2
          cases eX2; cases eM2
          exact Int32.toInt_inj.mp (by rw [x_env22 a4, f2])
        · rw [if_neg k2] at eX2
          rw [if_neg (by omega)] at eM2
          cases eX2; cases eM2; rfl
theorem ans_look (h : RA I A J B M) (_ : IvX I A) (_ : IvM J B) (eX : FE (fX11_look I A z1 z2 z3 z4) (v, I', A')) (eM : FE (fM12_look J B M z1 z2 z3 z4) (w, J', B', M')) : v = w := by
  have eX2 : fX11_look I A z1 z2 z3 z4 = (v, I', A') := eX
  have eM2 : fM12_look J B M z1 z2 z3 z4 = (w, J', B', M') := eM
  obtain ⟨σ, N, nq, ql, qv, hx, hm⟩ := h.xm
  have hs := hx.2.2.2.2.n
  have t0 : (0 : Int32).toInt = 0 := rfl
  have t2 : (2 : Int32).toInt = 2 := rfl
  unfold fX11_look at eX2
  unfold fM12_look at eM2
  rw [m_in, if10] at eM2
  have no : (z3.toInt < 0 ∨ z4.toInt < 0 ∨ 2 < z4.toInt) → v = -1 ∧ w = -1 := fun c => by
    constructor
    · by_cases c1 : z3.toInt < 0
      · rw [if_pos c1] at eX2; cases eX2; rfl
      · rw [if_neg c1] at eX2
        by_cases c2 : z4.toInt < 0
        · rw [if_pos c2] at eX2; cases eX2; rfl
        · rw [if_neg c2, if_pos (by omega)] at eX2; cases eX2; rfl
    · by_cases c0 : fM12_isOf J B M z1 z2 = 0
      · rw [if_pos c0] at eM2; cases eM2; rfl
      · rw [if_neg c0] at eM2
        by_cases c1 : z3.toInt < 0
        · rw [if_pos c1] at eM2; cases eM2; rfl
        · rw [if_neg c1, if_neg (by omega)] at eM2; cases eM2; rfl
  by_cases c : z3.toInt < 0 ∨ z4.toInt < 0 ∨ 2 < z4.toInt
  · obtain ⟨p, q⟩ := no c
    rw [p, q]
  · rw [if_neg (by omega), if_neg (by omega), if_neg (by omega)] at eX2
    rw [if_neg (show ¬ z3.toInt < 0 by omega), if_pos (show (0 : Int32).toInt ≤ z4.toInt ∧ z4.toInt ≤ (2 : Int32).toInt by omega)] at eM2
    rcases both_eq (L := M) hx hm (fun _ _ => rfl) z1 z2 with ⟨a, b⟩ | ⟨a, b, q, s, h1, h2, hq, hw⟩
    · rw [x_openB0 a, bdX_mk, if_neg (by decide)] at eX2
      rw [b, if_pos rfl] at eM2
      cases eX2; cases eM2; rfl
    · obtain ⟨I1, A1, a1, -, -, a4⟩ := x_openB hx h1 h2 hq hw a
      obtain ⟨hw1, I2, A2, b1, -, -, b4, -⟩ := x_look a4 (z := z3) rfl
      rw [a1, bdX_mk, if_pos (by decide), b1, bdX_mk] at eX2
      unfold fM12_copies at eM2
      obtain ⟨hw2, br, J3, B3, c1, -, -, c4, c5, -⟩ := m_pass (L := M) hm.cp hx.1.1 m_cp hs.2.2.2.2.2.2.1 hs.2.2.2.2.2.2.2.1 ⟨hs.2.2.2.2.1, by omega⟩ h1 hq h2 hw (z3 := z3) rfl
      rw [b, if_neg (by decide), bdM_mk, c1, bdM_mk] at eM2
      obtain ⟨u1, u2, u3⟩ := b4.uq c5
      by_cases k0 : z4.toInt = 0
      · rw [if_neg (fun h9 => h9 k0)] at eX2 eM2
        cases eX2; cases eM2
        exact Int32.toInt_inj.mp u1
      · rw [if_pos k0] at eX2 eM2
        by_cases k1 : z4.toInt = 1
        · rw [if_neg (fun h9 => h9 k1)] at eX2 eM2
          cases eX2; cases eM2
          exact Int32.toInt_inj.mp u2
        · rw [if_pos k1] at eX2 eM2
          cases eX2
          apply Int32.toInt_inj.mp
          rw [u3, c4]
          by_cases k3 : (J3 20).toInt < 0
          · rw [if_pos k3] at eM2 ⊢; cases eM2; rfl
          · rw [if_neg k3] at eM2 ⊢; cases eM2; rfl
end ANS4
end
section
theorem run_iiiIA {ρ : Type} {d : ρ} {b : (Int32 → Int32 → Int32 → (Nat → Int32) → (Nat → Nat → Int32) → ρ) → Int32 → Int32 → Int32 → (Nat → Int32) → (Nat → Nat → Int32) → ρ} {Q : ρ → Prop} (n : Nat) (P : Nat → Int32 → Int32 → Int32 → (Nat → Int32) → (Nat → Nat → Int32) → Prop) (hs : ∀ (G : Int32 → Int32 → Int32 → (Nat → Int32) → (Nat → Nat → Int32) → ρ) (k : Nat) (x0 : Int32) (x1 : Int32) (x2 : Int32) (I : (Nat → Int32)) (A : (Nat → Nat → Int32)), k ≤ n → P k x0 x1 x2 I A → (k < n ∧ ∃ (x0' : Int32) (x1' : Int32) (x2' : Int32) (I' : (Nat → Int32)) (A' : (Nat → Nat → Int32)), b G x0 x1 x2 I A = G x0' x1' x2' I' A' ∧ P (k + 1) x0' x1' x2' I' A') ∨ Q (b G x0 x1 x2 I A)) : ∀ (m k : Nat) (x0 : Int32) (x1 : Int32) (x2 : Int32) (I : (Nat → Int32)) (A : (Nat → Nat → Int32)), P k x0 x1 x2 I A → k ≤ n → n - k < m → Q (itr_iiiIA d b m x0 x1 x2 I A) := by
  intro m
  induction m with
  | zero => intro k x0 x1 x2 I A _ _ h; omega
  | succ m ih =>
    intro k x0 x1 x2 I A hP hk hm
    show Q (b (itr_iiiIA d b m) x0 x1 x2 I A)
    rcases hs (itr_iiiIA d b m) k x0 x1 x2 I A hk hP with ⟨h1, x0', x1', x2', I', A', e, h2⟩ | h1
    · rw [e]; exact ih (k + 1) x0' x1' x2' I' A' h2 (by omega) (by omega)
    · exact h1
theorem x_cellN {I : Nat → Int32} {A : Nat → Nat → Int32} {z1 z2 : Int32} (h : z1.toInt < 0 ∨ z2.toInt < 0) : fX2_cellAt I A z1 z2 = 2147483647 := by
  unfold fX2_cellAt
  simp only [f_lt_eq]
  by_cases c : z1.toInt < 0
  · rw [if_pos c]
  · rw [if_neg c, if_pos (by omega)]
theorem x_cell {I : Nat → Int32} {A : Nat → Nat → Int32} {n : Nat} {b : Int} {C : Nat → Nat → Int} (h30 : (I 30).toInt = (n : Int)) (h31 : (I 31).toInt = b) (hn : n ≤ 16) (ht : XTb A n b C n) {z1 z2 : Int32} {i j : Nat} (h1 : z1.toInt = (i : Int)) (h2 : z2.toInt = (j : Int)) (hi : i < n) (hj : j < n) : (inB b i j ∧ (fX2_cellAt I A z1 z2).toInt = tT b C i j) ∨ (¬ inB b i j ∧ fX2_cellAt I A z1 z2 = 2147483647) := by
  have d1 := i32_sub (x := z1) (y := z2) rfl h1 h2 (by omega) (by omega)
  have d2 := i32_sub (x := z2) (y := z1) rfl h2 h1 (by omega) (by omega)
  unfold fX2_cellAt
  simp only [f_lt_eq]
  rw [if_neg (by omega), if_neg (by omega), if_neg (by omega), if_neg (by omega)]
  by_cases c1 : (I 31).toInt < (z1 - z2).toInt
  · rw [if_pos c1]; right; exact ⟨fun h9 => by unfold inB at h9; omega, rfl⟩
  · rw [if_neg c1]
    by_cases c2 : (I 31).toInt < (z2 - z1).toInt
    · rw [if_pos c2]; right; exact ⟨fun h9 => by unfold inB at h9; omega, rfl⟩
    · rw [if_neg c2, i_16 h1 h2 (by omega) (by omega)]
      have hin : inB b i j := by unfold inB; omega
      exact Or.inl ⟨hin, ht i hi j hj hin⟩
theorem i_m1 {z : Int32} {a : Int} (h : z.toInt = a) (h1 : -1000 ≤ a) (h2 : a ≤ 1000) : z + Int32.ofInt (-1) = z - 1 :=
  Int32.toInt_inj.mp ((i32_add (x := z) (y := Int32.ofInt (-1)) (b := -1) rfl h (by decide) (by omega) (by omega)).trans (Int.sub_eq_add_neg.symm.trans (i32_sub (x := z) (y := 1) (b := 1) rfl h rfl (by omega) (by omega)).symm))
/-- the two values of a neighbour: real and alike, or far -/
def CVL (x m : Int32) (real : Prop) : Prop := (real ∧ x.toInt = m.toInt ∧ x.toInt ≤ 500000000) ∨ (¬ real ∧ x.toInt = 2147483647 ∧ m.toInt = 2000000000)
theorem cvl_lt {x0 x1 m0 m1 : Int32} {p q : Prop} (h0 : CVL x0 m0 p) (h1 : CVL x1 m1 q) : x1.toInt < x0.toInt ↔ m1.toInt < m0.toInt := by
  rcases h0 with ⟨-, r0, r0'⟩ | ⟨-, r0, r0'⟩ <;> rcases h1 with ⟨-, r1, r1'⟩ | ⟨-, r1, r1'⟩ <;> omega
theorem cvl_I {x0 x1 x2 m0 m1 m2 : Int32} {p q r : Prop} (h0 : CVL x0 m0 p) (h1 : CVL x1 m1 q) (h2 : CVL x2 m2 r) (h8 : ¬ x2.toInt < x1.toInt) (h9 : x1.toInt < x0.toInt ∨ x2.toInt < x0.toInt) : q := by
  rcases h1 with ⟨a, -⟩ | ⟨-, r1, -⟩
  · exact a
  · exfalso
    rcases h0 with ⟨-, -, r0⟩ | ⟨-, r0, -⟩ <;> rcases h2 with ⟨-, -, r2⟩ | ⟨-, r2, -⟩ <;> omega
theorem cvl_J {x1 x2 m1 m2 : Int32} {q r : Prop} (h1 : CVL x1 m1 q) (h2 : CVL x2 m2 r) (h8 : x2.toInt < x1.toInt) : r := by
  rcases h2 with ⟨a, -⟩ | ⟨-, r2, -⟩
  · exact a
  · exfalso
    rcases h1 with ⟨-, -, r1⟩ | ⟨-, r1, -⟩ <;> omega
/-- the WAY back from (i, j): the class's and the reference's are the same -/
theorem way_sim {n : Nat} {b c : Int} {lf rt : Nat → Int} {L : Nat → Nat → Int64} : ∀ (d m1 m2 k : Nat) (i j : Int) (zk zi zj : Int32) (I : Nat → Int32) (A : Nat → Nat → Int32) (J : Nat → Int32) (B : Nat → Nat → Int32), i + j + 2 ≤ (d : Int) → d < m1 → d < m2 → zk.toInt = (k : Int) → zi.toInt = i → zj.toInt = j → -1 ≤ i → -1 ≤ j → i < n → j < n → (0 ≤ i → 0 ≤ j → inB b i.toNat j.toNat) → (k : Int) + i + j ≤ 30 → (i < 0 ∨ j < 0 → k ≤ 32) → TB I A n b c lf rt → XTb A n b (cC c lf rt) n → TN J B n b c lf rt → MTb B n b (cC c lf rt) n → (I 29).toInt = (k : Int) → (J 23).toInt = (k : Int) → (∀ m, m < k → A 24 m = B 23 m ∧ 0 ≤ (A 24 m).toInt ∧ (A 24 m).toInt ≤ 1515) → ∃ (I' : Nat → Int32) (A' : Nat → Nat → Int32) (J' : Nat → Int32) (B' : Nat → Nat → Int32) (len : Nat), itr_iiiIA dfX bX2_traceWay_27 m1 zk zj zi I A = (0, I', A') ∧ itr_iiIAL dfM bM12_fillsWay_19 m2 zj zi J B L = (0, J', B', L) ∧ (I' 29).toInt = (len : Int) ∧ (J' 23).toInt = (len : Int) ∧ len ≤ 32 ∧ ∀ m, m < len → A' 24 m = B' 23 m ∧ 0 ≤ (A' 24 m).toInt ∧ (A' 24 m).toInt ≤ 1515 := by
  intro d
  induction d with
  | zero =>
    intro m1 m2 k i j zk zi zj I A J B hd h1 h2 hk hzi hzj gi gj li lj hin hkb hke tb xt tn mt h29 h23 hv
    obtain ⟨p1, e1⟩ : ∃ p, m1 = p + 1 := ⟨m1 - 1, by omega⟩
    obtain ⟨p2, e2⟩ : ∃ p, m2 = p + 1 := ⟨m2 - 1, by omega⟩
    subst e1; subst e2
    refine ⟨I, A, J, B, k, ?_, ?_, h29, h23, hke (by omega), hv⟩
    · show bX2_traceWay_27 (itr_iiiIA dfX bX2_traceWay_27 p1) zk zj zi I A = _
      generalize itr_iiiIA dfX bX2_traceWay_27 p1 = G
      unfold bX2_traceWay_27
      by_cases q : 32 ≤ zk.toInt
      · rw [if_pos q]
      · rw [if_neg q, if_pos (by omega)]
    · show bM12_fillsWay_19 (itr_iiIAL dfM bM12_fillsWay_19 p2) zj zi J B L = _
      generalize itr_iiIAL dfM bM12_fillsWay_19 p2 = G
      unfold bM12_fillsWay_19
      rw [if_pos (by omega)]
  | succ d ih =>
    intro m1 m2 k i j zk zi zj I A J B hd h1 h2 hk hzi hzj gi gj li lj hin hkb hke tb xt tn mt h29 h23 hv
    obtain ⟨p1, e1⟩ : ∃ p, m1 = p + 1 := ⟨m1 - 1, by omega⟩
    obtain ⟨p2, e2⟩ : ∃ p, m2 = p + 1 := ⟨m2 - 1, by omega⟩
    subst e1; subst e2
    have tC := tb.cok
    obtain ⟨⟨hn1, hn⟩, ⟨h30, h31, h32⟩, ⟨hb, hb2⟩, -⟩ := id tb
    obtain ⟨-, ⟨n18, nb, nc⟩, -⟩ := id tn
    by_cases ce : i < 0 ∨ j < 0
    · refine ⟨I, A, J, B, k, ?_, ?_, h29, h23, hke ce, hv⟩
      · show bX2_traceWay_27 (itr_iiiIA dfX bX2_traceWay_27 p1) zk zj zi I A = _
        generalize itr_iiiIA dfX bX2_traceWay_27 p1 = G
        unfold bX2_traceWay_27
        by_cases q : 32 ≤ zk.toInt
        · rw [if_pos q]
        · rw [if_neg q]
          by_cases q2 : zi.toInt < 0
          · rw [if_pos q2]
          · rw [if_neg q2, if_pos (by omega)]
      · show bM12_fillsWay_19 (itr_iiIAL dfM bM12_fillsWay_19 p2) zj zi J B L = _
        generalize itr_iiIAL dfM bM12_fillsWay_19 p2 = G
        unfold bM12_fillsWay_19
        by_cases q2 : zi.toInt < 0
        · rw [if_pos q2]
        · rw [if_neg q2, if_pos (by omega)]
    · obtain ⟨a, ha⟩ : ∃ a : Nat, i = (a : Int) := ⟨i.toNat, by omega⟩
      obtain ⟨e, he⟩ : ∃ e : Nat, j = (e : Int) := ⟨j.toNat, by omega⟩
      subst ha; subst he
      have hin2 : inB b a e := by
        have := hin (by omega) (by omega)
        rwa [show ((a : Int)).toNat = a by omega, show ((e : Int)).toNat = e by omega] at this
      have hin3 := hin2
      unfold inB at hin3
      have v1 := i32_mul (x := 100) (y := zi) (a := 100) rfl rfl hzi (by omega) (by omega)
      have v2 := i32_add (x := 100 * zi) (y := zj) rfl v1 hzj (by omega) (by omega)
      have s1 := i32_sub (x := zi) (y := 1) (b := 1) rfl hzi rfl (by omega) (by omega)
      have s2 := i32_sub (x := zj) (y := 1) (b := 1) rfl hzj rfl (by omega) (by omega)
      have ei : zi + Int32.ofInt (-1) = zi - 1 := i_m1 hzi (by omega) (by omega)
      have ej : zj + Int32.ofInt (-1) = zj - 1 := i_m1 hzj (by omega) (by omega)
      have k1 : (zk + 1).toInt = ((k + 1 : Nat) : Int) := by rw [i32_inc (by omega)]; omega
      have j1 : (J 23 + 1).toInt = ((k + 1 : Nat) : Int) := by rw [i32_inc (by omega)]; omega
      obtain ⟨I1, hI1⟩ : ∃ I1, I1 = upd I 29 (zk + 1) := ⟨_, rfl⟩
      obtain ⟨A1, hA1⟩ : ∃ A1, A1 = up3 A 24 k (100 * zi + zj) := ⟨_, rfl⟩
      obtain ⟨J1, hJ1⟩ : ∃ J1, J1 = upd J 23 (J 23 + 1) := ⟨_, rfl⟩
      obtain ⟨B1, hB1⟩ : ∃ B1, B1 = up3 B 23 k (100 * zi + zj) := ⟨_, rfl⟩
      have mI : Md [29] I I1 := by rw [hI1]; exact Md.up Md.rf rfl
      have mA : Md [24] A A1 := by rw [hA1]; exact Md.up3 Md.rf rfl
      have mJ : Md [23] J J1 := by rw [hJ1]; exact Md.up Md.rf rfl
      have mB : Md [23] B B1 := by rw [hB1]; exact Md.up3 Md.rf rfl
      have tb1 : TB I1 A1 n b c lf rt := tb.mv (mI 30 rfl) (mI 31 rfl) (mI 32 rfl) (mA 21 rfl) (mA 22 rfl)
      have tn1 : TN J1 B1 n b c lf rt := tn.mv (mJ 18 rfl) (mB 18 rfl) (mB 19 rfl) (mB 20 rfl)
      have xt1 : XTb A1 n b (cC c lf rt) n := fun i' hi' j' hj' hh => by rw [mA 23 rfl]; exact xt i' hi' j' hj' hh
      have mt1 : MTb B1 n b (cC c lf rt) n := fun i' hi' j' hj' hh => by rw [mB 21 rfl]; exact mt i' hi' j' hj' hh
      have hv1 : ∀ m, m < k + 1 → A1 24 m = B1 23 m ∧ 0 ≤ (A1 24 m).toInt ∧ (A1 24 m).toInt ≤ 1515 := fun m hm => by
        rw [hA1, hB1]
        by_cases em : m = k
        · rw [up3_at em, up3_at em]; exact ⟨rfl, by omega, by omega⟩
        · rw [up3_ne em, up3_ne em]; exact hv m (by omega)
      have q29 : (I1 29).toInt = ((k + 1 : Nat) : Int) := by rw [hI1]; exact k1
      have q23 : (J1 23).toInt = ((k + 1 : Nat) : Int) := by rw [hJ1]; exact j1
      have nk : ¬ 32 ≤ zk.toInt := by omega
      have ni : ¬ zi.toInt < 0 := by omega
      have nj : ¬ zj.toInt < 0 := by omega
      have ihB := fun g8 => ih p1 p2 (k + 1) ((a : Int) - 1) ((e : Int) - 1) (zk + Int32.ofInt 1) (zi - 1) (zj - 1) I1 A1 J1 B1 (by omega) (by omega) (by omega) (i_s hk (by omega)) s1 s2 (by omega) (by omega) (by omega) (by omega) g8 (by omega) (fun _ => by omega) tb1 xt1 tn1 mt1 q29 q23 hv1
      have ihI := fun g8 => ih p1 p2 (k + 1) ((a : Int) - 1) (e : Int) (zk + Int32.ofInt 1) (zi - 1) zj I1 A1 J1 B1 (by omega) (by omega) (by omega) (i_s hk (by omega)) s1 hzj (by omega) (by omega) (by omega) (by omega) g8 (by omega) (fun _ => by omega) tb1 xt1 tn1 mt1 q29 q23 hv1
      have ihJ := fun g8 => ih p1 p2 (k + 1) (a : Int) ((e : Int) - 1) (zk + Int32.ofInt 1) zi (zj - 1) I1 A1 J1 B1 (by omega) (by omega) (by omega) (i_s hk (by omega)) hzi s2 (by omega) (by omega) (by omega) (by omega) g8 (by omega) (fun _ => by omega) tb1 xt1 tn1 mt1 q29 q23 hv1
      -- the neighbours
      have far : (2000000000 : Int32).toInt = 2000000000 := rfl
      have mx : (2147483647 : Int32).toInt = 2147483647 := rfl
      have cv : ∀ (y1 y2 : Int32) (u1 u2 : Int), y1.toInt = u1 → y2.toInt = u2 → u1 < n → u2 < n → -1 ≤ u1 → -1 ≤ u2 → CVL (fX2_cellAt I1 A1 y1 y2) (fM12_atTable J1 B1 L y1 y2) (0 ≤ u1 ∧ 0 ≤ u2 ∧ inB b u1.toNat u2.toNat) := fun y1 y2 u1 u2 e1 e2 b1 b2 b3 b4 => by
        by_cases cn : u1 < 0 ∨ u2 < 0
        · right
          rw [x_cellN (I := I1) (A := A1) (z1 := y1) (z2 := y2) (by omega), m_atn (J := J1) (B := B1) (L := L) (z1 := y1) (z2 := y2) (by omega)]
          exact ⟨fun h9 => by omega, mx, far⟩
        · obtain ⟨w1, g1⟩ : ∃ w : Nat, u1 = (w : Int) := ⟨u1.toNat, by omega⟩
          obtain ⟨w2, g2⟩ : ∃ w : Nat, u2 = (w : Int) := ⟨u2.toNat, by omega⟩
          subst g1; subst g2
          rw [show ((w1 : Int)).toNat = w1 by omega, show ((w2 : Int)).toNat = w2 by omega]
          have m := m_at (J := J1) (B := B1) (L := L) (C := cC c lf rt) hn tn1.2.1.1 tn1.2.1.2.1 hb hb2 e1 e2 (by omega) (by omega) (fun h9 => mt1 w1 (by omega) w2 (by omega) h9)
          rcases x_cell (I := I1) (A := A1) tb1.2.1.1 tb1.2.1.2.1 hn xt1 e1 e2 (by omega) (by omega) with ⟨x1, x2⟩ | ⟨x1, x2⟩
          · left
            have tbb := tT_b hb tC hn w1 (by omega) w2 (by omega) x1
            exact ⟨⟨by omega, by omega, x1⟩, by rw [x2, m], by omega⟩
          · right
            rw [x2]
            refine ⟨fun h9 => x1 h9.2.2, mx, ?_⟩
            rw [m, tT_out x1]
      obtain ⟨X0, hX0⟩ : ∃ x, x = fX2_cellAt I1 A1 (zi - 1) (zj - 1) := ⟨_, rfl⟩
      obtain ⟨X1, hX1⟩ : ∃ x, x = fX2_cellAt I1 A1 (zi - 1) zj := ⟨_, rfl⟩
      obtain ⟨X2, hX2⟩ : ∃ x, x = fX2_cellAt I1 A1 zi (zj - 1) := ⟨_, rfl⟩
      obtain ⟨M0, hM0⟩ : ∃ x, x = fM12_atTable J1 B1 L (zi - 1) (zj - 1) := ⟨_, rfl⟩
      obtain ⟨M1, hM1⟩ : ∃ x, x = fM12_atTable J1 B1 L (zi - 1) zj := ⟨_, rfl⟩
      obtain ⟨M2, hM2⟩ : ∃ x, x = fM12_atTable J1 B1 L zi (zj - 1) := ⟨_, rfl⟩
      have c0 := cv (zi - 1) (zj - 1) ((a : Int) - 1) ((e : Int) - 1) s1 s2 (by omega) (by omega) (by omega) (by omega)
      have c1 := cv (zi - 1) zj ((a : Int) - 1) (e : Int) s1 hzj (by omega) (by omega) (by omega) (by omega)
      have c2 := cv zi (zj - 1) (a : Int) ((e : Int) - 1) hzi s2 (by omega) (by omega) (by omega) (by omega)
      rw [← hX0, ← hM0] at c0
      rw [← hX1, ← hM1] at c1
      rw [← hX2, ← hM2] at c2
      have hBn : 0 ≤ (a : Int) - 1 → 0 ≤ (e : Int) - 1 → inB b ((a : Int) - 1).toNat ((e : Int) - 1).toNat := fun g1 g2 => by unfold inB; omega
      have hIn : ¬ X2.toInt < X1.toInt → (X1.toInt < X0.toInt ∨ X2.toInt < X0.toInt) → 0 ≤ (a : Int) - 1 → 0 ≤ (e : Int) → inB b ((a : Int) - 1).toNat ((e : Int)).toNat := fun h8 h9 _ _ => (cvl_I c0 c1 c2 h8 h9).2.2
      have hJn : X2.toInt < X1.toInt → 0 ≤ (a : Int) → 0 ≤ (e : Int) - 1 → inB b ((a : Int)).toNat ((e : Int) - 1).toNat := fun h8 _ _ => (cvl_J c1 c2 h8).2.2
      have cmp10 := cvl_lt c0 c1
      have cmp20 := cvl_lt c0 c2
      have cmp21 := cvl_lt c1 c2
      show ∃ (I' : Nat → Int32) (A' : Nat → Nat → Int32) (J' : Nat → Int32) (B' : Nat → Nat → Int32) (len : Nat), bX2_traceWay_27 (itr_iiiIA dfX bX2_traceWay_27 p1) zk zj zi I A = (0, I', A') ∧ bM12_fillsWay_19 (itr_iiIAL dfM bM12_fillsWay_19 p2) zj zi J B L = (0, J', B', L) ∧ _
      obtain ⟨GX, hGX⟩ : ∃ G, G = itr_iiiIA dfX bX2_traceWay_27 p1 := ⟨_, rfl⟩
      obtain ⟨GM, hGM⟩ : ∃ G, G = itr_iiIAL dfM bM12_fillsWay_19 p2 := ⟨_, rfl⟩
      rw [← hGX, ← hGM] at ihB ihI ihJ ⊢
      unfold bX2_traceWay_27 bM12_fillsWay_19
      dsimp only [f_lt]
      rw [if_neg nk, if_neg ni, if_neg nj, if_neg ni, if_neg nj, clN hk, clN h23, ← hI1, ← hA1, ← hJ1, ← hB1, ← hX0, ← hX1, ← hX2, ← hM0, ← hM1, ← hM2, ei, ej]
      by_cases t1 : X1.toInt < X0.toInt
      · rw [if_pos t1, if_pos (cmp10.mp t1)]
        by_cases t2 : X2.toInt < X1.toInt
        · rw [if_pos t2, if_pos (cmp21.mp t2)]
          exact ihJ (hJn t2)
        · rw [if_neg t2, if_neg (fun h9 => t2 (cmp21.mpr h9))]
          exact ihI (hIn t2 (Or.inl t1))
      · rw [if_neg t1, if_neg (fun h9 => t1 (cmp10.mpr h9))]
        by_cases t2 : X2.toInt < X0.toInt
        · rw [if_pos t2, if_pos (cmp20.mp t2)]
          by_cases t3 : X2.toInt < X1.toInt
          · rw [if_pos t3, if_pos (cmp21.mp t3)]
            exact ihJ (hJn t3)
          · rw [if_neg t3, if_neg (fun h9 => t3 (cmp21.mpr h9))]
            exact ihI (hIn t3 (Or.inr t2))
        · rw [if_neg t2, if_neg (fun h9 => t2 (cmp20.mpr h9))]
          by_cases t3 : M2.toInt < M1.toInt
          · rw [if_pos t3]; exact ihB hBn
          · rw [if_neg t3]; exact ihB hBn
/-- the WAY of both, out of tables that are whole -/
theorem way_both {I J : Nat → Int32} {A B : Nat → Nat → Int32} {L : Nat → Nat → Int64} {n : Nat} {b c : Int} {lf rt : Nat → Int} (tb : TB I A n b c lf rt) (tn : TN J B n b c lf rt) (mt : MTb B n b (cC c lf rt) n) : ∃ (I' : Nat → Int32) (A' : Nat → Nat → Int32) (J' : Nat → Int32) (B' : Nat → Nat → Int32) (len : Nat), fX2_traceWay I A = (0, I', A') ∧ fM12_fillsWay J B L = (0, J', B', L) ∧ (I' 29).toInt = (len : Int) ∧ (J' 23).toInt = (len : Int) ∧ len ≤ 32 ∧ ∀ m, m < len → A' 24 m = B' 23 m ∧ 0 ≤ (A' 24 m).toInt ∧ (A' 24 m).toInt ≤ 1515 := by
  obtain ⟨⟨hn1, hn⟩, ⟨h30, h31, h32⟩, ⟨hb, hb2⟩, -⟩ := id tb
  obtain ⟨I1, A1, e1, e2, e3, e4⟩ := x_table tb (z := 2147483647) (lim := 2147483647) rfl
  have wh := WH.far (lim := 2147483647) hb tb.cok hn (by omega)
  have d1 := i32_sub (x := I 30) (y := 1) (b := 1) rfl h30 rfl (by omega) (by omega)
  have d2 := i32_sub (x := J 18) (y := 1) (b := 1) rfl tn.2.1.1 rfl (by omega) (by omega)
  have ed : J 18 - 1 = I 30 - 1 := Int32.toInt_inj.mp (by omega)
  unfold fX2_traceWay fM12_fillsWay
  rw [e1, bdX_mk]
  simp only [f_lt_eq]
  rw [ed]
  rcases e4 with ⟨-, -, -, g⟩ | ⟨i0, g, -⟩
  · exact way_sim (L := L) 40 FU FU 0 ((n : Int) - 1) ((n : Int) - 1) 0 (I 30 - 1) (I 30 - 1) (upd I1 29 0) A1 (upd J 23 0) B (by omega) (fu_lt (n := 40) (by omega)) (fu_lt (n := 40) (by omega)) rfl d1 d1 (by omega) (by omega) (by omega) (by omega) (fun _ _ => by unfold inB; omega) (by omega) (fun _ => by omega) (tb.mv (e2 30 rfl) (e2 31 rfl) (e2 32 rfl) (e3 21 rfl) (e3 22 rfl)) g (tn.mv rfl rfl rfl rfl) mt rfl rfl (fun m hm => by omega)
  · have := wh i0 g.1; have := g.2.2; omega
end
section
theorem x_wp {I : Nat → Int32} {A : Nat → Nat → Int32} {len : Nat} (h29 : (I 29).toInt = (len : Int)) (hl : len ≤ 32) {z : Int32} {k : Nat} (hz : z.toInt = (k : Int)) (hk : k < len) : fX2_wayPlace I A z = A 24 (len - 1 - k) := by
  have e1 := i32_sub (x := I 29) (y := 1) (b := 1) rfl h29 rfl (by omega) (by omega)
  have e2 : (I 29 - 1 - z).toInt = ((len - 1 - k : Nat) : Int) := by
    have := i32_sub (x := I 29 - 1) (y := z) rfl e1 hz (by omega) (by omega)
    omega
  unfold fX2_wayPlace
  simp only [f_lt_eq]
  rw [if_neg (by omega), if_neg (by omega), if_neg (by omega), clN e2]
theorem x_wpN {I : Nat → Int32} {A : Nat → Nat → Int32} {len : Nat} (h29 : (I 29).toInt = (len : Int)) (hl : len ≤ 32) {z : Int32} (hz : z.toInt < 0 ∨ (len : Int) ≤ z.toInt) : fX2_wayPlace I A z = -1 := by
  have zb : z.toInt < 2147483648 := Int32.toInt_lt z
  unfold fX2_wayPlace
  simp only [f_lt_eq]
  by_cases c : z.toInt < 0
  · rw [if_pos c]
  · have e1 := i32_sub (x := I 29) (y := 1) (b := 1) rfl h29 rfl (by omega) (by omega)
    have e2 := i32_sub (x := I 29 - 1) (y := z) rfl e1 rfl (by omega) (by omega)
    rw [if_neg c, if_pos (by omega)]
section ANS5
variable {I I' J J' : Nat → Int32} {A A' B B' : Nat → Nat → Int32} {M M' : Nat → Nat → Int64} {z z1 z2 z3 z4 v w : Int32}
theorem ans_way (h : RA I A J B M) (_ : IvX I A) (_ : IvM J B) (eX : FE (fX11_way I A z1 z2 z3) (v, I', A')) (eM : FE (fM12_way J B M z1 z2 z3) (w, J', B', M')) : v = w := by
  have eX2 : fX11_way I A z1 z2 z3 = (v, I', A') := eX
  have eM2 : fM12_way J B M z1 z2 z3 = (w, J', B', M') := eM
  obtain ⟨σ, N, nq, ql, qv, hx, hm⟩ := h.xm
  have hs := hx.2.2.2.2.n
  unfold fX11_way at eX2
  unfold fM12_way at eM2
  rcases both_eq (L := M) hx hm (fun _ _ => rfl) z1 z2 with ⟨a, b⟩ | ⟨a, b, q, s, h1, h2, hq, hw⟩
  · rw [x_openB0 a, bdX_mk, if_neg (by decide)] at eX2
    rw [b, if_pos rfl] at eM2
    cases eX2; cases eM2; rfl
  · obtain ⟨I1, A1, a1, -, -, a4⟩ := x_openB hx h1 h2 hq hw a
    obtain ⟨w1, J2, B2, c1, -, -, -, c5, c6⟩ := m_dist (L := M) hm.cp hx.1.1 m_cp hs.2.2.2.2.2.2.1 hs.2.2.2.2.2.2.2.1 ⟨hs.2.2.2.2.1, by omega⟩ h1 hq h2 hw
    obtain ⟨I3, A3, J3, B3, len, d1, d2, d3, d4, d5, d6⟩ := way_both (L := M) a4 c5 c6
    rw [a1, bdX_mk, if_pos (by decide), d1, bdX_mk] at eX2
    rw [b, if_neg (by decide)] at eM2
    unfold fM12_copies at eM2
    rw [bdM_mk, c1, bdM_mk, d2, bdM_mk] at eM2
    simp only [f_lt_eq] at eX2 eM2
    by_cases k0 : z3.toInt = -1
    · rw [if_neg (fun h9 => h9 k0)] at eX2
      rw [if_pos (by omega), if_neg (fun h9 => h9 k0)] at eM2
      cases eX2; cases eM2
      exact Int32.toInt_inj.mp (by omega)
    · rw [if_pos k0] at eX2
      by_cases k1 : -1 ≤ z3.toInt
      · rw [if_pos k1, if_pos k0] at eM2
        by_cases k2 : (J3 23).toInt ≤ z3.toInt
        · rw [if_pos k2] at eM2
          rw [x_wpN d3 d5 (by omega)] at eX2
          cases eX2; cases eM2; rfl
        · rw [if_neg k2] at eM2
          obtain ⟨i, hi⟩ : ∃ i : Nat, z3.toInt = (i : Int) := ⟨z3.toInt.toNat, by omega⟩
          have e1 := i32_sub (x := J3 23) (y := 1) (b := 1) rfl d4 rfl (by omega) (by omega)
          have e2 : (J3 23 - 1 - z3).toInt = ((len - 1 - i : Nat) : Int) := by
            have := i32_sub (x := J3 23 - 1) (y := z3) rfl e1 hi (by omega) (by omega)
            omega
          rw [x_wp d3 d5 hi (by omega)] at eX2
          rw [clN e2] at eM2
          cases eX2; cases eM2
          exact (d6 (len - 1 - i) (by omega)).1
      · rw [if_neg k1] at eM2
        rw [x_wpN d3 d5 (by omega)] at eX2
        cases eX2; cases eM2; rfl
end ANS5
/-- how far a place of the WAY is from the middle -/
def avW (v : Int) : Int := if v / 100 - v % 100 < 0 then -(v / 100 - v % 100) else v / 100 - v % 100
theorem dv100 {x : Int32} (h0 : 0 ≤ x.toInt) (h1 : x.toInt ≤ 1515) : (x / 100).toInt = x.toInt / 100 ∧ (x - x / 100 * 100).toInt = x.toInt % 100 ∧ (x / 100 - (x - x / 100 * 100)).toInt = x.toInt / 100 - x.toInt % 100 := by
  have t : (100 : Int32).toInt = 100 := rfl
  have d := (dv3 (x := x) (y := 100) (by omega)).2
  rw [t] at d
  rcases d with ⟨-, a, b⟩ | ⟨c, -⟩ | ⟨c, -⟩
  · have e := i32_sub (x := x) (y := x / 100 * 100) rfl rfl b (by omega) (by omega)
    have e' : (x - x / 100 * 100).toInt = x.toInt % 100 := by omega
    exact ⟨a, e', i32_sub (x := x / 100) (y := x - x / 100 * 100) rfl a e' (by omega) (by omega)⟩
  · omega
  · omega
def mxW (f : Nat → Int) : Nat → Int
  | 0 => 0
  | k + 1 => if mxW f k < avW (f k) then avW (f k) else mxW f k
theorem mxW_ok {f : Nat → Int} : ∀ n, (∀ k, k < n → avW (f k) ≤ mxW f n) ∧ 0 ≤ mxW f n ∧ (mxW f n = 0 ∨ ∃ k, k < n ∧ mxW f n = avW (f k)) := by
  intro n
  induction n with
  | zero => exact ⟨fun k hk => by omega, Int.le_refl 0, Or.inl rfl⟩
  | succ n ih =>
    obtain ⟨a, b, d⟩ := ih
    have e : mxW f (n + 1) = if mxW f n < avW (f n) then avW (f n) else mxW f n := rfl
    by_cases c : mxW f n < avW (f n)
    · rw [e, if_pos c]
      refine ⟨fun k hk => ?_, by omega, Or.inr ⟨n, by omega, rfl⟩⟩
      by_cases ek : k = n
      · rw [ek]; exact Int.le_refl _
      · have := a k (by omega); omega
    · rw [e, if_neg c]
      refine ⟨fun k hk => ?_, b, ?_⟩
      · by_cases ek : k = n
        · rw [ek]; omega
        · exact a k (by omega)
      · rcases d with d | ⟨k, d1, d2⟩
        · exact Or.inl d
        · exact Or.inr ⟨k, by omega, d2⟩
/-- the greatest doesn't depend on the order -/
theorem mxW_rev {f : Nat → Int} {n : Nat} : mxW (fun k => f (n - 1 - k)) n = mxW f n := by
  obtain ⟨a1, a2, a3⟩ := mxW_ok (f := fun k => f (n - 1 - k)) n
  obtain ⟨b1, b2, b3⟩ := mxW_ok (f := f) n
  have le1 : mxW (fun k => f (n - 1 - k)) n ≤ mxW f n := by
    rcases a3 with h | ⟨k, h1, h2⟩
    · omega
    · rw [h2]; exact b1 (n - 1 - k) (by omega)
  have le2 : mxW f n ≤ mxW (fun k => f (n - 1 - k)) n := by
    rcases b3 with h | ⟨k, h1, h2⟩
    · omega
    · rw [h2]
      have := a1 (n - 1 - k) (by omega)
      have e : n - 1 - (n - 1 - k) = k := by omega
      show avW (f k) ≤ _
      have t : avW (f (n - 1 - (n - 1 - k))) ≤ mxW (fun k => f (n - 1 - k)) n := this
      rw [e] at t
      exact t
  omega
theorem cnR_fst {p : Nat → Prop} : ∀ n, cnR p (n + 1) = cnR (fun i => p (i + 1)) n + @ite Nat (p 0) (Classical.propDecidable _) 1 0 := by
  intro n
  induction n with
  | zero => show 0 + _ = 0 + _; rfl
  | succ n ih =>
    by_cases c : p (n + 1)
    · rw [cnR_t c, ih, cnR_t (p := fun i => p (i + 1)) (k := n) c]; omega
    · rw [cnR_f c, ih, cnR_f (p := fun i => p (i + 1)) (k := n) c]
theorem mxW_cg {f g : Nat → Int} : ∀ n, (∀ i, i < n → f i = g i) → mxW f n = mxW g n := by
  intro n
  induction n with
  | zero => intro _; rfl
  | succ n ih =>
    intro h
    have e1 := ih (fun i hi => h i (by omega))
    have e2 := h n (by omega)
    show (if mxW f n < avW (f n) then avW (f n) else mxW f n) = (if mxW g n < avW (g n) then avW (g n) else mxW g n)
    rw [e1, e2]
theorem cnR_rev : ∀ (n : Nat) (p : Nat → Prop), cnR (fun i => p (n - 1 - i)) n = cnR p n := by
  intro n
  induction n with
  | zero => intro p; rfl
  | succ n ih =>
    intro p
    rw [cnR_fst (p := p)]
    have h := ih (fun i => p (i + 1))
    have e1 : cnR (fun i => p (n + 1 - 1 - i)) n = cnR (fun i => p (n - 1 - i + 1)) n := cnR_cg n (fun i hi => by rw [show n + 1 - 1 - i = n - 1 - i + 1 by omega])
    rw [← h, ← e1]
    by_cases c : p 0
    · rw [cnR_t (p := fun i => p (n + 1 - 1 - i)) (k := n) (by rw [show n + 1 - 1 - n = 0 by omega]; exact c), if_pos c]
    · rw [cnR_f (p := fun i => p (n + 1 - 1 - i)) (k := n) (by rw [show n + 1 - 1 - n = 0 by omega]; exact c), if_neg c]; rfl
theorem x_widest {I : Nat → Int32} {A : Nat → Nat → Int32} {len : Nat} (h29 : (I 29).toInt = (len : Int)) (hl : len ≤ 32) (hv : ∀ m, m < len → 0 ≤ (A 24 m).toInt ∧ (A 24 m).toInt ≤ 1515) : (fX2_widestOfWay I A).toInt = mxW (fun k => (A 24 (len - 1 - k)).toInt) len := by
  unfold fX2_widestOfWay
  refine run_ii (Q := fun (w : Int32) => w.toInt = mxW (fun k => (A 24 (len - 1 - k)).toInt) len) len (fun k x y => x.toInt = (k : Int) ∧ y.toInt = mxW (fun k => (A 24 (len - 1 - k)).toInt) k) (fun G k x y hk hP => ?_) FU 0 0 0 ⟨rfl, rfl⟩ (by omega) (fu_lt (by omega))
  obtain ⟨hx, hy⟩ := hP
  unfold bX2_widestOfWay_4
  dsimp only [f_lt]
  by_cases c : (I 29).toInt ≤ x.toInt
  · rw [if_pos c]; right; rw [hy, show k = len by omega]
  · rw [if_neg c, x_wp h29 hl hx (by omega)]
    left
    obtain ⟨v0, v1⟩ := hv (len - 1 - k) (by omega)
    obtain ⟨q1, q2, q3⟩ := dv100 v0 v1
    obtain ⟨d, hd⟩ : ∃ d, d = A 24 (len - 1 - k) / 100 - (A 24 (len - 1 - k) - A 24 (len - 1 - k) / 100 * 100) := ⟨_, rfl⟩
    rw [← hd] at q3 ⊢
    have t0 : (0 : Int32).toInt = 0 := rfl
    have ab : (if 0 ≤ d then d else 0 - d).toInt = avW (A 24 (len - 1 - k)).toInt := by
      unfold avW
      by_cases c0 : 0 ≤ d
      · have := Int32.le_iff_toInt_le.mp c0
        rw [if_pos c0, if_neg (by omega), q3]
      · have : ¬ 0 ≤ d.toInt := fun h9 => c0 (Int32.le_iff_toInt_le.mpr h9)
        rw [if_neg c0, if_pos (by omega)]
        have := i32_sub (x := 0) (y := d) (a := 0) rfl rfl q3 (by omega) (by omega)
        omega
    obtain ⟨g, hg⟩ : ∃ g : Int32, g = if 0 ≤ d then d else 0 - d := ⟨_, rfl⟩
    rw [← hg] at ab ⊢
    refine ⟨by omega, _, _, rfl, i_s hx (by omega), ?_⟩
    have mm := i32_max (x := y) (y := g) rfl
    show _ = if mxW (fun k => (A 24 (len - 1 - k)).toInt) k < avW (A 24 (len - 1 - k)).toInt then avW (A 24 (len - 1 - k)).toInt else mxW (fun k => (A 24 (len - 1 - k)).toInt) k
    rcases mm with ⟨m1, m2⟩ | ⟨m1, m2⟩
    · rw [m1, if_neg (by omega)]; exact hy
    · rw [m1]
      by_cases c5 : mxW (fun k => (A 24 (len - 1 - k)).toInt) k < avW (A 24 (len - 1 - k)).toInt
      · rw [if_pos c5]; exact ab
      · rw [if_neg c5]; omega
theorem x_inboth {I : Nat → Int32} {A : Nat → Nat → Int32} {len : Nat} (h29 : (I 29).toInt = (len : Int)) (hl : len ≤ 32) (hv : ∀ m, m < len → 0 ≤ (A 24 m).toInt ∧ (A 24 m).toInt ≤ 1515) : (fX2_stepsInBoth I A).toInt = (cnR (fun i => (A 24 (len - 2 - i)).toInt - (A 24 (len - 2 - i + 1)).toInt = 101) (len - 1) : Int) := by
  unfold fX2_stepsInBoth
  obtain ⟨p, hp⟩ : ∃ p : Nat → Prop, p = fun i => (A 24 (len - 2 - i)).toInt - (A 24 (len - 2 - i + 1)).toInt = 101 := ⟨_, rfl⟩
  rw [← hp]
  refine run_ii (Q := fun (w : Int32) => w.toInt = (cnR p (len - 1) : Int)) (len - 1) (fun k x y => x.toInt = ((1 + k : Nat) : Int) ∧ y.toInt = (cnR p k : Int)) (fun G k x y hk hP => ?_) FU 0 1 0 ⟨rfl, rfl⟩ (by omega) (fu_lt (by omega))
  obtain ⟨hx, hy⟩ := hP
  have cl := cnR_le (p := p) k
  unfold bX2_stepsInBoth_4
  dsimp only [f_lt]
  by_cases c : (I 29).toInt ≤ x.toInt
  · rw [if_pos c]; right; rw [hy, show k = len - 1 by omega]
  · rw [if_neg c]
    left
    have e1 : (x - 1).toInt = ((k : Nat) : Int) := by
      have := i32_sub (x := x) (y := 1) (b := 1) rfl hx rfl (by omega) (by omega)
      omega
    rw [x_wp h29 hl hx (by omega), x_wp h29 hl e1 (by omega)]
    have v1 := hv (len - 1 - (1 + k)) (by omega)
    have v2 := hv (len - 1 - k) (by omega)
    have e2 := i32_sub (x := A 24 (len - 1 - (1 + k))) (y := A 24 (len - 1 - k)) rfl rfl rfl (by omega) (by omega)
    have pk : p k ↔ (A 24 (len - 1 - (1 + k))).toInt - (A 24 (len - 1 - k)).toInt = 101 := by
      rw [hp]
      show (A 24 (len - 2 - k)).toInt - (A 24 (len - 2 - k + 1)).toInt = 101 ↔ _
      rw [show len - 2 - k + 1 = len - 1 - k by omega, show len - 2 - k = len - 1 - (1 + k) by omega]
    have sx : (x + Int32.ofInt 1).toInt = ((1 + (k + 1) : Nat) : Int) := i_s (k := 1 + k) hx (by omega)
    refine ⟨by omega, ?_⟩
    by_cases c5 : (A 24 (len - 1 - (1 + k)) - A 24 (len - 1 - k)).toInt = 101
    · rw [if_neg (fun h9 => h9 c5)]
      refine ⟨_, _, rfl, sx, ?_⟩
      rw [cnR_t (pk.mpr (by omega))]; exact i_s hy (by omega)
    · rw [if_pos c5]
      refine ⟨_, _, rfl, sx, ?_⟩
      rw [cnR_f (fun h9 => c5 (by have := pk.mp h9; omega))]; exact hy
theorem m_lean {J : Nat → Int32} {B : Nat → Nat → Int32} {L : Nat → Nat → Int64} {len : Nat} (h23 : (J 23).toInt = (len : Int)) (hl : len ≤ 32) (hv : ∀ m, m < len → 0 ≤ (B 23 m).toInt ∧ (B 23 m).toInt ≤ 1515) (z : Int32) : ∃ w : Int32, itr_iii dfM (bM12_lean_44 J z B L) FU 0 0 0 = (w, J, B, L) ∧ (z.toInt = 0 → w.toInt = mxW (fun k => (B 23 k).toInt) len) ∧ (z.toInt ≠ 0 → w.toInt = (cnR (fun i => (B 23 i).toInt - (B 23 (i + 1)).toInt = 101) (len - 1) : Int)) := by
  obtain ⟨p, hp⟩ : ∃ p : Nat → Prop, p = fun i => (B 23 i).toInt - (B 23 (i + 1)).toInt = 101 := ⟨_, rfl⟩
  rw [← hp]
  refine run_iii (Q := fun r => ∃ w : Int32, r = (w, J, B, L) ∧ (z.toInt = 0 → w.toInt = mxW (fun k => (B 23 k).toInt) len) ∧ (z.toInt ≠ 0 → w.toInt = (cnR p (len - 1) : Int))) len (fun k x y g => x.toInt = (k : Int) ∧ y.toInt = (cnR p (k - 1) : Int) ∧ g.toInt = mxW (fun k => (B 23 k).toInt) k) (fun G k x y g hk hP => ?_) FU 0 0 0 0 ⟨rfl, rfl, rfl⟩ (by omega) (fu_lt (by omega))
  obtain ⟨hx, hy, hg⟩ := hP
  have cl := cnR_le (p := p) (k - 1)
  unfold bM12_lean_44
  dsimp only [f_lt]
  by_cases c : (J 23).toInt ≤ x.toInt
  · rw [if_pos c]
    right
    have ek : k = len := by omega
    subst ek
    by_cases c0 : z.toInt = 0
    · rw [if_neg (fun h9 => h9 c0)]; exact ⟨g, rfl, fun _ => hg, fun h9 => absurd c0 h9⟩
    · rw [if_pos c0]; exact ⟨y, rfl, fun h9 => absurd h9 c0, fun _ => hy⟩
  · rw [if_neg c, clN hx]
    left
    obtain ⟨v0, v1⟩ := hv k (by omega)
    obtain ⟨q1, q2, q3⟩ := dv100 v0 v1
    obtain ⟨d, hd⟩ : ∃ d, d = B 23 k / 100 - (B 23 k - B 23 k / 100 * 100) := ⟨_, rfl⟩
    rw [← hd] at q3 ⊢
    refine ⟨by omega, ?_⟩
    -- the new values
    have fin : ∀ y' g' : Int32, y'.toInt = (cnR p k : Int) → g'.toInt = mxW (fun k => (B 23 k).toInt) (k + 1) → (x + Int32.ofInt 1).toInt = ((k + 1 : Nat) : Int) ∧ y'.toInt = (cnR p (k + 1 - 1) : Int) ∧ g'.toInt = mxW (fun k => (B 23 k).toInt) (k + 1) := fun y' g' h1 h2 => ⟨i_s hx (by omega), h1, h2⟩
    have me : mxW (fun k => (B 23 k).toInt) (k + 1) = if mxW (fun k => (B 23 k).toInt) k < avW (B 23 k).toInt then avW (B 23 k).toInt else mxW (fun k => (B 23 k).toInt) k := rfl
    have y0 : x.toInt ≤ 0 → y.toInt = (cnR p k : Int) := fun h9 => by
      have : k = 0 := by omega
      subst this; exact hy
    have ix : ¬ x.toInt ≤ 0 → (x - 1).toNatClampNeg = k - 1 ∧ (B 23 (k - 1) - B 23 k).toInt = (B 23 (k - 1)).toInt - (B 23 k).toInt := fun h9 => by
      have e := i32_sub (x := x) (y := 1) (b := 1) rfl hx rfl (by omega) (by omega)
      have v2 := hv (k - 1) (by omega)
      exact ⟨clN (by omega), i32_sub (x := B 23 (k - 1)) (y := B 23 k) rfl rfl rfl (by omega) (by omega)⟩
    have pk : ¬ x.toInt ≤ 0 → (p (k - 1) ↔ (B 23 (k - 1)).toInt - (B 23 k).toInt = 101) := fun h9 => by
      rw [hp]
      show (B 23 (k - 1)).toInt - (B 23 (k - 1 + 1)).toInt = 101 ↔ _
      rw [show k - 1 + 1 = k by omega]
    have yt : ¬ x.toInt ≤ 0 → (B 23 (k - 1) - B 23 k).toInt = 101 → (y + Int32.ofInt 1).toInt = (cnR p k : Int) := fun h9 h8 => by
      have t := cnR_t (p := p) (k := k - 1) ((pk h9).mpr (by have := (ix h9).2; omega))
      rw [show k - 1 + 1 = k by omega] at t
      rw [t]; exact i_s hy (by omega)
    have yf : ¬ x.toInt ≤ 0 → ¬ (B 23 (k - 1) - B 23 k).toInt = 101 → y.toInt = (cnR p k : Int) := fun h9 h8 => by
      have t := cnR_f (p := p) (k := k - 1) (fun h7 => h8 (by have := (ix h9).2; have := (pk h9).mp h7; omega))
      rw [show k - 1 + 1 = k by omega] at t
      rw [t]; exact hy
    have rest : ∀ (g' : Int32) (F : Int32 × (Nat → Int32) × (Nat → Nat → Int32) × (Nat → Nat → Int64)), g'.toInt = mxW (fun k => (B 23 k).toInt) (k + 1) → F = (if x.toInt ≤ 0 then G (x + Int32.ofInt 1) y g' else if (B 23 (x - 1).toNatClampNeg - B 23 k).toInt ≠ 101 then G (x + Int32.ofInt 1) y g' else G (x + Int32.ofInt 1) (y + Int32.ofInt 1) g') → ∃ x0' x1' x2' : Int32, F = G x0' x1' x2' ∧ x0'.toInt = ((k + 1 : Nat) : Int) ∧ x1'.toInt = (cnR p (k + 1 - 1) : Int) ∧ x2'.toInt = mxW (fun k => (B 23 k).toInt) (k + 1) := fun g' F hg' hF => by
      rw [hF]
      by_cases c0 : x.toInt ≤ 0
      · rw [if_pos c0]; exact ⟨_, _, _, rfl, fin _ _ (y0 c0) hg'⟩
      · rw [if_neg c0, (ix c0).1]
        by_cases c5 : (B 23 (k - 1) - B 23 k).toInt = 101
        · rw [if_neg (fun h9 => h9 c5)]; exact ⟨_, _, _, rfl, fin _ _ (yt c0 c5) hg'⟩
        · rw [if_pos c5]; exact ⟨_, _, _, rfl, fin _ _ (yf c0 c5) hg'⟩
    by_cases c1 : 0 ≤ d.toInt
    · rw [if_pos c1]
      have av : avW (B 23 k).toInt = d.toInt := by unfold avW; rw [if_neg (by omega)]; omega
      by_cases c2 : d.toInt ≤ g.toInt
      · rw [if_pos c2]; exact rest g _ (by rw [me, if_neg (by omega)]; exact hg) rfl
      · rw [if_neg c2]; exact rest d _ (by rw [me, if_pos (by omega)]; omega) rfl
    · rw [if_neg c1]
      have en : (-d).toInt = -d.toInt := i32_neg (by omega)
      have av : avW (B 23 k).toInt = (-d).toInt := by unfold avW; rw [if_pos (by omega)]; omega
      by_cases c2 : (-d).toInt ≤ g.toInt
      · rw [if_pos c2]; exact rest g _ (by rw [me, if_neg (by omega)]; exact hg) rfl
      · rw [if_neg c2]; exact rest (-d) _ (by rw [me, if_pos (by omega)]; omega) rfl
section ANS6
variable {I I' J J' : Nat → Int32} {A A' B B' : Nat → Nat → Int32} {M M' : Nat → Nat → Int64} {z z1 z2 z3 z4 v w : Int32}
theorem ans_lean (h : RA I A J B M) (_ : IvX I A) (_ : IvM J B) (eX : FE (fX11_lean I A z1 z2 z3) (v, I', A')) (eM : FE (fM12_lean J B M z1 z2 z3) (w, J', B', M')) : v = w := by
  have eX2 : fX11_lean I A z1 z2 z3 = (v, I', A') := eX
  have eM2 : fM12_lean J B M z1 z2 z3 = (w, J', B', M') := eM
  obtain ⟨σ, N, nq, ql, qv, hx, hm⟩ := h.xm
  have hs := hx.2.2.2.2.n
  have t0 : (0 : Int32).toInt = 0 := rfl
  have t1 : (1 : Int32).toInt = 1 := rfl
  unfold fX11_lean at eX2
  unfold fM12_lean at eM2
  obtain ⟨F, hF⟩ : ∃ F : Nat, F = FU := ⟨_, rfl⟩
  rw [← hF] at eM2
  rw [m_in, if10] at eM2
  by_cases c : 0 ≤ z3.toInt ∧ z3.toInt ≤ 1
  · rw [if_neg (by omega), if_neg (by omega)] at eX2
    rw [if_pos (show (0 : Int32).toInt ≤ z3.toInt ∧ z3.toInt ≤ (1 : Int32).toInt by omega)] at eM2
    rcases both_eq (L := M) hx hm (fun _ _ => rfl) z1 z2 with ⟨a, b⟩ | ⟨a, b, q, s, h1, h2, hq, hw⟩
    · rw [x_openB0 a, bdX_mk, if_neg (by decide)] at eX2
      rw [b, if_pos rfl] at eM2
      cases eX2; cases eM2; rfl
    · obtain ⟨I1, A1, a1, -, -, a4⟩ := x_openB hx h1 h2 hq hw a
      obtain ⟨w1, J2, B2, c1, -, -, -, c5, c6⟩ := m_dist (L := M) hm.cp hx.1.1 m_cp hs.2.2.2.2.2.2.1 hs.2.2.2.2.2.2.2.1 ⟨hs.2.2.2.2.1, by omega⟩ h1 hq h2 hw
      obtain ⟨I3, A3, J3, B3, len, d1, d2, d3, d4, d5, d6⟩ := way_both (L := M) a4 c5 c6
      rw [a1, bdX_mk, if_pos (by decide), d1, bdX_mk] at eX2
      rw [b, if_neg (by decide)] at eM2
      unfold fM12_copies at eM2
      rw [bdM_mk, c1, bdM_mk, d2, bdM_mk] at eM2
      obtain ⟨w9, e1, e2, e3⟩ := m_lean (J := J3) (B := B3) (L := M) d4 d5 (fun m hm9 => by rw [← (d6 m hm9).1]; exact (d6 m hm9).2) z3
      rw [← hF] at e1
      rw [e1] at eM2
      simp only [f_lt_eq] at eX2
      by_cases k0 : z3.toInt = 0
      · rw [if_neg (fun h9 => h9 k0)] at eX2
        cases eX2; cases eM2
        apply Int32.toInt_inj.mp
        rw [e2 k0, x_widest d3 d5 (fun m hm9 => (d6 m hm9).2), mxW_rev (f := fun k => (A' 24 k).toInt) (n := len)]
        exact mxW_cg len (fun i hi => congrArg Int32.toInt (d6 i hi).1)
      · rw [if_pos k0] at eX2
        cases eX2; cases eM2
        apply Int32.toInt_inj.mp
        rw [e3 k0, x_inboth d3 d5 (fun m hm9 => (d6 m hm9).2)]
        have r := cnR_rev (len - 1) (fun i => (A' 24 i).toInt - (A' 24 (i + 1)).toInt = 101)
        have g1 : cnR (fun i => (A' 24 (len - 2 - i)).toInt - (A' 24 (len - 2 - i + 1)).toInt = 101) (len - 1) = cnR (fun i => (A' 24 (len - 1 - 1 - i)).toInt - (A' 24 (len - 1 - 1 - i + 1)).toInt = 101) (len - 1) := cnR_cg _ (fun i hi => by rw [show len - 1 - 1 - i = len - 2 - i by omega])
        rw [g1, r]
        exact congrArg (fun n : Nat => (n : Int)) (cnR_cg _ (fun i hi => by rw [(d6 i (by omega)).1, (d6 (i + 1) (by omega)).1]))
  · have vx : v = -1 := by
      by_cases c1 : z3.toInt < 0
      · rw [if_pos c1] at eX2; cases eX2; rfl
      · rw [if_neg c1, if_pos (by omega)] at eX2; cases eX2; rfl
    have wx : w = -1 := by
      by_cases c0 : fM12_isOf J B M z1 z2 = 0
      · rw [if_pos c0] at eM2; cases eM2; rfl
      · rw [if_neg c0, if_neg (by omega)] at eM2; cases eM2; rfl
    rw [vx, wx]
end ANS6
end
