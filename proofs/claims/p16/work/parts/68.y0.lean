theorem run_iiii {ρ : Type} {d : ρ} {b : (Int32 → Int32 → Int32 → Int32 → ρ) → Int32 → Int32 → Int32 → Int32 → ρ} {Q : ρ → Prop} (n : Nat) (P : Nat → Int32 → Int32 → Int32 → Int32 → Prop) (hs : ∀ (G : Int32 → Int32 → Int32 → Int32 → ρ) (k : Nat) (x0 : Int32) (x1 : Int32) (x2 : Int32) (x3 : Int32), k ≤ n → P k x0 x1 x2 x3 → (k < n ∧ ∃ (x0' : Int32) (x1' : Int32) (x2' : Int32) (x3' : Int32), b G x0 x1 x2 x3 = G x0' x1' x2' x3' ∧ P (k + 1) x0' x1' x2' x3') ∨ Q (b G x0 x1 x2 x3)) : ∀ (m k : Nat) (x0 : Int32) (x1 : Int32) (x2 : Int32) (x3 : Int32), P k x0 x1 x2 x3 → k ≤ n → n - k < m → Q (itr_iiii d b m x0 x1 x2 x3) := by
  intro m
  induction m with
  | zero => intro k x0 x1 x2 x3 _ _ h; omega
  | succ m ih =>
    intro k x0 x1 x2 x3 hP hk hm
    show Q (b (itr_iiii d b m) x0 x1 x2 x3)
    rcases hs (itr_iiii d b m) k x0 x1 x2 x3 hk hP with ⟨h1, x0', x1', x2', x3', e, h2⟩ | h1
    · rw [e]; exact ih (k + 1) x0' x1' x2' x3' h2 (by omega) (by omega)
    · exact h1
/-- sum, least and greatest of the first n -/
def sI (g : Nat → Int) : Nat → Int
  | 0 => 0
  | k + 1 => sI g k + g k
def mnG (g : Nat → Int) : Nat → Int
  | 0 => g 0
  | k + 1 => if g k < mnG g k then g k else mnG g k
def mxI (g : Nat → Int) : Nat → Int
  | 0 => g 0
  | k + 1 => if mxI g k < g k then g k else mxI g k
/-- a row at its LEVEL -/
def lvS (k : Int) (n : Nat) (g : Nat → Int) (i : Nat) : Int := if k = 1 then g i - sI g n / (n : Int) else if k = 2 then g i - g 0 else if k = 3 then (if mxI g n = mnG g n then 0 else 1000 * (g i - mnG g n) / (mxI g n - mnG g n)) else g i
def raw (n : Nat) (g : Nat → Int) : Prop := ∀ i, i < n → -999 ≤ g i ∧ g i ≤ 999
theorem sI_b {g : Nat → Int} {n : Nat} (h : raw n g) : ∀ k, k ≤ n → -999 * (k : Int) ≤ sI g k ∧ sI g k ≤ 999 * (k : Int) := by
  intro k
  induction k with
  | zero => intro _; exact ⟨Int.le_refl 0, Int.le_refl 0⟩
  | succ k ih =>
    intro hk
    have := ih (by omega)
    have := h k (by omega)
    show -999 * ((k + 1 : Nat) : Int) ≤ sI g k + g k ∧ sI g k + g k ≤ 999 * ((k + 1 : Nat) : Int)
    omega
theorem mI_b {g : Nat → Int} {n : Nat} (h : raw n g) (hn : 1 ≤ n) : ∀ k, k ≤ n → (-999 ≤ mnG g k ∧ mnG g k ≤ mxI g k ∧ mxI g k ≤ 999) ∧ ∀ i, i < k → mnG g k ≤ g i ∧ g i ≤ mxI g k := by
  intro k
  induction k with
  | zero =>
    intro _
    have := h 0 (by omega)
    exact ⟨⟨this.1, Int.le_refl _, this.2⟩, fun i hi => by omega⟩
  | succ k ih =>
    intro hk
    obtain ⟨a, b⟩ := ih (by omega)
    have c := h k (by omega)
    have e1 : mnG g (k + 1) = if g k < mnG g k then g k else mnG g k := rfl
    have e2 : mxI g (k + 1) = if mxI g k < g k then g k else mxI g k := rfl
    rw [e1, e2]
    refine ⟨by split <;> (try split) <;> omega, fun i hi => ?_⟩
    by_cases ei : i = k
    · subst ei; split <;> (try split) <;> omega
    · have := b i (by omega)
      split <;> (try split) <;> omega
theorem mean_b {g : Nat → Int} {n : Nat} (h : raw n g) (hn : 1 ≤ n) : -999 ≤ sI g n / (n : Int) ∧ sI g n / (n : Int) ≤ 999 := by
  have b := sI_b h n (Nat.le_refl n)
  have p : (0 : Int) < (n : Int) := by omega
  have k1 : -999 ≤ sI g n / (n : Int) := (Int.le_ediv_iff_mul_le p).mpr (by omega)
  have k2 : sI g n / (n : Int) < 1000 := (Int.ediv_lt_iff_lt_mul p).mpr (by omega)
  omega
theorem spr_b {a m : Int} (h : 0 ≤ a) (h2 : a ≤ m) (h3 : 0 < m) : 0 ≤ 1000 * a / m ∧ 1000 * a / m ≤ 1000 := by
  have k1 : 0 ≤ 1000 * a / m := (Int.le_ediv_iff_mul_le h3).mpr (by omega)
  have k2 : 1000 * a / m < 1001 := (Int.ediv_lt_iff_lt_mul h3).mpr (by omega)
  omega
theorem lvS_b {k : Int} {g : Nat → Int} {n i : Nat} (h : raw n g) (hi : i < n) : -1998 ≤ lvS k n g i ∧ lvS k n g i ≤ 1998 := by
  have a := h i hi
  have a0 := h 0 (by omega)
  have m := mean_b h (by omega)
  obtain ⟨b, c⟩ := mI_b h (by omega) n (Nat.le_refl n)
  have ci := c i hi
  unfold lvS
  split
  · omega
  · split
    · omega
    · split
      · split
        · omega
        · have := spr_b (a := g i - mnG g n) (m := mxI g n - mnG g n) (by omega) (by omega) (by omega)
          omega
      · omega
theorem x_sumL21 {I : Nat → Int32} {A : Nat → Nat → Int32} {n : Nat} {g : Nat → Int} (h30 : (I 30).toInt = (n : Int)) (hn : n ≤ 16) (hr : raw n g) (hg : ∀ i, i < n → (A 21 i).toInt = g i) : (fX2_sumOf I A).toInt = sI g n := by
  unfold fX2_sumOf
  refine run_ii (Q := fun (v : Int32) => v.toInt = sI g n) n (fun j x b => x.toInt = (j : Int) ∧ b.toInt = sI g j) (fun G j x b hj hP => ?_) FU 0 0 0 ⟨rfl, rfl⟩ (by omega) (fu_lt (by omega))
  obtain ⟨hx, hb⟩ := hP
  unfold bX2_sumOf_4
  dsimp only [f_lt]
  by_cases c : (I 30).toInt ≤ x.toInt
  · rw [if_pos c]; right; rw [hb, show j = n by omega]
  · rw [if_neg c, clN hx]
    left
    refine ⟨by omega, _, _, rfl, i_s hx (by omega), ?_⟩
    have b1 := sI_b hr j (by omega)
    have b2 := hr j (by omega)
    exact i32_add (x := b) (y := A 21 j) rfl hb (hg j (by omega)) (by omega) (by omega)
theorem x_less21 {I : Nat → Int32} {A : Nat → Nat → Int32} {n : Nat} {g : Nat → Int} {z : Int32} {d : Int} (h30 : (I 30).toInt = (n : Int)) (hn : n ≤ 16) (hr : raw n g) (hg : ∀ i, i < n → (A 21 i).toInt = g i) (hz : z.toInt = d) (hd : -999 ≤ d ∧ d ≤ 999) : ∃ A' : Nat → Nat → Int32, fX2_lessenAll I A z = (0, I, A') ∧ Md [21] A A' ∧ ∀ i, i < n → (A' 21 i).toInt = g i - d := by
  unfold fX2_lessenAll
  refine run_iIA (Q := fun r => ∃ A' : Nat → Nat → Int32, r = (0, I, A') ∧ Md [21] A A' ∧ ∀ i, i < n → (A' 21 i).toInt = g i - d) n (fun j x I1 A1 => x.toInt = (j : Int) ∧ I1 = I ∧ Md [21] A A1 ∧ (∀ i, i < j → (A1 21 i).toInt = g i - d) ∧ ∀ i, j ≤ i → A1 21 i = A 21 i) (fun G j x I1 A1 hj hP => ?_) FU 0 0 I A ⟨rfl, rfl, Md.rf, fun i hi => by omega, fun i hi => rfl⟩ (by omega) (fu_lt (by omega))
  obtain ⟨hx, eI, mA, h1, h2⟩ := hP
  unfold bX2_lessenAll_2
  dsimp only [f_lt]
  by_cases c : (I 30).toInt ≤ x.toInt
  · rw [if_pos c, eI]; right; exact ⟨A1, rfl, mA, fun i hi => h1 i (by omega)⟩
  · rw [if_neg c, clN hx]
    left
    refine ⟨by omega, _, _, _, rfl, i_s hx (by omega), eI, Md.up3 mA rfl, fun i hi => ?_, fun i hi => ?_⟩
    · by_cases e : i = j
      · have b2 := hr j (by omega)
        rw [up3_at e, e, h2 j (Nat.le_refl j)]
        exact i32_sub (x := A 21 j) (y := z) rfl (hg j (by omega)) hz (by omega) (by omega)
      · rw [up3_ne e]; exact h1 i (by omega)
    · rw [up3_ne (by omega)]; exact h2 i (by omega)
theorem x_spread21 {I : Nat → Int32} {A : Nat → Nat → Int32} {n : Nat} {g : Nat → Int} (h30 : (I 30).toInt = (n : Int)) (hn1 : 1 ≤ n) (hn : n ≤ 16) (hr : raw n g) (hg : ∀ i, i < n → (A 21 i).toInt = g i) : ∃ A' : Nat → Nat → Int32, fX2_spreadAll I A = (0, I, A') ∧ Md [21] A A' ∧ ∀ i, i < n → (A' 21 i).toInt = if mxI g n = mnG g n then 0 else 1000 * (g i - mnG g n) / (mxI g n - mnG g n) := by
  have g0 := hg 0 (by omega)
  unfold fX2_spreadAll
  refine run_iii (Q := fun r => ∃ A' : Nat → Nat → Int32, r = (0, I, A') ∧ Md [21] A A' ∧ ∀ i, i < n → (A' 21 i).toInt = if mxI g n = mnG g n then 0 else 1000 * (g i - mnG g n) / (mxI g n - mnG g n)) (n - 1) (fun j x p q => x.toInt = ((j + 1 : Nat) : Int) ∧ p.toInt = mxI g (j + 1) ∧ q.toInt = mnG g (j + 1)) (fun G j x p q hj hP => ?_) FU 0 1 _ _ ⟨rfl, by rw [g0]; show g 0 = if g 0 < g 0 then g 0 else g 0; rw [if_neg (by omega)], by rw [g0]; show g 0 = if g 0 < g 0 then g 0 else g 0; rw [if_neg (by omega)]⟩ (by omega) (fu_lt (by omega))
  obtain ⟨hx, hp, hq⟩ := hP
  obtain ⟨mb, mc⟩ := mI_b hr hn1 (j + 1) (by omega)
  unfold bX2_spreadAll_11
  simp only [f_lt_eq]
  by_cases c : (I 30).toInt ≤ x.toInt
  · rw [if_pos c]
    right
    have ej : j + 1 = n := by omega
    rw [ej] at hp hq mb mc
    have hs := i32_sub (x := p) (y := q) rfl hp hq (by omega) (by omega)
    refine run_iIA (Q := fun r => ∃ A' : Nat → Nat → Int32, r = (0, I, A') ∧ Md [21] A A' ∧ ∀ i, i < n → (A' 21 i).toInt = if mxI g n = mnG g n then 0 else 1000 * (g i - mnG g n) / (mxI g n - mnG g n)) n (fun j x I1 A1 => x.toInt = (j : Int) ∧ I1 = I ∧ Md [21] A A1 ∧ (∀ i, i < j → (A1 21 i).toInt = if mxI g n = mnG g n then 0 else 1000 * (g i - mnG g n) / (mxI g n - mnG g n)) ∧ ∀ i, j ≤ i → A1 21 i = A 21 i) (fun G2 j2 x2 I1 A1 hj2 hP2 => ?_) FU 0 0 I A ⟨rfl, rfl, Md.rf, fun i hi => by omega, fun i hi => rfl⟩ (by omega) (fu_lt (by omega))
    obtain ⟨hx2, eI, mA, h1, h2⟩ := hP2
    unfold bX2_spreadAll_52
    dsimp only [f_lt]
    by_cases c2 : (I 30).toInt ≤ x2.toInt
    · rw [if_pos c2, eI]; right; exact ⟨A1, rfl, mA, fun i hi => h1 i (by omega)⟩
    · rw [if_neg c2, clN hx2]
      left
      refine ⟨by omega, ?_⟩
      have gj := hg j2 (by omega)
      have mj := mc j2 (by omega)
      rw [h2 j2 (Nat.le_refl j2)]
      by_cases c3 : (p - q).toInt = 0
      · rw [if_neg (fun h9 => h9 c3)]
        refine ⟨_, _, _, rfl, i_s hx2 (by omega), eI, Md.up3 mA rfl, fun i hi => ?_, fun i hi => ?_⟩
        · by_cases e : i = j2
          · rw [up3_at e, if_pos (by omega)]; rfl
          · rw [up3_ne e]; exact h1 i (by omega)
        · rw [up3_ne (by omega)]; exact h2 i (by omega)
      · rw [if_pos c3]
        have e1 := i32_sub (x := A 21 j2) (y := q) rfl gj hq (by omega) (by omega)
        have e2 := i32_mul (x := 1000) (y := A 21 j2 - q) (a := 1000) rfl rfl e1 (by omega) (by omega)
        have dv := (dv3 (x := 1000 * (A 21 j2 - q)) (y := p - q) (by omega)).2
        have e3 : (1000 * (A 21 j2 - q) / (p - q)).toInt = 1000 * (g j2 - mnG g n) / (mxI g n - mnG g n) := by
          rcases dv with ⟨-, d, -⟩ | ⟨d, -⟩ | ⟨d, -⟩
          · rw [d, e2, hs]
          · omega
          · omega
        refine ⟨_, _, _, rfl, i_s hx2 (by omega), eI, Md.up3 mA rfl, fun i hi => ?_, fun i hi => ?_⟩
        · by_cases e : i = j2
          · rw [up3_at e, if_neg (by omega), e]; exact e3
          · rw [up3_ne e]; exact h1 i (by omega)
        · rw [up3_ne (by omega)]; exact h2 i (by omega)
  · rw [if_neg c, clN hx]
    left
    have gj := hg (j + 1) (by omega)
    refine ⟨by omega, _, _, _, rfl, i_s hx (by omega), ?_, ?_⟩
    · have m := i32_max (x := p) (y := A 21 (j + 1)) rfl
      have e : mxI g (j + 1 + 1) = if mxI g (j + 1) < g (j + 1) then g (j + 1) else mxI g (j + 1) := rfl
      rw [e]
      rcases m with ⟨m1, m2⟩ | ⟨m1, m2⟩ <;> rw [m1] <;> split <;> omega
    · have m := i32_min (x := q) (y := A 21 (j + 1)) rfl
      have e : mnG g (j + 1 + 1) = if g (j + 1) < mnG g (j + 1) then g (j + 1) else mnG g (j + 1) := rfl
      rw [e]
      rcases m with ⟨m1, m2⟩ | ⟨m1, m2⟩ <;> rw [m1] <;> split <;> omega
theorem x_level21 {I : Nat → Int32} {A : Nat → Nat → Int32} {n : Nat} {g : Nat → Int} {z : Int32} {k : Int} (h30 : (I 30).toInt = (n : Int)) (hn1 : 1 ≤ n) (hn : n ≤ 16) (hr : raw n g) (hg : ∀ i, i < n → (A 21 i).toInt = g i) (hz : z.toInt = k) : ∃ A' : Nat → Nat → Int32, fX2_bringToLevel I A z = (0, I, A') ∧ Md [21] A A' ∧ ∀ i, i < n → (A' 21 i).toInt = lvS k n g i := by
  unfold fX2_bringToLevel lvS
  simp only [f_lt_eq]
  by_cases c1 : k = 1
  · rw [if_neg (by omega)]
    have f := fdX (I := I) (A := A) (x := fX2_sumOf I A) (y := I 30) (by omega)
    rw [x_sumL21 h30 hn hr hg, h30] at f
    obtain ⟨A', e, m, h⟩ := x_less21 (z := fX_floorDiv I A (fX2_sumOf I A) (I 30)) h30 hn hr hg f (mean_b hr hn1)
    rw [e, bdX_mk]
    exact ⟨A', rfl, m, fun i hi => by rw [if_pos c1]; exact h i hi⟩
  · rw [if_pos (by omega)]
    by_cases c2 : k = 2
    · rw [if_neg (by omega)]
      obtain ⟨A', e, m, h⟩ := x_less21 (z := A 21 0) h30 hn hr hg (hg 0 (by omega)) (hr 0 (by omega))
      rw [e, bdX_mk]
      exact ⟨A', rfl, m, fun i hi => by rw [if_neg c1, if_pos c2]; exact h i hi⟩
    · rw [if_pos (by omega)]
      by_cases c3 : k = 3
      · rw [if_neg (by omega)]
        obtain ⟨A', e, m, h⟩ := x_spread21 h30 hn1 hn hr hg
        rw [e, bdX_mk]
        exact ⟨A', rfl, m, fun i hi => by rw [if_neg c1, if_neg c2, if_pos c3]; exact h i hi⟩
      · rw [if_pos (by omega)]
        exact ⟨A, rfl, Md.rf, fun i hi => by rw [if_neg c1, if_neg c2, if_neg c3]; exact hg i hi⟩
theorem x_sumL22 {I : Nat → Int32} {A : Nat → Nat → Int32} {n : Nat} {g : Nat → Int} (h30 : (I 30).toInt = (n : Int)) (hn : n ≤ 16) (hr : raw n g) (hg : ∀ i, i < n → (A 22 i).toInt = g i) : (fX2_sumOf_2 I A).toInt = sI g n := by
  unfold fX2_sumOf_2
  refine run_ii (Q := fun (v : Int32) => v.toInt = sI g n) n (fun j x b => x.toInt = (j : Int) ∧ b.toInt = sI g j) (fun G j x b hj hP => ?_) FU 0 0 0 ⟨rfl, rfl⟩ (by omega) (fu_lt (by omega))
  obtain ⟨hx, hb⟩ := hP
  unfold bX2_sumOf_2_4
  dsimp only [f_lt]
  by_cases c : (I 30).toInt ≤ x.toInt
  · rw [if_pos c]; right; rw [hb, show j = n by omega]
  · rw [if_neg c, clN hx]
    left
    refine ⟨by omega, _, _, rfl, i_s hx (by omega), ?_⟩
    have b1 := sI_b hr j (by omega)
    have b2 := hr j (by omega)
    exact i32_add (x := b) (y := A 22 j) rfl hb (hg j (by omega)) (by omega) (by omega)
theorem x_less22 {I : Nat → Int32} {A : Nat → Nat → Int32} {n : Nat} {g : Nat → Int} {z : Int32} {d : Int} (h30 : (I 30).toInt = (n : Int)) (hn : n ≤ 16) (hr : raw n g) (hg : ∀ i, i < n → (A 22 i).toInt = g i) (hz : z.toInt = d) (hd : -999 ≤ d ∧ d ≤ 999) : ∃ A' : Nat → Nat → Int32, fX2_lessenAll_2 I A z = (0, I, A') ∧ Md [22] A A' ∧ ∀ i, i < n → (A' 22 i).toInt = g i - d := by
  unfold fX2_lessenAll_2
  refine run_iIA (Q := fun r => ∃ A' : Nat → Nat → Int32, r = (0, I, A') ∧ Md [22] A A' ∧ ∀ i, i < n → (A' 22 i).toInt = g i - d) n (fun j x I1 A1 => x.toInt = (j : Int) ∧ I1 = I ∧ Md [22] A A1 ∧ (∀ i, i < j → (A1 22 i).toInt = g i - d) ∧ ∀ i, j ≤ i → A1 22 i = A 22 i) (fun G j x I1 A1 hj hP => ?_) FU 0 0 I A ⟨rfl, rfl, Md.rf, fun i hi => by omega, fun i hi => rfl⟩ (by omega) (fu_lt (by omega))
  obtain ⟨hx, eI, mA, h1, h2⟩ := hP
  unfold bX2_lessenAll_2_2
  dsimp only [f_lt]
  by_cases c : (I 30).toInt ≤ x.toInt
  · rw [if_pos c, eI]; right; exact ⟨A1, rfl, mA, fun i hi => h1 i (by omega)⟩
  · rw [if_neg c, clN hx]
    left
    refine ⟨by omega, _, _, _, rfl, i_s hx (by omega), eI, Md.up3 mA rfl, fun i hi => ?_, fun i hi => ?_⟩
    · by_cases e : i = j
      · have b2 := hr j (by omega)
        rw [up3_at e, e, h2 j (Nat.le_refl j)]
        exact i32_sub (x := A 22 j) (y := z) rfl (hg j (by omega)) hz (by omega) (by omega)
      · rw [up3_ne e]; exact h1 i (by omega)
    · rw [up3_ne (by omega)]; exact h2 i (by omega)
theorem x_spread22 {I : Nat → Int32} {A : Nat → Nat → Int32} {n : Nat} {g : Nat → Int} (h30 : (I 30).toInt = (n : Int)) (hn1 : 1 ≤ n) (hn : n ≤ 16) (hr : raw n g) (hg : ∀ i, i < n → (A 22 i).toInt = g i) : ∃ A' : Nat → Nat → Int32, fX2_spreadAll_2 I A = (0, I, A') ∧ Md [22] A A' ∧ ∀ i, i < n → (A' 22 i).toInt = if mxI g n = mnG g n then 0 else 1000 * (g i - mnG g n) / (mxI g n - mnG g n) := by
  have g0 := hg 0 (by omega)
  unfold fX2_spreadAll_2
  refine run_iii (Q := fun r => ∃ A' : Nat → Nat → Int32, r = (0, I, A') ∧ Md [22] A A' ∧ ∀ i, i < n → (A' 22 i).toInt = if mxI g n = mnG g n then 0 else 1000 * (g i - mnG g n) / (mxI g n - mnG g n)) (n - 1) (fun j x p q => x.toInt = ((j + 1 : Nat) : Int) ∧ p.toInt = mxI g (j + 1) ∧ q.toInt = mnG g (j + 1)) (fun G j x p q hj hP => ?_) FU 0 1 _ _ ⟨rfl, by rw [g0]; show g 0 = if g 0 < g 0 then g 0 else g 0; rw [if_neg (by omega)], by rw [g0]; show g 0 = if g 0 < g 0 then g 0 else g 0; rw [if_neg (by omega)]⟩ (by omega) (fu_lt (by omega))
  obtain ⟨hx, hp, hq⟩ := hP
  obtain ⟨mb, mc⟩ := mI_b hr hn1 (j + 1) (by omega)
  unfold bX2_spreadAll_2_11
  simp only [f_lt_eq]
  by_cases c : (I 30).toInt ≤ x.toInt
  · rw [if_pos c]
    right
    have ej : j + 1 = n := by omega
    rw [ej] at hp hq mb mc
    have hs := i32_sub (x := p) (y := q) rfl hp hq (by omega) (by omega)
    refine run_iIA (Q := fun r => ∃ A' : Nat → Nat → Int32, r = (0, I, A') ∧ Md [22] A A' ∧ ∀ i, i < n → (A' 22 i).toInt = if mxI g n = mnG g n then 0 else 1000 * (g i - mnG g n) / (mxI g n - mnG g n)) n (fun j x I1 A1 => x.toInt = (j : Int) ∧ I1 = I ∧ Md [22] A A1 ∧ (∀ i, i < j → (A1 22 i).toInt = if mxI g n = mnG g n then 0 else 1000 * (g i - mnG g n) / (mxI g n - mnG g n)) ∧ ∀ i, j ≤ i → A1 22 i = A 22 i) (fun G2 j2 x2 I1 A1 hj2 hP2 => ?_) FU 0 0 I A ⟨rfl, rfl, Md.rf, fun i hi => by omega, fun i hi => rfl⟩ (by omega) (fu_lt (by omega))
    obtain ⟨hx2, eI, mA, h1, h2⟩ := hP2
    unfold bX2_spreadAll_2_52
    dsimp only [f_lt]
    by_cases c2 : (I 30).toInt ≤ x2.toInt
    · rw [if_pos c2, eI]; right; exact ⟨A1, rfl, mA, fun i hi => h1 i (by omega)⟩
    · rw [if_neg c2, clN hx2]
      left
      refine ⟨by omega, ?_⟩
      have gj := hg j2 (by omega)
      have mj := mc j2 (by omega)
      rw [h2 j2 (Nat.le_refl j2)]
      by_cases c3 : (p - q).toInt = 0
      · rw [if_neg (fun h9 => h9 c3)]
        refine ⟨_, _, _, rfl, i_s hx2 (by omega), eI, Md.up3 mA rfl, fun i hi => ?_, fun i hi => ?_⟩
        · by_cases e : i = j2
          · rw [up3_at e, if_pos (by omega)]; rfl
          · rw [up3_ne e]; exact h1 i (by omega)
        · rw [up3_ne (by omega)]; exact h2 i (by omega)
      · rw [if_pos c3]
        have e1 := i32_sub (x := A 22 j2) (y := q) rfl gj hq (by omega) (by omega)
        have e2 := i32_mul (x := 1000) (y := A 22 j2 - q) (a := 1000) rfl rfl e1 (by omega) (by omega)
        have dv := (dv3 (x := 1000 * (A 22 j2 - q)) (y := p - q) (by omega)).2
        have e3 : (1000 * (A 22 j2 - q) / (p - q)).toInt = 1000 * (g j2 - mnG g n) / (mxI g n - mnG g n) := by
          rcases dv with ⟨-, d, -⟩ | ⟨d, -⟩ | ⟨d, -⟩
          · rw [d, e2, hs]
          · omega
          · omega
        refine ⟨_, _, _, rfl, i_s hx2 (by omega), eI, Md.up3 mA rfl, fun i hi => ?_, fun i hi => ?_⟩
        · by_cases e : i = j2
          · rw [up3_at e, if_neg (by omega), e]; exact e3
          · rw [up3_ne e]; exact h1 i (by omega)
        · rw [up3_ne (by omega)]; exact h2 i (by omega)
  · rw [if_neg c, clN hx]
    left
    have gj := hg (j + 1) (by omega)
    refine ⟨by omega, _, _, _, rfl, i_s hx (by omega), ?_, ?_⟩
    · have m := i32_max (x := p) (y := A 22 (j + 1)) rfl
      have e : mxI g (j + 1 + 1) = if mxI g (j + 1) < g (j + 1) then g (j + 1) else mxI g (j + 1) := rfl
      rw [e]
      rcases m with ⟨m1, m2⟩ | ⟨m1, m2⟩ <;> rw [m1] <;> split <;> omega
    · have m := i32_min (x := q) (y := A 22 (j + 1)) rfl
      have e : mnG g (j + 1 + 1) = if g (j + 1) < mnG g (j + 1) then g (j + 1) else mnG g (j + 1) := rfl
      rw [e]
      rcases m with ⟨m1, m2⟩ | ⟨m1, m2⟩ <;> rw [m1] <;> split <;> omega
theorem x_level22 {I : Nat → Int32} {A : Nat → Nat → Int32} {n : Nat} {g : Nat → Int} {z : Int32} {k : Int} (h30 : (I 30).toInt = (n : Int)) (hn1 : 1 ≤ n) (hn : n ≤ 16) (hr : raw n g) (hg : ∀ i, i < n → (A 22 i).toInt = g i) (hz : z.toInt = k) : ∃ A' : Nat → Nat → Int32, fX2_bringToLevel_2 I A z = (0, I, A') ∧ Md [22] A A' ∧ ∀ i, i < n → (A' 22 i).toInt = lvS k n g i := by
  unfold fX2_bringToLevel_2 lvS
  simp only [f_lt_eq]
  by_cases c1 : k = 1
  · rw [if_neg (by omega)]
    have f := fdX (I := I) (A := A) (x := fX2_sumOf_2 I A) (y := I 30) (by omega)
    rw [x_sumL22 h30 hn hr hg, h30] at f
    obtain ⟨A', e, m, h⟩ := x_less22 (z := fX_floorDiv I A (fX2_sumOf_2 I A) (I 30)) h30 hn hr hg f (mean_b hr hn1)
    rw [e, bdX_mk]
    exact ⟨A', rfl, m, fun i hi => by rw [if_pos c1]; exact h i hi⟩
  · rw [if_pos (by omega)]
    by_cases c2 : k = 2
    · rw [if_neg (by omega)]
      obtain ⟨A', e, m, h⟩ := x_less22 (z := A 22 0) h30 hn hr hg (hg 0 (by omega)) (hr 0 (by omega))
      rw [e, bdX_mk]
      exact ⟨A', rfl, m, fun i hi => by rw [if_neg c1, if_pos c2]; exact h i hi⟩
    · rw [if_pos (by omega)]
      by_cases c3 : k = 3
      · rw [if_neg (by omega)]
        obtain ⟨A', e, m, h⟩ := x_spread22 h30 hn1 hn hr hg
        rw [e, bdX_mk]
        exact ⟨A', rfl, m, fun i hi => by rw [if_neg c1, if_neg c2, if_pos c3]; exact h i hi⟩
      · rw [if_pos (by omega)]
        exact ⟨A, rfl, Md.rf, fun i hi => by rw [if_neg c1, if_neg c2, if_neg c3]; exact hg i hi⟩
theorem m_level {J : Nat → Int32} {B : Nat → Nat → Int32} {L : Nat → Nat → Int64} {n : Nat} {g : Nat → Int} {z : Int32} {k : Int} (hz : z.toInt = (n : Int)) (hn1 : 1 ≤ n) (hn : n ≤ 16) (hr : raw n g) (hg : ∀ i, i < n → (B 19 i).toInt = g i) (hk : (B 18 162).toInt = k) (hk0 : 0 ≤ k) (hk3 : k ≤ 3) : ∃ B' : Nat → Nat → Int32, fM12_levelsFirst J B L z = (0, J, B', L) ∧ Md [19] B B' ∧ (∀ i, i < n → (B' 19 i).toInt = lvS k n g i) ∧ ∀ i, n ≤ i → B' 19 i = B 19 i := by
  have g0 := hg 0 (by omega)
  unfold fM12_levelsFirst
  refine run_iiii (Q := fun r => ∃ B' : Nat → Nat → Int32, r = (0, J, B', L) ∧ Md [19] B B' ∧ (∀ i, i < n → (B' 19 i).toInt = lvS k n g i) ∧ ∀ i, n ≤ i → B' 19 i = B 19 i) n (fun j x p q s => x.toInt = (j : Int) ∧ p.toInt = mxI g j ∧ q.toInt = mnG g j ∧ s.toInt = sI g j) (fun G j x p q s hj hP => ?_) FU 0 0 _ _ 0 ⟨rfl, g0, g0, rfl⟩ (by omega) (fu_lt (by omega))
  obtain ⟨hx, hp, hq, hs⟩ := hP
  obtain ⟨mb, mc⟩ := mI_b hr hn1 j hj
  unfold bM12_levelsFirst_28
  simp only [f_lt_eq]
  by_cases c : z.toInt ≤ x.toInt
  · rw [if_pos c]
    right
    have ej : j = n := by omega
    subst ej
    have f := fdM (J := J) (B := B) (L := L) (x := s) (y := z) (by omega)
    rw [hs, hz] at f
    have me := mean_b hr hn1
    have hd := i32_sub (x := p) (y := q) rfl hp hq (by omega) (by omega)
    refine run_iIAL (Q := fun r => ∃ B' : Nat → Nat → Int32, r = (0, J, B', L) ∧ Md [19] B B' ∧ (∀ i, i < j → (B' 19 i).toInt = lvS k j g i) ∧ ∀ i, j ≤ i → B' 19 i = B 19 i) j (fun j2 x2 J1 B1 L1 => x2.toInt = (j2 : Int) ∧ J1 = J ∧ L1 = L ∧ Md [19] B B1 ∧ (∀ i, i < j2 → (B1 19 i).toInt = lvS k j g i) ∧ ∀ i, j2 ≤ i → B1 19 i = B 19 i) (fun G2 j2 x2 J1 B1 L1 hj2 hP2 => ?_) FU 0 0 J B L ⟨rfl, rfl, rfl, Md.rf, fun i hi => by omega, fun i hi => rfl⟩ (by omega) (fu_lt (by omega))
    obtain ⟨hx2, eJ, eL, mB, h1, h2⟩ := hP2
    unfold bM12_levelsFirst_100
    dsimp only [f_lt]
    by_cases c2 : z.toInt ≤ x2.toInt
    · rw [if_pos c2, eJ, eL]
      right; exact ⟨B1, rfl, mB, fun i hi => h1 i (by omega), fun i hi => h2 i (by omega)⟩
    · rw [if_neg c2, clN hx2, hk]
      left
      refine ⟨by omega, ?_⟩
      have gj := hg j2 (by omega)
      have gb := hr j2 (by omega)
      have gb0 := hr 0 (by omega)
      have mj := mc j2 (by omega)
      have put : ∀ v : Int32, v.toInt = lvS k j g j2 → (x2 + Int32.ofInt 1).toInt = ((j2 + 1 : Nat) : Int) ∧ J1 = J ∧ L1 = L ∧ Md [19] B (up3 B1 19 j2 v) ∧ (∀ i, i < j2 + 1 → (up3 B1 19 j2 v 19 i).toInt = lvS k j g i) ∧ ∀ i, j2 + 1 ≤ i → up3 B1 19 j2 v 19 i = B 19 i := fun v hv => by
        refine ⟨i_s hx2 (by omega), eJ, eL, Md.up3 mB rfl, fun i hi => ?_, fun i hi => ?_⟩
        · by_cases e : i = j2
          · rw [up3_at e, e]; exact hv
          · rw [up3_ne e]; exact h1 i (by omega)
        · rw [up3_ne (by omega)]; exact h2 i (by omega)
      rw [h2 j2 (Nat.le_refl j2)]
      by_cases k0 : k = 0
      · rw [if_pos k0]
        refine ⟨_, _, _, _, rfl, i_s hx2 (by omega), eJ, eL, mB, fun i hi => ?_, fun i hi => h2 i (by omega)⟩
        by_cases e : i = j2
        · rw [e, h2 j2 (Nat.le_refl j2), gj]
          unfold lvS
          rw [if_neg (by omega), if_neg (by omega), if_neg (by omega)]
        · exact h1 i (by omega)
      · rw [if_neg k0]
        by_cases k1 : k = 1
        · rw [if_pos k1]
          refine ⟨_, _, _, _, rfl, put _ ?_⟩
          unfold lvS
          rw [if_pos k1]
          exact i32_sub (x := B 19 j2) (y := fM12_downBy J B L s z) rfl gj f (by omega) (by omega)
        · rw [if_neg k1]
          by_cases k2 : k = 2
          · rw [if_pos k2]
            refine ⟨_, _, _, _, rfl, put _ ?_⟩
            unfold lvS
            rw [if_neg k1, if_pos k2]
            exact i32_sub (x := B 19 j2) (y := B 19 0) rfl gj g0 (by omega) (by omega)
          · rw [if_neg k2]
            have k3 : k = 3 := by omega
            by_cases c3 : p.toInt = q.toInt
            · rw [if_neg (fun h9 => h9 c3)]
              refine ⟨_, _, _, _, rfl, put _ ?_⟩
              unfold lvS
              rw [if_neg k1, if_neg k2, if_pos k3, if_pos (by omega)]; rfl
            · rw [if_pos c3]
              refine ⟨_, _, _, _, rfl, put _ ?_⟩
              have e1 := i32_sub (x := B 19 j2) (y := q) rfl gj hq (by omega) (by omega)
              have e2 := i32_mul (x := 1000) (y := B 19 j2 - q) (a := 1000) rfl rfl e1 (by omega) (by omega)
              have dv := (dv3 (x := 1000 * (B 19 j2 - q)) (y := p - q) (by omega)).2
              unfold lvS
              rw [if_neg k1, if_neg k2, if_pos k3, if_neg (by omega)]
              rcases dv with ⟨-, d, -⟩ | ⟨d, -⟩ | ⟨d, -⟩
              · rw [d, e2, hd]
              · omega
              · omega
  · rw [if_neg c, clN hx]
    left
    refine ⟨by omega, ?_⟩
    have gj := hg j (by omega)
    have gb := hr j (by omega)
    have sb := sI_b hr j hj
    have hsum : (s + B 19 j).toInt = sI g (j + 1) := i32_add (x := s) (y := B 19 j) rfl hs gj (by omega) (by omega)
    have e1 : mxI g (j + 1) = if mxI g j < g j then g j else mxI g j := rfl
    have e2 : mnG g (j + 1) = if g j < mnG g j then g j else mnG g j := rfl
    by_cases c1 : q.toInt ≤ (B 19 j).toInt
    · rw [if_pos c1]
      by_cases c2 : (B 19 j).toInt ≤ p.toInt
      · rw [if_pos c2]
        exact ⟨_, _, _, _, rfl, i_s hx (by omega), by rw [e1, if_neg (by omega)]; exact hp, by rw [e2, if_neg (by omega)]; exact hq, hsum⟩
      · rw [if_neg c2]
        exact ⟨_, _, _, _, rfl, i_s hx (by omega), by rw [e1, if_pos (by omega)]; exact gj, by rw [e2, if_neg (by omega)]; exact hq, hsum⟩
    · rw [if_neg c1]
      by_cases c2 : (B 19 j).toInt ≤ p.toInt
      · rw [if_pos c2]
        exact ⟨_, _, _, _, rfl, i_s hx (by omega), by rw [e1, if_neg (by omega)]; exact hp, by rw [e2, if_pos (by omega)]; exact gj, hsum⟩
      · rw [if_neg c2]
        exact ⟨_, _, _, _, rfl, i_s hx (by omega), by rw [e1, if_pos (by omega)]; exact gj, by rw [e2, if_pos (by omega)]; exact gj, hsum⟩
