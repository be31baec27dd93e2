/-- a place of the row that goes on: its worth in a sum, its worth for the greatest -/
def vR (w : Int32) : Int := if w.toInt = 100000 then 0 else w.toInt
def gR (w : Int32) : Int := if w.toInt = 100000 then -1000 else w.toInt
def smR (r : Nat → Int32) (s : Nat) : Nat → Int
  | 0 => 0
  | k + 1 => smR r s k + vR (r (1 + (s + k)))
def mnR (r : Nat → Int32) (s : Nat) : Nat → Int
  | 0 => 100000
  | k + 1 => if (r (1 + (s + k))).toInt < mnR r s k then (r (1 + (s + k))).toInt else mnR r s k
def mxR (r : Nat → Int32) (s : Nat) : Nat → Int
  | 0 => -1000
  | k + 1 => if mxR r s k < gR (r (1 + (s + k))) then gR (r (1 + (s + k))) else mxR r s k
def rok (r : Nat → Int32) (n : Nat) : Prop := (r 0).toInt = (n : Int) ∧ n ≤ 160 ∧ ∀ i, i < n → (r (1 + i)).toInt = 100000 ∨ ((r (1 + i)).toInt ≠ 100000 ∧ -999 ≤ (r (1 + i)).toInt ∧ (r (1 + i)).toInt ≤ 999)
theorem rok.v {r : Nat → Int32} {n : Nat} (h : rok r n) {i : Nat} (hi : i < n) : ((r (1 + i)).toInt = 100000 ∧ vR (r (1 + i)) = 0 ∧ gR (r (1 + i)) = -1000) ∨ ((r (1 + i)).toInt ≠ 100000 ∧ vR (r (1 + i)) = (r (1 + i)).toInt ∧ gR (r (1 + i)) = (r (1 + i)).toInt ∧ -999 ≤ (r (1 + i)).toInt ∧ (r (1 + i)).toInt ≤ 999) := by
  unfold vR gR
  rcases h.2.2 i hi with a | ⟨a, b, c⟩
  · left; rw [if_pos a, if_pos a]; exact ⟨a, rfl, rfl⟩
  · right; rw [if_neg a, if_neg a]; exact ⟨a, rfl, rfl, b, c⟩
theorem smR_b {r : Nat → Int32} {n s : Nat} (h : rok r n) : ∀ k, s + k ≤ n → -999 * (k : Int) ≤ smR r s k ∧ smR r s k ≤ 999 * (k : Int) := by
  intro k
  induction k with
  | zero => intro _; exact ⟨Int.le_refl 0, Int.le_refl 0⟩
  | succ k ih =>
    intro hk
    have := ih (by omega)
    show -999 * ((k + 1 : Nat) : Int) ≤ smR r s k + vR (r (1 + (s + k))) ∧ smR r s k + vR (r (1 + (s + k))) ≤ 999 * ((k + 1 : Nat) : Int)
    rcases h.v (i := s + k) (by omega) with ⟨-, b, -⟩ | ⟨-, b, -, c, d⟩ <;> omega
theorem mnR_b {r : Nat → Int32} {n s : Nat} (h : rok r n) : ∀ k, s + k ≤ n → mnR r s k = 100000 ∨ (-999 ≤ mnR r s k ∧ mnR r s k ≤ 999) := by
  intro k
  induction k with
  | zero => intro _; exact Or.inl rfl
  | succ k ih =>
    intro hk
    have := ih (by omega)
    unfold mnR
    rcases h.v (i := s + k) (by omega) with ⟨a, -⟩ | ⟨-, -, -, c, d⟩ <;> split <;> omega
theorem mnR_le {r : Nat → Int32} {s : Nat} : ∀ k j, j < k → mnR r s k ≤ (r (1 + (s + j))).toInt := by
  intro k
  induction k with
  | zero => intro j h; omega
  | succ k ih =>
    intro j hj
    unfold mnR
    by_cases e : j = k
    · subst e; split <;> omega
    · have := ih j (by omega)
      split <;> omega
theorem mxR_le {r : Nat → Int32} {s : Nat} : ∀ k j, j < k → gR (r (1 + (s + j))) ≤ mxR r s k := by
  intro k
  induction k with
  | zero => intro j h; omega
  | succ k ih =>
    intro j hj
    unfold mxR
    by_cases e : j = k
    · subst e; split <;> omega
    · have := ih j (by omega)
      split <;> omega
theorem mxR_b {r : Nat → Int32} {n s : Nat} (h : rok r n) : ∀ k, s + k ≤ n → -1000 ≤ mxR r s k ∧ mxR r s k ≤ 999 := by
  intro k
  induction k with
  | zero => intro _; exact ⟨Int.le_refl _, show (-1000 : Int) ≤ 999 by decide⟩
  | succ k ih =>
    intro hk
    have := ih (by omega)
    unfold mxR
    rcases h.v (i := s + k) (by omega) with ⟨-, -, a⟩ | ⟨-, -, a, c, d⟩ <;> split <;> omega
/-- the class's side, told by the reference's row -/
def XR (I : Nat → Int32) (A : Nat → Nat → Int32) (r : Nat → Int32) (n : Nat) : Prop := rok r n ∧ (I 18).toInt = (n : Int) ∧ ∀ (z : Int32) (i : Nat), z.toInt = (i : Int) → i < n → ((r (1 + i)).toInt = 100000 ∧ (fX6_valueAt I A z).toInt = -1000) ∨ ((r (1 + i)).toInt ≠ 100000 ∧ fX6_valueAt I A z = r (1 + i) ∧ -999 ≤ (r (1 + i)).toInt ∧ (r (1 + i)).toInt ≤ 999)
theorem HS.xr {I J : Nat → Int32} {A B : Nat → Nat → Int32} (h : HS I A J B) : ∃ n : Nat, XR I A (B 17) n := by
  obtain ⟨fs, u, nx, h17, -, -, -, -, -, hR, -⟩ := h
  obtain ⟨r0, r1, r2, r3, r4⟩ := hR
  refine ⟨(I 18).toInt.toNat, ⟨by omega, by omega, fun i hi => ?_⟩, by omega, fun z i hz hi => ?_⟩
  · have g := r3 i (by omega)
    by_cases c : (B 17 (1 + i)).toInt = 100000
    · exact Or.inl c
    · have k := g.val (fun h9 => c (g.gap.mp h9))
      rw [k.1] at c ⊢
      exact Or.inr ⟨c, k.2⟩
  · have g := r3 i (by omega)
    rw [x_val h17 (by omega) (by omega), hz]
    by_cases c : (B 17 (1 + i)).toInt = 100000
    · exact Or.inl ⟨c, g.gap.mpr c⟩
    · have k := g.val (fun h9 => c (g.gap.mp h9))
      refine Or.inr ⟨c, k.1.symm, ?_⟩
      rw [k.1]; exact k.2
/-- a place that is there -/
def thR (r : Nat → Int32) (n i : Nat) : Prop := i < n ∧ (r (1 + i)).toInt ≠ 100000
theorem XR.has {I : Nat → Int32} {A : Nat → Nat → Int32} {r : Nat → Int32} {n : Nat} (h : XR I A r n) {z : Int32} {i : Nat} (hz : z.toInt = (i : Int)) : (fX6_hasReading I A z = 0 ∧ ¬ thR r n i) ∨ (fX6_hasReading I A z = 1 ∧ thR r n i ∧ fX6_valueAt I A z = r (1 + i)) := by
  rw [x_has]
  by_cases c : i < n
  · rcases h.2.2 z i hz c with ⟨a, b⟩ | ⟨a, b, d, e⟩
    · left; rw [if_pos b]; exact ⟨rfl, fun h9 => h9.2 a⟩
    · right; rw [b, if_neg (by omega)]; exact ⟨rfl, ⟨c, a⟩, rfl⟩
  · left
    rw [x_valo (by have := h.2.1; omega), if_pos (by decide)]
    exact ⟨rfl, fun h9 => c h9.1⟩
theorem rok.m {J : Nat → Int32} {B : Nat → Nat → Int32} {L : Nat → Nat → Int64} {n : Nat} (h : rok (B 17) n) {z : Int32} {i : Nat} (hz : z.toInt = (i : Int)) : (fM12_isThere J B L z = 0 ∧ ¬ thR (B 17) n i) ∨ (fM12_isThere J B L z = 1 ∧ thR (B 17) n i) := by
  rw [m_there h.1 (by omega) (by have := h.2.1; omega)]
  rw [hz, show ((i : Int)).toNat = i by omega]
  unfold thR
  by_cases c : i < n ∧ (B 17 (1 + i)).toInt ≠ 100000
  · right; rw [if_pos ⟨by omega, by omega, c.2⟩]; exact ⟨rfl, c⟩
  · left; rw [if_neg (fun h9 => c ⟨by omega, h9.2.2⟩)]; exact ⟨rfl, c⟩
theorem i_1 {z : Int32} {i : Nat} (hz : z.toInt = (i : Int)) (hi : i < 100000) : (1 + z).toNatClampNeg = 1 + i := by
  have := i32_add (x := 1) (y := z) (a := 1) rfl rfl hz (by omega) (by omega)
  exact clN (by omega)
theorem i_ad {x y : Int32} {a b : Nat} (hx : x.toInt = (a : Int)) (hy : y.toInt = (b : Int)) (h1 : a < 100000) (h2 : b < 100000) : (x + y).toInt = ((a + b : Nat) : Int) := by
  have := i32_add (x := x) (y := y) rfl hx hy (by omega) (by omega)
  omega
/-- a WINDOW -/
def wnR (r : Nat → Int32) (n s k : Nat) : Prop := 1 ≤ k ∧ s + k ≤ n ∧ ∀ j, j < k → (r (1 + (s + j))).toInt ≠ 100000
theorem x_win {I : Nat → Int32} {A : Nat → Nat → Int32} {r : Nat → Int32} {n : Nat} (h : XR I A r n) {z1 z2 : Int32} : (fX6_hasWindow I A z1 z2 = 0 ∧ ∀ s k : Nat, z1.toInt = (s : Int) → z2.toInt = (k : Int) → ¬ wnR r n s k) ∨ (fX6_hasWindow I A z1 z2 = 1 ∧ ∃ s k : Nat, z1.toInt = (s : Int) ∧ z2.toInt = (k : Int) ∧ wnR r n s k) := by
  have h18 := h.2.1
  have hn := h.1.2.1
  unfold fX6_hasWindow
  simp only [f_lt_eq]
  by_cases c1 : z1.toInt < 0
  · rw [if_pos c1]; left; exact ⟨rfl, fun s k a b => by omega⟩
  rw [if_neg c1]
  by_cases c2 : (I 18).toInt ≤ z1.toInt
  · rw [if_pos c2]; left; exact ⟨rfl, fun s k a b h9 => by have := h9.1; have := h9.2.1; omega⟩
  rw [if_neg c2]
  by_cases c3 : z2.toInt < 1
  · rw [if_pos c3]; left; exact ⟨rfl, fun s k a b h9 => by have := h9.1; omega⟩
  rw [if_neg c3]
  have d := i32_sub (x := I 18) (y := z1) rfl rfl rfl (by omega) (by omega)
  by_cases c4n : ¬ (z2.toInt ≤ (I 18 - z1).toInt)
  · rw [if_neg c4n]; left; exact ⟨rfl, fun s k a b h9 => by have := h9.2.1; omega⟩
  have c4 : z2.toInt ≤ (I 18 - z1).toInt := Decidable.of_not_not c4n
  rw [if_pos c4]
  obtain ⟨s, hs⟩ : ∃ s : Nat, z1.toInt = (s : Int) := ⟨z1.toInt.toNat, by omega⟩
  obtain ⟨k, hk⟩ : ∃ k : Nat, z2.toInt = (k : Int) := ⟨z2.toInt.toNat, by omega⟩
  refine run_i (Q := fun (v : Int32) => (v = 0 ∧ ∀ s k : Nat, z1.toInt = (s : Int) → z2.toInt = (k : Int) → ¬ wnR r n s k) ∨ (v = 1 ∧ ∃ s k : Nat, z1.toInt = (s : Int) ∧ z2.toInt = (k : Int) ∧ wnR r n s k)) k (fun j x => x.toInt = (j : Int) ∧ ∀ i, i < j → (r (1 + (s + i))).toInt ≠ 100000) (fun G j x hj hP => ?_) FU 0 0 ⟨rfl, fun i hi => by omega⟩ (by omega) (fu_lt (by omega))
  obtain ⟨hx, hi⟩ := hP
  unfold bX6_hasWindow_31
  dsimp only [f_lt]
  by_cases c : z2.toInt ≤ x.toInt
  · rw [if_pos c]
    right; right
    exact ⟨rfl, s, k, hs, hk, by omega, by omega, fun i h9 => hi i (by omega)⟩
  · rw [if_neg c]
    have e := i_ad hs hx (by omega) (by omega)
    rcases h.has e with ⟨a, b⟩ | ⟨a, b, -⟩
    · rw [a, if_pos rfl]
      right; left
      refine ⟨rfl, fun s' k' hs' hk' h9 => b ⟨by omega, ?_⟩⟩
      have := h9.2.2 j (by omega)
      rwa [show s' = s by omega] at this
    · rw [a, if_neg (by decide)]
      left
      refine ⟨by omega, _, rfl, i_s hx (by omega), fun i h9 => ?_⟩
      by_cases ei : i = j
      · rw [ei]; exact b.2
      · exact hi i (by omega)
theorem m_win {J : Nat → Int32} {B : Nat → Nat → Int32} {L : Nat → Nat → Int64} {n : Nat} (h : rok (B 17) n) {z1 z2 : Int32} : (fM12_isWindow J B L z1 z2 = 0 ∧ ∀ s k : Nat, z1.toInt = (s : Int) → z2.toInt = (k : Int) → ¬ wnR (B 17) n s k) ∨ (fM12_isWindow J B L z1 z2 = 1 ∧ ∃ s k : Nat, z1.toInt = (s : Int) ∧ z2.toInt = (k : Int) ∧ wnR (B 17) n s k) := by
  have h0 := h.1
  have hn := h.2.1
  have z2b : z2.toInt < 2147483648 := Int32.toInt_lt z2
  unfold fM12_isWindow
  simp only [f_lt_eq]
  by_cases c1 : z1.toInt < 0
  · rw [if_pos c1]; left; exact ⟨rfl, fun s k a b => by omega⟩
  rw [if_neg c1]
  by_cases c3 : z2.toInt < 1
  · rw [if_pos c3]; left; exact ⟨rfl, fun s k a b h9 => by have := h9.1; omega⟩
  rw [if_neg c3]
  have d := i32_sub (x := B 17 0) (y := z2) rfl h0 rfl (by omega) (by omega)
  by_cases c4n : ¬ (z1.toInt ≤ (B 17 0 - z2).toInt)
  · rw [if_neg c4n]; left; exact ⟨rfl, fun s k a b h9 => by have := h9.2.1; omega⟩
  have c4 : z1.toInt ≤ (B 17 0 - z2).toInt := Decidable.of_not_not c4n
  rw [if_pos c4]
  obtain ⟨s, hs⟩ : ∃ s : Nat, z1.toInt = (s : Int) := ⟨z1.toInt.toNat, by omega⟩
  obtain ⟨k, hk⟩ : ∃ k : Nat, z2.toInt = (k : Int) := ⟨z2.toInt.toNat, by omega⟩
  refine run_i (Q := fun (v : Int32) => (v = 0 ∧ ∀ s k : Nat, z1.toInt = (s : Int) → z2.toInt = (k : Int) → ¬ wnR (B 17) n s k) ∨ (v = 1 ∧ ∃ s k : Nat, z1.toInt = (s : Int) ∧ z2.toInt = (k : Int) ∧ wnR (B 17) n s k)) k (fun j x => x.toInt = ((s + j : Nat) : Int) ∧ ∀ i, i < j → (B 17 (1 + (s + i))).toInt ≠ 100000) (fun G j x hj hP => ?_) FU 0 z1 ⟨by omega, fun i hi => by omega⟩ (by omega) (fu_lt (by omega))
  obtain ⟨hx, hi⟩ := hP
  have e := i_ad hs hk (by omega) (by omega)
  unfold bM12_isWindow_25
  dsimp only [f_lt]
  by_cases c : (z1 + z2).toInt ≤ x.toInt
  · rw [if_pos c]
    right; right
    exact ⟨rfl, s, k, hs, hk, by omega, by omega, fun i h9 => hi i (by omega)⟩
  · rw [if_neg c, i_1 hx (by omega)]
    by_cases c9 : (B 17 (1 + (s + j))).toInt = 100000
    · rw [if_neg (fun h9 => h9 c9)]
      right; left
      refine ⟨rfl, fun s' k' hs' hk' h9 => ?_⟩
      have := h9.2.2 j (by omega)
      rw [show s' = s by omega] at this
      exact this c9
    · rw [if_pos c9]
      left
      refine ⟨by omega, _, rfl, i_s (k := s + j) hx (by omega), fun i h9 => ?_⟩
      by_cases ei : i = j
      · rw [ei]; exact c9
      · exact hi i (by omega)
theorem win_eq {I : Nat → Int32} {A : Nat → Nat → Int32} {J : Nat → Int32} {B : Nat → Nat → Int32} {L : Nat → Nat → Int64} {n : Nat} (h : XR I A (B 17) n) (z1 z2 : Int32) : (fX6_hasWindow I A z1 z2 = 0 ∧ fM12_isWindow J B L z1 z2 = 0) ∨ (fX6_hasWindow I A z1 z2 = 1 ∧ fM12_isWindow J B L z1 z2 = 1 ∧ ∃ s k : Nat, z1.toInt = (s : Int) ∧ z2.toInt = (k : Int) ∧ wnR (B 17) n s k) := by
  rcases x_win h (z1 := z1) (z2 := z2) with ⟨a, b⟩ | ⟨a, s, k, b, c, d⟩
  · rcases m_win (J := J) (L := L) h.1 (z1 := z1) (z2 := z2) with ⟨a2, b2⟩ | ⟨a2, s2, k2, b2, c2, d2⟩
    · exact Or.inl ⟨a, a2⟩
    · exact absurd d2 (b s2 k2 b2 c2)
  · rcases m_win (J := J) (L := L) h.1 (z1 := z1) (z2 := z2) with ⟨a2, b2⟩ | ⟨a2, s2, k2, b2, c2, d2⟩
    · exact absurd d (b2 s k b c)
    · exact Or.inr ⟨a, a2, s, k, b, c, d⟩
theorem x_sum {I : Nat → Int32} {A : Nat → Nat → Int32} {r : Nat → Int32} {n s k : Nat} (h : XR I A r n) {z1 z2 : Int32} (hs : z1.toInt = (s : Int)) (hk : z2.toInt = (k : Int)) (hsk : s + k ≤ n) : (fX6_sumOf I A z1 z2).toInt = smR r s k := by
  have hn := h.1.2.1
  unfold fX6_sumOf
  refine run_ii (Q := fun (v : Int32) => v.toInt = smR r s k) k (fun j x a => x.toInt = (j : Int) ∧ a.toInt = smR r s j) (fun G j x a hj hP => ?_) FU 0 0 0 ⟨rfl, rfl⟩ (by omega) (fu_lt (by omega))
  obtain ⟨hx, ha⟩ := hP
  unfold bX6_sumOf_5
  dsimp only [f_lt]
  by_cases c : z2.toInt ≤ x.toInt
  · rw [if_pos c]
    right; rw [ha, show j = k by omega]
  · rw [if_neg c]
    left
    refine ⟨by omega, ?_⟩
    have e := i_ad hs hx (by omega) (by omega)
    have b1 := smR_b h.1 j (s := s) (by omega)
    have v := h.1.v (i := s + j) (by omega)
    rcases h.has e with ⟨a1, a2⟩ | ⟨a1, a2, a3⟩
    · rw [a1, if_pos rfl]
      refine ⟨_, _, rfl, i_s hx (by omega), ?_⟩
      show a.toInt = smR r s j + vR (r (1 + (s + j)))
      rcases v with ⟨-, v, -⟩ | ⟨v, -⟩
      · omega
      · exact absurd ⟨by omega, v⟩ a2
    · rw [a1, if_neg (by decide), a3]
      refine ⟨_, _, rfl, i_s hx (by omega), ?_⟩
      show (a + r (1 + (s + j))).toInt = smR r s j + vR (r (1 + (s + j)))
      rcases v with ⟨v, -⟩ | ⟨-, v, -, v2, v3⟩
      · exact absurd v a2.2
      · have := i32_add (x := a) (y := r (1 + (s + j))) rfl ha rfl (by omega) (by omega)
        omega
theorem m_sum {J : Nat → Int32} {B : Nat → Nat → Int32} {L : Nat → Nat → Int64} {n s k : Nat} (h : rok (B 17) n) {z1 z2 : Int32} (hs : z1.toInt = (s : Int)) (hk : z2.toInt = (k : Int)) (hw : wnR (B 17) n s k) : (fM12_sumOf J B L z1 z2).toInt = smR (B 17) s k := by
  have hn := h.2.1
  have hsk := hw.2.1
  unfold fM12_sumOf
  refine run_ii (Q := fun (v : Int32) => v.toInt = smR (B 17) s k) k (fun j x a => x.toInt = ((s + j : Nat) : Int) ∧ a.toInt = smR (B 17) s j) (fun G j x a hj hP => ?_) FU 0 z1 0 ⟨by omega, rfl⟩ (by omega) (fu_lt (by omega))
  obtain ⟨hx, ha⟩ := hP
  have e := i_ad hs hk (by omega) (by omega)
  unfold bM12_sumOf_5
  dsimp only [f_lt]
  by_cases c : (z1 + z2).toInt ≤ x.toInt
  · rw [if_pos c]
    right; rw [ha, show j = k by omega]
  · rw [if_neg c, i_1 hx (by omega)]
    left
    refine ⟨by omega, _, _, rfl, i_s (k := s + j) hx (by omega), ?_⟩
    have b1 := smR_b h j (s := s) (by omega)
    show (a + B 17 (1 + (s + j))).toInt = smR (B 17) s j + vR (B 17 (1 + (s + j)))
    rcases h.v (i := s + j) (by omega) with ⟨v, -⟩ | ⟨-, v, -, v2, v3⟩
    · exact absurd v (hw.2.2 j (by omega))
    · have := i32_add (x := a) (y := B 17 (1 + (s + j))) rfl ha rfl (by omega) (by omega)
      omega
theorem x_least {I : Nat → Int32} {A : Nat → Nat → Int32} {r : Nat → Int32} {n s k : Nat} (h : XR I A r n) {z1 z2 : Int32} (hs : z1.toInt = (s : Int)) (hk : z2.toInt = (k : Int)) (hsk : s + k ≤ n) : (fX6_leastOf I A z1 z2).toInt = if mnR r s k = 100000 then -1000 else mnR r s k := by
  have hn := h.1.2.1
  unfold fX6_leastOf
  refine run_ii (Q := fun (v : Int32) => v.toInt = if mnR r s k = 100000 then -1000 else mnR r s k) k (fun j x a => x.toInt = (j : Int) ∧ a.toInt = if mnR r s j = 100000 then -1000 else mnR r s j) (fun G j x a hj hP => ?_) FU 0 0 (-1000) ⟨rfl, rfl⟩ (by omega) (fu_lt (by omega))
  obtain ⟨hx, ha⟩ := hP
  unfold bX6_leastOf_7
  dsimp only [f_lt]
  by_cases c : z2.toInt ≤ x.toInt
  · rw [if_pos c]
    right; rw [ha, show j = k by omega]
  · rw [if_neg c]
    left
    refine ⟨by omega, ?_⟩
    have e := i_ad hs hx (by omega) (by omega)
    have b1 := mnR_b h.1 j (s := s) (by omega)
    rcases h.2.2 _ _ e (by omega) with ⟨v1, v2⟩ | ⟨v1, v2, v3, v4⟩
    · rw [if_pos v2]
      refine ⟨_, _, rfl, i_s hx (by omega), ?_⟩
      unfold mnR
      rw [if_neg (show ¬ (r (1 + (s + j))).toInt < mnR r s j by omega)]; exact ha
    · rw [v2, if_neg (by omega)]
      by_cases c5 : mnR r s j = 100000
      · rw [if_pos c5] at ha
        rw [if_pos ha]
        refine ⟨_, _, rfl, i_s hx (by omega), ?_⟩
        unfold mnR
        rw [if_pos (show (r (1 + (s + j))).toInt < mnR r s j by omega), if_neg v1]
      · rw [if_neg c5] at ha
        rw [if_neg (by omega)]
        by_cases c6 : a.toInt ≤ (r (1 + (s + j))).toInt
        · rw [if_pos c6]
          refine ⟨_, _, rfl, i_s hx (by omega), ?_⟩
          unfold mnR
          rw [if_neg (show ¬ (r (1 + (s + j))).toInt < mnR r s j by omega), if_neg c5]; exact ha
        · rw [if_neg c6]
          refine ⟨_, _, rfl, i_s hx (by omega), ?_⟩
          unfold mnR
          rw [if_pos (show (r (1 + (s + j))).toInt < mnR r s j by omega), if_neg v1]
theorem m_least {J : Nat → Int32} {B : Nat → Nat → Int32} {L : Nat → Nat → Int64} {n s k : Nat} (h : rok (B 17) n) {z1 z2 : Int32} (hs : z1.toInt = (s : Int)) (hk : z2.toInt = (k : Int)) (hw : wnR (B 17) n s k) : (fM12_leastOf J B L z1 z2).toInt = mnR (B 17) s k ∧ mnR (B 17) s k ≠ 100000 := by
  have hn := h.2.1
  have hsk := hw.2.1
  have hk1 := hw.1
  have b0 := h.v (i := s) (by omega)
  have w0 := hw.2.2 0 (by omega)
  have l0 := mnR_le (r := B 17) (s := s) k 0 (by omega)
  rw [show s + 0 = s by omega] at w0 l0
  refine ⟨?_, by omega⟩
  unfold fM12_leastOf
  simp only [f_lt_eq]
  rw [i_1 hs (by omega)]
  have m0 : mnR (B 17) s 0 = 100000 := rfl
  have ini : (B 17 (1 + s)).toInt = if (B 17 (1 + s)).toInt < mnR (B 17) s 0 then (B 17 (1 + s)).toInt else mnR (B 17) s 0 := by rw [m0, if_pos (by omega)]
  refine run_ii (Q := fun (v : Int32) => v.toInt = mnR (B 17) s k) k (fun j x a => x.toInt = ((s + j : Nat) : Int) ∧ a.toInt = if (B 17 (1 + s)).toInt < mnR (B 17) s j then (B 17 (1 + s)).toInt else mnR (B 17) s j) (fun G j x a hj hP => ?_) FU 0 z1 _ ⟨by omega, ini⟩ (by omega) (fu_lt (by omega))
  obtain ⟨hx, ha⟩ := hP
  have e := i_ad hs hk (by omega) (by omega)
  unfold bM12_leastOf_12
  dsimp only [f_lt]
  by_cases c : (z1 + z2).toInt ≤ x.toInt
  · rw [if_pos c]
    right; rw [ha, show j = k by omega, if_neg (by omega)]
  · rw [if_neg c, i_1 hx (by omega)]
    left
    refine ⟨by omega, ?_⟩
    by_cases c6 : a.toInt ≤ (B 17 (1 + (s + j))).toInt
    · rw [if_pos c6]
      refine ⟨_, _, rfl, i_s (k := s + j) hx (by omega), ?_⟩
      unfold mnR
      split at ha <;> split <;> first | omega | (split <;> omega)
    · rw [if_neg c6]
      refine ⟨_, _, rfl, i_s (k := s + j) hx (by omega), ?_⟩
      unfold mnR
      split at ha <;> split <;> first | omega | (split <;> omega)
theorem x_great {I : Nat → Int32} {A : Nat → Nat → Int32} {r : Nat → Int32} {n s k : Nat} (h : XR I A r n) {z1 z2 : Int32} (hs : z1.toInt = (s : Int)) (hk : z2.toInt = (k : Int)) (hsk : s + k ≤ n) : (fX6_greatestOf I A z1 z2).toInt = mxR r s k := by
  have hn := h.1.2.1
  unfold fX6_greatestOf
  refine run_ii (Q := fun (v : Int32) => v.toInt = mxR r s k) k (fun j x a => x.toInt = (j : Int) ∧ a.toInt = mxR r s j) (fun G j x a hj hP => ?_) FU 0 0 (-1000) ⟨rfl, rfl⟩ (by omega) (fu_lt (by omega))
  obtain ⟨hx, ha⟩ := hP
  unfold bX6_greatestOf_7
  dsimp only [f_lt]
  by_cases c : z2.toInt ≤ x.toInt
  · rw [if_pos c]
    right; rw [ha, show j = k by omega]
  · rw [if_neg c]
    left
    have e := i_ad hs hx (by omega) (by omega)
    have v0 := h.1.v (i := s + j) (by omega)
    have g : (fX6_valueAt I A (z1 + x)).toInt = gR (r (1 + (s + j))) := by
      rcases h.2.2 _ _ e (by omega) with ⟨v1, v2⟩ | ⟨v1, v2, v3, v4⟩
      · rcases v0 with ⟨-, -, v0⟩ | ⟨v0, -⟩ <;> omega
      · rw [v2]; rcases v0 with ⟨v0, -⟩ | ⟨-, -, v0, -⟩ <;> omega
    refine ⟨by omega, _, _, rfl, i_s hx (by omega), ?_⟩
    have mm := i32_max (x := a) (y := fX6_valueAt I A (z1 + x)) rfl
    unfold mxR
    rcases mm with ⟨m1, m2⟩ | ⟨m1, m2⟩ <;> rw [m1] <;> split <;> omega
theorem m_most {J : Nat → Int32} {B : Nat → Nat → Int32} {L : Nat → Nat → Int64} {n s k : Nat} (h : rok (B 17) n) {z1 z2 : Int32} (hs : z1.toInt = (s : Int)) (hk : z2.toInt = (k : Int)) (hw : wnR (B 17) n s k) : (fM12_mostOf J B L z1 z2).toInt = mxR (B 17) s k := by
  have hn := h.2.1
  have hsk := hw.2.1
  have hk1 := hw.1
  have b0 := h.v (i := s) (by omega)
  have w0 := hw.2.2 0 (by omega)
  have l0 := mxR_le (r := B 17) (s := s) k 0 (by omega)
  rw [show s + 0 = s by omega] at w0 l0
  unfold fM12_mostOf
  simp only [f_lt_eq]
  rw [i_1 hs (by omega)]
  have m0 : mxR (B 17) s 0 = -1000 := rfl
  have ini : (B 17 (1 + s)).toInt = if mxR (B 17) s 0 < (B 17 (1 + s)).toInt then (B 17 (1 + s)).toInt else mxR (B 17) s 0 := by rw [m0, if_pos (by omega)]
  refine run_ii (Q := fun (v : Int32) => v.toInt = mxR (B 17) s k) k (fun j x a => x.toInt = ((s + j : Nat) : Int) ∧ a.toInt = if mxR (B 17) s j < (B 17 (1 + s)).toInt then (B 17 (1 + s)).toInt else mxR (B 17) s j) (fun G j x a hj hP => ?_) FU 0 z1 _ ⟨by omega, ini⟩ (by omega) (fu_lt (by omega))
  obtain ⟨hx, ha⟩ := hP
  have e := i_ad hs hk (by omega) (by omega)
  unfold bM12_mostOf_12
  dsimp only [f_lt]
  by_cases c : (z1 + z2).toInt ≤ x.toInt
  · rw [if_pos c]
    right; rw [ha, show j = k by omega, if_neg (by omega)]
  · rw [if_neg c, i_1 hx (by omega)]
    left
    refine ⟨by omega, ?_⟩
    have wj := hw.2.2 j (by omega)
    have vj := h.v (i := s + j) (by omega)
    by_cases c6 : (B 17 (1 + (s + j))).toInt ≤ a.toInt
    · rw [if_pos c6]
      refine ⟨_, _, rfl, i_s (k := s + j) hx (by omega), ?_⟩
      unfold mxR
      split at ha <;> split <;> first | omega | (split <;> omega)
    · rw [if_neg c6]
      refine ⟨_, _, rfl, i_s (k := s + j) hx (by omega), ?_⟩
      unfold mxR
      split at ha <;> split <;> first | omega | (split <;> omega)
theorem window_eq {I : Nat → Int32} {A : Nat → Nat → Int32} {J : Nat → Int32} {B : Nat → Nat → Int32} {L : Nat → Nat → Int64} {n : Nat} (h : XR I A (B 17) n) (z1 z2 z3 : Int32) : fX11_window I A z1 z2 z3 = fM12_window J B L z1 z2 z3 := by
  have hn := h.1.2.1
  unfold fX11_window fM12_window
  simp only [f_lt_eq]
  rcases win_eq (J := J) (L := L) h z1 z2 with ⟨a, b⟩ | ⟨a, b, s, k, hs, hk, hw⟩
  · rw [a, b, if_pos rfl, if_pos rfl]
    split <;> rfl
  · have hsk := hw.2.1
    have hk1 := hw.1
    have e1 := x_sum h hs hk hsk
    have e2 := m_sum (J := J) (L := L) h.1 hs hk hw
    have e3 := x_least h hs hk hsk
    have e4 := m_least (J := J) (L := L) h.1 hs hk hw
    have e5 := x_great h hs hk hsk
    have e6 := m_most (J := J) (L := L) h.1 hs hk hw
    have s1 : fX6_sumOf I A z1 z2 = fM12_sumOf J B L z1 z2 := Int32.toInt_inj.mp (by omega)
    rw [if_neg e4.2] at e3
    have s2 : fX6_leastOf I A z1 z2 = fM12_leastOf J B L z1 z2 := Int32.toInt_inj.mp (by omega)
    have s3 : fX6_greatestOf I A z1 z2 = fM12_mostOf J B L z1 z2 := Int32.toInt_inj.mp (by omega)
    have s4 : fX_floorDiv I A (fM12_sumOf J B L z1 z2) z2 = fM12_downBy J B L (fM12_sumOf J B L z1 z2) z2 := Int32.toInt_inj.mp (by rw [fdX (by omega), fdM (by omega)])
    rw [a, b, if_neg (show ¬ z2.toInt < 1 by omega), if_neg (show ¬ (1 : Int32) = 0 by decide), if_neg (show ¬ (1 : Int32) = 0 by decide), s1, s2, s3, s4]
