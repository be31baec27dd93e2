/-- the reference's row that goes on is left alone (a state that can't be has 0 at its place 164) -/
def KP (F : Nat → Int32) (r : Int32 × (Nat → Int32) × (Nat → Nat → Int32) × (Nat → Nat → Int64)) : Prop := r.2.2.1 17 164 = 0 ∨ r.2.2.1 17 = F
theorem KP.rf {y : Int32} {I : Nat → Int32} {A : Nat → Nat → Int32} {L : Nat → Nat → Int64} : KP (A 17) (y, I, A, L) := Or.inr rfl
theorem KP.df {F : Nat → Int32} : KP F dfM := Or.inl rfl
theorem KP.bd {F : Nat → Int32} {r : Int32 × (Nat → Int32) × (Nat → Nat → Int32) × (Nat → Nat → Int64)} {k : Int32 → (Nat → Int32) → (Nat → Nat → Int32) → (Nat → Nat → Int64) → Int32 × (Nat → Int32) × (Nat → Nat → Int32) × (Nat → Nat → Int64)} (h : KP F r) (hk : ∀ y I A L, KP (A 17) (k y I A L)) : KP F (f_bdM r k) := by
  unfold f_bdM
  rcases h with h | h
  · rcases hk r.1 r.2.1 r.2.2.1 r.2.2.2 with g | g
    · exact Or.inl g
    · left; rw [g]; exact h
  · rw [← h]; exact hk _ _ _ _
theorem k_iIAL {B : (Int32 → (Nat → Int32) → (Nat → Nat → Int32) → (Nat → Nat → Int64) → (Int32 × (Nat → Int32) × (Nat → Nat → Int32) × (Nat → Nat → Int64))) → Int32 → (Nat → Int32) → (Nat → Nat → Int32) → (Nat → Nat → Int64) → (Int32 × (Nat → Int32) × (Nat → Nat → Int32) × (Nat → Nat → Int64))} (hB : ∀ G, (∀ x I A L, KP (A 17) (G x I A L)) → ∀ x I A L, KP (A 17) (B G x I A L)) : ∀ (m : Nat) (x : Int32) (I : Nat → Int32) (A : Nat → Nat → Int32) (L : Nat → Nat → Int64), KP (A 17) (itr_iIAL dfM B m x I A L) := by
  intro m
  induction m with
  | zero => intro x I A L; exact KP.df
  | succ m ih =>
    intro x I A L
    show KP (A 17) (B (itr_iIAL dfM B m) x I A L)
    exact hB _ ih x I A L
theorem k_iiIAL {B : (Int32 → Int32 → (Nat → Int32) → (Nat → Nat → Int32) → (Nat → Nat → Int64) → (Int32 × (Nat → Int32) × (Nat → Nat → Int32) × (Nat → Nat → Int64))) → Int32 → Int32 → (Nat → Int32) → (Nat → Nat → Int32) → (Nat → Nat → Int64) → (Int32 × (Nat → Int32) × (Nat → Nat → Int32) × (Nat → Nat → Int64))} (hB : ∀ G, (∀ x y I A L, KP (A 17) (G x y I A L)) → ∀ x y I A L, KP (A 17) (B G x y I A L)) : ∀ (m : Nat) (x y : Int32) (I : Nat → Int32) (A : Nat → Nat → Int32) (L : Nat → Nat → Int64), KP (A 17) (itr_iiIAL dfM B m x y I A L) := by
  intro m
  induction m with
  | zero => intro x y I A L; exact KP.df
  | succ m ih =>
    intro x y I A L
    show KP (A 17) (B (itr_iiIAL dfM B m) x y I A L)
    exact hB _ ih x y I A L
theorem k_iiii {F : Nat → Int32} {B : (Int32 → Int32 → Int32 → Int32 → (Int32 × (Nat → Int32) × (Nat → Nat → Int32) × (Nat → Nat → Int64))) → Int32 → Int32 → Int32 → Int32 → (Int32 × (Nat → Int32) × (Nat → Nat → Int32) × (Nat → Nat → Int64))} (hB : ∀ G, (∀ x y z w, KP F (G x y z w)) → ∀ x y z w, KP F (B G x y z w)) : ∀ (m : Nat) (x y z w : Int32), KP F (itr_iiii dfM B m x y z w) := by
  intro m
  induction m with
  | zero => intro x y z w; exact KP.df
  | succ m ih =>
    intro x y z w
    show KP F (B (itr_iiii dfM B m) x y z w)
    exact hB _ ih x y z w
theorem kp_levels {I : Nat → Int32} {A : Nat → Nat → Int32} {L : Nat → Nat → Int64} {z : Int32} : KP (A 17) (fM12_levelsFirst I A L z) := by
  unfold fM12_levelsFirst
  refine k_iiii (fun G hG x y u w => ?_) FU _ _ _ _
  unfold bM12_levelsFirst_28
  dsimp only [f_lt]
  split
  · refine k_iIAL (fun G2 hG2 x2 I2 A2 L2 => ?_) FU 0 I A L
    unfold bM12_levelsFirst_100
    dsimp only [f_lt]
    split
    · exact KP.rf
    · split
      · exact hG2 _ _ _ _
      · split
        · exact hG2 _ _ (up3 A2 19 _ _) _
        · split
          · exact hG2 _ _ (up3 A2 19 _ _) _
          · split
            · exact hG2 _ _ (up3 A2 19 _ _) _
            · exact hG2 _ _ (up3 A2 19 _ _) _
  · split
    · split
      · exact hG _ _ _ _
      · exact hG _ _ _ _
    · split
      · exact hG _ _ _ _
      · exact hG _ _ _ _
theorem kp_window {I : Nat → Int32} {A : Nat → Nat → Int32} {L : Nat → Nat → Int64} {z1 z2 : Int32} : KP (A 17) (fM12_laysWindow I A L z1 z2) := by
  unfold fM12_laysWindow
  refine k_iIAL (fun G hG x I2 A2 L2 => ?_) FU 0 I A L
  unfold bM12_laysWindow_2
  dsimp only [f_lt]
  split
  · exact kp_levels.bd (fun y I A L => KP.rf)
  · exact hG _ _ (up3 A2 19 _ _) _
theorem kp_changes {I : Nat → Int32} {A : Nat → Nat → Int32} {L : Nat → Nat → Int64} {z1 : Int32} : KP (A 17) (fM12_changesBoth I A L z1) := by
  unfold fM12_changesBoth
  refine k_iIAL (fun G hG x I2 A2 L2 => ?_) FU 0 I A L
  unfold bM12_changesBoth_2
  dsimp only [f_lt]
  split
  · exact KP.rf
  · exact hG _ _ (up3 (up3 A2 19 _ _) 20 _ _) _
theorem kp_query {I : Nat → Int32} {A : Nat → Nat → Int32} {L : Nat → Nat → Int64} {z1 : Int32} : KP (A 17) (fM12_laysQuery I A L z1) := by
  unfold fM12_laysQuery
  refine k_iIAL (fun G hG x I2 A2 L2 => ?_) FU 0 I A L
  unfold bM12_laysQuery_2
  dsimp only [f_lt]
  split
  · exact kp_levels.bd (fun y I A L => KP.rf)
  · exact hG _ _ (up3 A2 19 _ _) _
theorem kp_both {I : Nat → Int32} {A : Nat → Nat → Int32} {L : Nat → Nat → Int64} {z1 z2 : Int32} : KP (A 17) (fM12_laysBoth I A L z1 z2) := by
  unfold fM12_laysBoth
  refine kp_window.bd (fun y I A L => ?_)
  refine kp_changes.bd (fun y I A L => ?_)
  exact kp_query.bd (fun y I A L => KP.rf)
theorem kp_row {I : Nat → Int32} {A : Nat → Nat → Int32} {L : Nat → Nat → Int64} {z1 : Int32} : KP (A 17) (fM12_laysRow I A L z1) := by
  unfold fM12_laysRow
  refine k_iiIAL (fun G hG x y I2 A2 L2 => ?_) FU 0 _ I A L
  unfold bM12_laysRow_6
  dsimp only [f_lt]
  split
  · exact KP.rf
  · split
    · exact hG _ _ _ _ _
    · split
      · exact hG _ _ _ (up3 A2 21 _ _) _
      · split
        · exact hG _ _ _ (up3 A2 21 _ _) _
        · exact hG _ _ _ (up3 A2 21 _ _) _
theorem kp_table {I : Nat → Int32} {A : Nat → Nat → Int32} {L : Nat → Nat → Int64} {z1 : Int32} : KP (A 17) (fM12_laysTable I A L z1) := by
  unfold fM12_laysTable
  refine k_iIAL (fun G hG x I2 A2 L2 => ?_) FU 0 _ A L
  unfold bM12_laysTable_12
  dsimp only [f_lt]
  split
  · exact KP.rf
  · refine kp_row.bd (fun y I A L => ?_)
    split
    · exact KP.rf
    · exact hG _ _ _ _
theorem kp_dist {I : Nat → Int32} {A : Nat → Nat → Int32} {L : Nat → Nat → Int64} {z1 z2 : Int32} : KP (A 17) (fM12_distanceOf I A L z1 z2) := by
  unfold fM12_distanceOf
  refine kp_both.bd (fun y I A L => ?_)
  exact kp_table.bd (fun y I A L => KP.rf)
theorem kp_far {I : Nat → Int32} {A : Nat → Nat → Int32} {L : Nat → Nat → Int64} {z1 : Int32} : KP (A 17) (fM12_fillsFar I A L z1) := by
  unfold fM12_fillsFar fM12_copies
  rw [bdM_mk]
  refine k_iIAL (fun G hG x I2 A2 L2 => ?_) FU 0 _ (up2 A 18 _) L
  unfold bM12_fillsFar_6
  dsimp only [f_lt]
  split
  · exact KP.rf
  · split
    · exact hG _ _ (up3 A2 24 _ _) _
    · exact kp_dist.bd (fun y I A L => hG _ _ (up3 A 24 _ _) _)
/-- needs puts the BAND back -/
theorem needs_17 {I I' : Nat → Int32} {A A' : Nat → Nat → Int32} {L L' : Nat → Nat → Int64} {z1 z2 v : Int32} (e : FE (fM12_needs I A L z1 z2) (v, I', A', L')) (h : IvM I' A') : A' 17 = A 17 := by
  have e2 : fM12_needs I A L z1 z2 = (v, I', A', L') := e
  have kp : KP (A 17) (fM12_needs I A L z1 z2) := by
    unfold fM12_needs
    split
    · exact KP.rf
    · have key : ∀ (m : Nat) (x y : Int32) (I2 : Nat → Int32) (A2 : Nat → Nat → Int32) (L2 : Nat → Nat → Int64), (A2 17 164 = 0 ∨ ∀ k, k ≠ 161 → A2 17 k = A 17 k) → KP (A 17) (itr_iiIAL dfM (bM12_needs_28 A z1 z2) m x y I2 A2 L2) := by
        intro m
        induction m with
        | zero => intro x y I2 A2 L2 _; exact KP.df
        | succ m ih =>
          intro x y I2 A2 L2 hk
          show KP (A 17) (bM12_needs_28 A z1 z2 (itr_iiIAL dfM (bM12_needs_28 A z1 z2) m) x y I2 A2 L2)
          obtain ⟨G, hG⟩ : ∃ G, G = itr_iiIAL dfM (bM12_needs_28 A z1 z2) m := ⟨_, rfl⟩
          rw [← hG] at ih ⊢
          unfold bM12_needs_28
          dsimp only [f_lt]
          split
          · rcases hk with hk | hk
            · left
              show up3 A2 17 161 (A 17 161) 17 164 = 0
              rw [up3_ne (by decide)]; exact hk
            · right
              show up3 A2 17 161 (A 17 161) 17 = A 17
              funext k
              by_cases c : k = 161
              · rw [up3_at c, c]
              · rw [up3_ne c]; exact hk k c
          · obtain ⟨r, hr⟩ : ∃ r, r = fM12_fillsFar I2 (up3 A2 17 161 x) L2 z1 := ⟨_, rfl⟩
            have kf : KP ((up3 A2 17 161 x) 17) r := by rw [hr]; exact kp_far
            rw [← hr]
            have nx : r.2.2.1 17 164 = 0 ∨ ∀ k, k ≠ 161 → r.2.2.1 17 k = A 17 k := by
              rcases kf with g | g
              · exact Or.inl g
              · rcases hk with hk | hk
                · left; rw [g, up3_ne (by decide)]; exact hk
                · right
                  intro k c
                  rw [g, up3_ne c]; exact hk k c
            unfold f_bdM
            dsimp only
            split
            · exact ih _ _ _ _ _ nx
            · exact ih _ _ _ _ _ nx
      exact key FU 15 (-2) I A L (Or.inr (fun k _ => rfl))
  rw [e2] at kp
  have h1 := IvM_s17_164 h
  rcases kp with g | g
  · have g2 : A' 17 164 = 0 := g
    rw [g2] at h1
    exact absurd h1.1 (by decide)
  · exact g
/-- all that goes on is alike -/
def RA (I : Nat → Int32) (A : Nat → Nat → Int32) (J : Nat → Int32) (B : Nat → Nat → Int32) (M : Nat → Nat → Int64) : Prop := RTp I A J B M ∧ HS I A J B ∧ QS I A J B ∧ SLS I A B
