/-- the longest run so far and where it begins -/
def blR (R : Nat → Nat) : Nat → Nat × Int
  | 0 => (0, -2)
  | k + 1 => if (blR R k).1 < R k then (R k, (k : Int)) else blR R k
theorem bl_t {R : Nat → Nat} {k : Nat} (h : (blR R k).1 < R k) : blR R (k + 1) = (R k, (k : Int)) := if_pos h
theorem bl_f {R : Nat → Nat} {k : Nat} (h : ¬ (blR R k).1 < R k) : blR R (k + 1) = blR R k := if_neg h
theorem blR_ok {R : Nat → Nat} : ∀ k, ((blR R k).1 = 0 ∧ (blR R k).2 = -2) ∨ (0 < (blR R k).1 ∧ ∃ s : Nat, s < k ∧ (blR R k).2 = (s : Int) ∧ (blR R k).1 = R s) := by
  intro k
  induction k with
  | zero => exact Or.inl ⟨rfl, rfl⟩
  | succ k ih =>
    unfold blR
    by_cases c : (blR R k).1 < R k
    · rw [if_pos c]; right; exact ⟨by show 0 < R k; omega, k, by omega, rfl, rfl⟩
    · rw [if_neg c]
      rcases ih with h | ⟨h, s, a, b⟩
      · exact Or.inl h
      · exact Or.inr ⟨h, s, by omega, b⟩
theorem whole_eq {I J : Nat → Int32} {A B : Nat → Nat → Int32} {L : Nat → Nat → Int64} {n : Nat} (h : XR I A (B 17) n) (z : Int32) : fX11_whole I A z = fM12_whole J B L z := by
  have hn := h.1.2.1
  have h0 := h.1.1
  have h18 := h.2.1
  have hz0 : (0 : Int32).toInt = 0 := rfl
  have hz1 : (1 : Int32).toInt = 1 := rfl
  obtain ⟨R, hR⟩ : ∃ R : Nat → Nat, ∀ (y : Int32) (s : Nat), y.toInt = (s : Int) → s ≤ n → (fX6_runFrom I A y).toInt = (R s : Int) ∧ rnR (B 17) n s (R s) := by
    refine ⟨fun s => (fX6_runFrom I A (nI s)).toInt.toNat, fun y s hy hs => ?_⟩
    have e : y = nI s := Int32.toInt_inj.mp (by rw [hy, nI_toInt (by omega)])
    obtain ⟨k, a, b⟩ := x_run h hy hs
    show (fX6_runFrom I A y).toInt = (((fX6_runFrom I A (nI s)).toInt.toNat : Nat) : Int) ∧ rnR (B 17) n s (fX6_runFrom I A (nI s)).toInt.toNat
    rw [← e, a]
    exact ⟨by omega, by rw [show ((k : Int)).toNat = k by omega]; exact b⟩
  -- the class: the longest run's first place
  have hX : (fX6_longestRunFirst I A).toInt = (blR R n).2 := by
    unfold fX6_longestRunFirst
    refine run_iii (Q := fun (v : Int32) => v.toInt = (blR R n).2) n (fun j x a b => x.toInt = (j : Int) ∧ a.toInt = ((blR R j).1 : Int) ∧ b.toInt = (blR R j).2) (fun G j x a b hj hP => ?_) FU 0 0 0 (-2) ⟨rfl, rfl, rfl⟩ (by omega) (fu_lt (by omega))
    obtain ⟨hx, ha, hb⟩ := hP
    unfold bX6_longestRunFirst_7
    dsimp only [f_lt]
    by_cases c : (I 18).toInt ≤ x.toInt
    · rw [if_pos c]; right; rw [hb, show j = n by omega]
    · rw [if_neg c]
      left
      have r := (hR x j hx (by omega)).1
      refine ⟨by omega, ?_⟩
      by_cases c2 : (fX6_runFrom I A x).toInt ≤ a.toInt
      · rw [if_pos c2]
        refine ⟨_, _, _, rfl, i_s hx (by omega), ?_⟩
        rw [bl_f (by omega)]; exact ⟨ha, hb⟩
      · rw [if_neg c2]
        refine ⟨_, _, _, rfl, i_s hx (by omega), ?_⟩
        rw [bl_t (by omega)]; exact ⟨r, hx⟩
  -- the reference
  have hM : ∀ (y : Int32), (itr_iii (0 : Int32) (bM12_whole_20 B y J L) FU 0 (-2) (-2)).toInt = if y.toInt = 0 then (blR R n).2 else if (blR R n).1 = 0 then -2 else ((blR R n).1 : Int) := fun y => by
    refine run_iii (Q := fun (v : Int32) => v.toInt = if y.toInt = 0 then (blR R n).2 else if (blR R n).1 = 0 then -2 else ((blR R n).1 : Int)) n (fun j x a b => x.toInt = (j : Int) ∧ (a.toInt = if (blR R j).1 = 0 then -2 else ((blR R j).1 : Int)) ∧ b.toInt = (blR R j).2) (fun G j x a b hj hP => ?_) FU 0 0 (-2) (-2) ⟨rfl, rfl, rfl⟩ (by omega) (fu_lt (by omega))
    obtain ⟨hx, ha, hb⟩ := hP
    unfold bM12_whole_20
    by_cases c : (B 17 0).toInt ≤ x.toInt
    · rw [if_pos c]
      right
      have ej : j = n := by omega
      subst ej
      by_cases c2 : y.toInt = 0
      · rw [if_neg (fun h9 => h9 c2), if_pos c2]; exact hb
      · rw [if_pos c2, if_neg c2]; exact ha
    · rw [if_neg c]
      left
      refine ⟨by omega, ?_⟩
      have rr := (hR x j hx (by omega)).2
      have ro := blR_ok (R := R) j
      refine run_i (Q := fun (v : Int32) => ∃ x' a' b' : Int32, v = G x' a' b' ∧ x'.toInt = ((j + 1 : Nat) : Int) ∧ (a'.toInt = if (blR R (j + 1)).1 = 0 then -2 else ((blR R (j + 1)).1 : Int)) ∧ b'.toInt = (blR R (j + 1)).2) (n - j) (fun i x2 => x2.toInt = (i : Int) ∧ ∀ e, e < i → thR (B 17) n (j + e)) (fun G2 i x2 hi hP2 => ?_) FU 0 0 ⟨rfl, fun e he => by omega⟩ (by omega) (fu_lt (by omega))
      obtain ⟨hx2, hi2⟩ := hP2
      have e2 := i_ad hx hx2 (by omega) (by omega)
      unfold bM12_whole_34
      dsimp only [f_lt]
      rcases h.1.m (J := J) (L := L) e2 with ⟨a1, a2⟩ | ⟨a1, a2⟩
      · rw [a1, if_pos rfl]
        have ei : i = R j := rnR.uq ⟨by omega, hi2, a2⟩ rr
        right
        by_cases c3 : x2.toInt = 0
        · rw [if_pos c3]
          refine ⟨_, _, _, rfl, i_s hx (by omega), ?_⟩
          rw [bl_f (by omega)]; exact ⟨ha, hb⟩
        · rw [if_neg c3]
          by_cases c4 : a.toInt < x2.toInt
          · rw [if_pos c4]
            refine ⟨_, _, _, rfl, i_s hx (by omega), ?_⟩
            have : (blR R j).1 < R j := by
              split at ha <;> omega
            rw [bl_t this]
            refine ⟨?_, hx⟩
            show x2.toInt = if R j = 0 then -2 else (R j : Int)
            rw [if_neg (by omega)]; omega
          · rw [if_neg c4]
            refine ⟨_, _, _, rfl, i_s hx (by omega), ?_⟩
            have : ¬ (blR R j).1 < R j := by
              split at ha <;> omega
            rw [bl_f this]; exact ⟨ha, hb⟩
      · rw [a1, if_neg (by decide)]
        left
        refine ⟨by have := a2.1; omega, _, rfl, i_s hx2 (by omega), fun e he => ?_⟩
        by_cases ee : e = i
        · rw [ee]; exact a2
        · exact hi2 e (by omega)
  unfold fX11_whole fM12_whole
  simp only [f_lt_eq]
  rw [m_in, if10]
  by_cases c1 : z.toInt < 0
  · rw [if_pos c1, if_neg (by omega)]
  · rw [if_neg c1]
    by_cases c2 : z.toInt ≤ 1
    · rw [if_pos c2, if_pos (show (0 : Int32).toInt ≤ z.toInt ∧ z.toInt ≤ (1 : Int32).toInt by omega)]
      have hm := hM z
      have ro := blR_ok (R := R) n
      rcases ro with ⟨o1, o2⟩ | ⟨o1, s, o2, o3, o4⟩
      · rw [if_pos (by omega)]
        apply Int32.toInt_inj.mp
        rw [hm, if_pos o1, hX, o2]
        split <;> rfl
      · rw [if_neg (by omega)]
        by_cases c3 : z.toInt = 0
        · rw [if_neg (fun h9 => h9 c3)]
          rw [if_pos c3] at hm
          exact Int32.toInt_inj.mp (by omega)
        · rw [if_pos c3]
          rw [if_neg c3, if_neg (by omega)] at hm
          have r := (hR (fX6_longestRunFirst I A) s (by omega) (by omega)).1
          exact Int32.toInt_inj.mp (by omega)
    · rw [if_neg c2, if_neg (by omega)]
/-- how many of the first k -/
noncomputable def cnR (p : Nat → Prop) : Nat → Nat
  | 0 => 0
  | k + 1 => cnR p k + @ite Nat (p k) (Classical.propDecidable _) 1 0
theorem cnR_t {p : Nat → Prop} {k : Nat} (h : p k) : cnR p (k + 1) = cnR p k + 1 := by
  show cnR p k + @ite Nat (p k) (Classical.propDecidable _) 1 0 = _
  rw [if_pos h]
theorem cnR_f {p : Nat → Prop} {k : Nat} (h : ¬ p k) : cnR p (k + 1) = cnR p k := by
  show cnR p k + @ite Nat (p k) (Classical.propDecidable _) 1 0 = _
  rw [if_neg h]; rfl
theorem cnR_le {p : Nat → Prop} : ∀ k, cnR p k ≤ k := by
  intro k
  induction k with
  | zero => exact Nat.le_refl 0
  | succ k ih =>
    by_cases h : p k
    · rw [cnR_t h]; omega
    · rw [cnR_f h]; omega
theorem cnR_cg {p q : Nat → Prop} : ∀ k, (∀ i, i < k → (p i ↔ q i)) → cnR p k = cnR q k := by
  intro k
  induction k with
  | zero => intro _; rfl
  | succ k ih =>
    intro h
    have := ih (fun i hi => h i (by omega))
    by_cases c : p k
    · rw [cnR_t c, cnR_t ((h k (by omega)).mp c), this]
    · rw [cnR_f c, cnR_f (fun h9 => c ((h k (by omega)).mpr h9)), this]
theorem cnR_0 {p : Nat → Prop} : ∀ k, (∀ i, i < k → ¬ p i) → cnR p k = 0 := by
  intro k
  induction k with
  | zero => intro _; rfl
  | succ k ih =>
    intro h
    rw [cnR_f (h k (by omega))]; exact ih (fun i hi => h i (by omega))
theorem cnR_end {p : Nat → Prop} {k : Nat} : ∀ m, (∀ i, k ≤ i → i < k + m → ¬ p i) → cnR p (k + m) = cnR p k := by
  intro m
  induction m with
  | zero => intro _; rfl
  | succ m ih =>
    intro h
    rw [← Nat.add_assoc, cnR_f (h (k + m) (by omega) (by omega))]; exact ih (fun i h1 h2 => h i h1 (by omega))
theorem cnR_sh {p q : Nat → Prop} {d : Nat} (h0 : ∀ i, i < d → ¬ p i) (h : ∀ i, p (d + i) ↔ q i) : ∀ k, cnR p (d + k) = cnR q k := by
  intro k
  induction k with
  | zero => exact cnR_0 d h0
  | succ k ih =>
    rw [← Nat.add_assoc]
    by_cases c : q k
    · rw [cnR_t c, cnR_t ((h k).mpr c), ih]
    · rw [cnR_f c, cnR_f (fun h9 => c ((h k).mp h9)), ih]
/-- the k places ahead of j are readings and all alike -/
def efR (r : Nat → Int32) (n j k : Nat) : Prop := k ≤ j ∧ ∀ i, i < k → thR r n (j - 1 - i) ∧ (r (1 + (j - 1 - i))).toInt = (r (1 + (j - 1))).toInt
theorem x_flat {I : Nat → Int32} {A : Nat → Nat → Int32} {r : Nat → Int32} {n m : Nat} (h : XR I A r n) {z : Int32} (hz : z.toInt = (m : Int)) (hm : 1 ≤ m) : (fX6_flatWindows I A z).toInt = (cnR (fun e => efR r n (e + 1) m) n : Int) := by
  have hn := h.1.2.1
  have h18 := h.2.1
  unfold fX6_flatWindows
  refine run_iii (Q := fun (v : Int32) => v.toInt = (cnR (fun e => efR r n (e + 1) m) n : Int)) n (fun j x a b => x.toInt = (j : Int) ∧ (∃ al : Nat, a.toInt = (al : Int) ∧ al ≤ j ∧ ∀ k, 1 ≤ k → (k ≤ al ↔ efR r n j k)) ∧ b.toInt = (cnR (fun e => efR r n (e + 1) m) j : Int)) (fun G j x a b hj hP => ?_) FU 0 0 0 0 ⟨rfl, ⟨0, rfl, by omega, fun k hk => ⟨fun h9 => by omega, fun h9 => by have := h9.1; omega⟩⟩, rfl⟩ (by omega) (fu_lt (by omega))
  obtain ⟨hx, ⟨al, ha, hal, hk⟩, hb⟩ := hP
  have hcl := cnR_le (p := fun e => efR r n (e + 1) m) j
  unfold bX6_flatWindows_7
  dsimp only [f_lt]
  by_cases c : (I 18).toInt ≤ x.toInt
  · rw [if_pos c]; right; rw [hb, show j = n by omega]
  · rw [if_neg c]
    left
    refine ⟨by omega, ?_⟩
    have hjn : j < n := by omega
    -- the step: the new length al' and its meaning
    have fin : ∀ (al' : Nat) (a' : Int32) (b' : Int32), a'.toInt = (al' : Int) → al' ≤ j + 1 → (∀ k, 1 ≤ k → (k ≤ al' ↔ efR r n (j + 1) k)) → ((m ≤ al' ∧ b' = b + Int32.ofInt 1) ∨ (¬ m ≤ al' ∧ b' = b)) → (x + Int32.ofInt 1).toInt = ((j + 1 : Nat) : Int) ∧ (∃ al : Nat, a'.toInt = (al : Int) ∧ al ≤ j + 1 ∧ ∀ k, 1 ≤ k → (k ≤ al ↔ efR r n (j + 1) k)) ∧ b'.toInt = (cnR (fun e => efR r n (e + 1) m) (j + 1) : Int) := fun al' a' b' h1 h2 h3 h4 => by
      refine ⟨i_s hx (by omega), ⟨al', h1, h2, h3⟩, ?_⟩
      rcases h4 with ⟨h5, h6⟩ | ⟨h5, h6⟩
      · rw [cnR_t (p := fun e => efR r n (e + 1) m) (k := j) ((h3 m hm).mp h5), h6]; exact i_s hb (by omega)
      · rw [cnR_f (p := fun e => efR r n (e + 1) m) (k := j) (fun h9 => h5 ((h3 m hm).mpr h9)), h6]; exact hb
    rcases h.has hx with ⟨a1, a2⟩ | ⟨a1, a2, a3⟩
    · rw [a1, if_pos rfl, if_pos (by omega)]
      refine ⟨_, _, _, rfl, fin 0 0 b rfl (by omega) (fun k hk1 => ⟨fun h9 => by omega, fun h9 => ?_⟩) (Or.inr ⟨by omega, rfl⟩)⟩
      have := (h9.2 0 (by omega)).1
      rw [show j + 1 - 1 - 0 = j by omega] at this
      exact absurd this a2
    · rw [a1, if_neg (by decide)]
      have one : efR r n (j + 1) 1 := ⟨by omega, fun i hi => by
        rw [show i = 0 by omega, show j + 1 - 1 - 0 = j + 1 - 1 by omega]
        exact ⟨by rw [show j + 1 - 1 = j by omega]; exact a2, rfl⟩⟩
      have two : ∀ k, 2 ≤ k → efR r n (j + 1) k → 1 ≤ j ∧ thR r n (j - 1) ∧ (r (1 + (j - 1))).toInt = (r (1 + j)).toInt := fun k hk2 h9 => by
        have h8 := h9.2 1 (by omega)
        rw [show j + 1 - 1 - 1 = j - 1 by omega, show j + 1 - 1 = j by omega] at h8
        exact ⟨by have := h9.1; omega, h8⟩
      by_cases c2 : a.toInt ≤ 0
      · rw [if_pos c2]
        have nw : ∀ k, 1 ≤ k → (k ≤ 1 ↔ efR r n (j + 1) k) := fun k hk1 => ⟨fun h9 => by rw [show k = 1 by omega]; exact one, fun h9 => by
          by_cases ck : k ≤ 1
          · exact ck
          · exfalso
            have t := two k (by omega) h9
            have : efR r n j 1 := ⟨t.1, fun i hi => by
              rw [show i = 0 by omega, show j - 1 - 0 = j - 1 by omega]; exact ⟨t.2.1, rfl⟩⟩
            have := (hk 1 (by omega)).mpr this
            omega⟩
        by_cases c3 : 1 < z.toInt
        · rw [if_pos c3]; exact ⟨_, _, _, rfl, fin 1 1 b rfl (by omega) nw (Or.inr ⟨by omega, rfl⟩)⟩
        · rw [if_neg c3]; exact ⟨_, _, _, rfl, fin 1 1 _ rfl (by omega) nw (Or.inl ⟨by omega, rfl⟩)⟩
      · rw [if_neg c2]
        have hj1 : 1 ≤ j := by omega
        have ex := i32_sub (x := x) (y := 1) (b := 1) rfl hx rfl (by omega) (by omega)
        have al1 := (hk 1 (by omega)).mp (by omega)
        have p0 := (al1.2 0 (by omega)).1
        rw [show j - 1 - 0 = j - 1 by omega] at p0
        have v1 : fX6_valueAt I A (x - 1) = r (1 + (j - 1)) := by
          rcases h.has (z := x - 1) (i := j - 1) (by omega) with ⟨b1, b2⟩ | ⟨b1, b2, b3⟩
          · exact absurd p0 b2
          · exact b3
        rw [a3, v1]
        by_cases c4 : (r (1 + j)).toInt = (r (1 + (j - 1))).toInt
        · rw [if_neg (fun h9 => h9 c4)]
          have ea : (a + Int32.ofInt 1).toInt = ((al + 1 : Nat) : Int) := i_s ha (by omega)
          have nw : ∀ k, 1 ≤ k → (k ≤ al + 1 ↔ efR r n (j + 1) k) := fun k hk1 => by
            by_cases ck : k = 1
            · subst ck; exact ⟨fun _ => one, fun _ => by omega⟩
            · constructor
              · intro h9
                have g := (hk (k - 1) (by omega)).mp (by omega)
                refine ⟨by have := g.1; omega, fun i hi => ?_⟩
                by_cases ci : i = 0
                · rw [ci, show j + 1 - 1 - 0 = j + 1 - 1 by omega]; exact one.2 0 (by omega)
                · have g2 := g.2 (i - 1) (by omega)
                  rw [show j + 1 - 1 - i = j - 1 - (i - 1) by omega, show j + 1 - 1 = j by omega]
                  exact ⟨g2.1, by rw [g2.2, c4]⟩
              · intro h9
                have : efR r n j (k - 1) := ⟨by have := h9.1; omega, fun i hi => by
                  have g2 := h9.2 (i + 1) (by omega)
                  rw [show j + 1 - 1 - (i + 1) = j - 1 - i by omega, show j + 1 - 1 = j by omega] at g2
                  exact ⟨g2.1, by rw [g2.2, c4]⟩⟩
                have := (hk (k - 1) (by omega)).mpr this
                omega
          by_cases c3 : (a + Int32.ofInt 1).toInt < z.toInt
          · rw [if_pos c3]; exact ⟨_, _, _, rfl, fin (al + 1) _ b ea (by omega) nw (Or.inr ⟨by omega, rfl⟩)⟩
          · rw [if_neg c3]; exact ⟨_, _, _, rfl, fin (al + 1) _ _ ea (by omega) nw (Or.inl ⟨by omega, rfl⟩)⟩
        · rw [if_pos c4]
          have nw : ∀ k, 1 ≤ k → (k ≤ 1 ↔ efR r n (j + 1) k) := fun k hk1 => ⟨fun h9 => by rw [show k = 1 by omega]; exact one, fun h9 => by
            by_cases ck : k ≤ 1
            · exact ck
            · exact absurd (two k (by omega) h9).2.2.symm c4⟩
          by_cases c3 : 1 < z.toInt
          · rw [if_pos c3]; exact ⟨_, _, _, rfl, fin 1 1 b rfl (by omega) nw (Or.inr ⟨by omega, rfl⟩)⟩
          · rw [if_neg c3]; exact ⟨_, _, _, rfl, fin 1 1 _ rfl (by omega) nw (Or.inl ⟨by omega, rfl⟩)⟩
theorem mnR_c {r : Nat → Int32} {s : Nat} {c : Int} (hc : c < 100000) : ∀ k, 1 ≤ k → (∀ i, i < k → (r (1 + (s + i))).toInt = c) → mnR r s k = c := by
  intro k
  induction k with
  | zero => intro h; omega
  | succ k ih =>
    intro _ h
    have e := h k (by omega)
    unfold mnR
    by_cases ck : k = 0
    · subst ck
      rw [if_pos (by rw [e]; exact hc)]; exact e
    · rw [ih (by omega) (fun i hi => h i (by omega)), e]
      split <;> rfl
theorem mxR_c {r : Nat → Int32} {s : Nat} {c : Int} (hc : -1000 < c) : ∀ k, 1 ≤ k → (∀ i, i < k → gR (r (1 + (s + i))) = c) → mxR r s k = c := by
  intro k
  induction k with
  | zero => intro h; omega
  | succ k ih =>
    intro _ h
    have e := h k (by omega)
    unfold mxR
    by_cases ck : k = 0
    · subst ck
      rw [if_pos (by rw [e]; exact hc)]; exact e
    · rw [ih (by omega) (fun i hi => h i (by omega)), e]
      split <;> rfl
theorem flat_eq {I J : Nat → Int32} {A B : Nat → Nat → Int32} {L : Nat → Nat → Int64} {n : Nat} (h : XR I A (B 17) n) (z : Int32) : fX11_flat I A z = fM12_flat J B L z := by
  have hn := h.1.2.1
  have h0 := h.1.1
  have hz1 : (1 : Int32).toInt = 1 := rfl
  have hz160 : (160 : Int32).toInt = 160 := rfl
  unfold fX11_flat fM12_flat
  simp only [f_lt_eq]
  rw [m_in, if10]
  by_cases c1 : z.toInt < 1
  · rw [if_pos c1, if_neg (by omega)]
  rw [if_neg c1]
  by_cases c2n : ¬ (z.toInt ≤ 160)
  · rw [if_neg c2n, if_neg (by omega)]
  have c2 : z.toInt ≤ 160 := Decidable.of_not_not c2n
  rw [if_pos c2, if_pos (by omega)]
  obtain ⟨m, hz⟩ : ∃ m : Nat, z.toInt = (m : Int) := ⟨z.toInt.toNat, by omega⟩
  have hm : 1 ≤ m := by omega
  have eX := x_flat h hz hm
  have eM : (itr_ii (0 : Int32) (bM12_flat_17 B J L z) FU 0 0).toInt = (cnR (fun s => s + m ≤ n ∧ efR (B 17) n (s + m) m) n : Int) := by
    refine run_ii (Q := fun (v : Int32) => v.toInt = (cnR (fun s => s + m ≤ n ∧ efR (B 17) n (s + m) m) n : Int)) n (fun j x b => x.toInt = (j : Int) ∧ b.toInt = (cnR (fun s => s + m ≤ n ∧ efR (B 17) n (s + m) m) j : Int)) (fun G j x b hj hP => ?_) FU 0 0 0 ⟨rfl, rfl⟩ (by omega) (fu_lt (by omega))
    obtain ⟨hx, hb⟩ := hP
    have hcl := cnR_le (p := fun s => s + m ≤ n ∧ efR (B 17) n (s + m) m) j
    unfold bM12_flat_17
    dsimp only [f_lt]
    by_cases c : (B 17 0).toInt ≤ x.toInt
    · rw [if_pos c]; right; rw [hb, show j = n by omega]
    · rw [if_neg c]
      left
      refine ⟨by omega, ?_⟩
      rcases m_win (J := J) (L := L) h.1 (z1 := x) (z2 := z) with ⟨a, w⟩ | ⟨a, s, k, hs, hk, w⟩
      · rw [a, if_pos rfl]
        refine ⟨_, _, rfl, i_s hx (by omega), ?_⟩
        rw [cnR_f]
        · exact hb
        · intro h9
          refine w j m hx hz ⟨hm, h9.1, fun i hi => ?_⟩
          have := (h9.2.2 (m - 1 - i) (by omega)).1.2
          rwa [show j + m - 1 - (m - 1 - i) = j + i by omega] at this
      · have es : s = j := by omega
        have ek : k = m := by omega
        subst es; subst ek
        rw [a, if_neg (by decide)]
        have l1 := m_least (J := J) (L := L) h.1 hs hk w
        have l2 := m_most (J := J) (L := L) h.1 hs hk w
        have wv : ∀ i, i < k → gR (B 17 (1 + (s + i))) = (B 17 (1 + (s + i))).toInt := fun i hi => by
          rcases h.1.v (i := s + i) (by have := w.2.1; omega) with ⟨v, -⟩ | ⟨-, -, v, -⟩
          · exact absurd v (w.2.2 i hi)
          · exact v
        by_cases c4 : (fM12_leastOf J B L x z).toInt = (fM12_mostOf J B L x z).toInt
        · rw [if_neg (fun h9 => h9 c4)]
          refine ⟨_, _, rfl, i_s hx (by omega), ?_⟩
          rw [cnR_t]
          · exact i_s hb (by omega)
          · have all : ∀ i, i < k → (B 17 (1 + (s + i))).toInt = mnR (B 17) s k := fun i hi => by
              have g1 := mnR_le (r := B 17) (s := s) k i hi
              have g2 := mxR_le (r := B 17) (s := s) k i hi
              rw [wv i hi] at g2
              omega
            refine ⟨w.2.1, by omega, fun i hi => ⟨⟨by have := w.2.1; omega, ?_⟩, ?_⟩⟩
            · have := w.2.2 (k - 1 - i) (by omega)
              rwa [show s + (k - 1 - i) = s + k - 1 - i by omega] at this
            · have g1 := all (k - 1 - i) (by omega)
              have g2 := all (k - 1) (by omega)
              rw [show s + (k - 1 - i) = s + k - 1 - i by omega] at g1
              rw [show s + (k - 1) = s + k - 1 by omega] at g2
              omega
        · rw [if_pos c4]
          refine ⟨_, _, rfl, i_s hx (by omega), ?_⟩
          rw [cnR_f]
          · exact hb
          · intro h9
            apply c4
            have all : ∀ i, i < k → (B 17 (1 + (s + i))).toInt = (B 17 (1 + (s + k - 1))).toInt := fun i hi => by
              have := (h9.2.2 (k - 1 - i) (by omega)).2
              rwa [show s + k - 1 - (k - 1 - i) = s + i by omega] at this
            have b0 := h.1.v (i := s + k - 1) (by have := w.2.1; omega)
            have w0 := w.2.2 (k - 1) (by omega)
            rw [show s + (k - 1) = s + k - 1 by omega] at w0
            rw [l1.1, l2, mnR_c (c := (B 17 (1 + (s + k - 1))).toInt) (by omega) k hm all, mxR_c (c := (B 17 (1 + (s + k - 1))).toInt) (by omega) k hm (fun i hi => by rw [wv i hi]; exact all i hi)]
  apply Int32.toInt_inj.mp
  rw [eX, eM]
  congr 1
  by_cases c3 : m ≤ n
  · have e1 := cnR_sh (p := fun e => efR (B 17) n (e + 1) m) (q := fun s => efR (B 17) n (s + m) m) (d := m - 1) (fun i hi h9 => by have := h9.1; omega) (fun i => by rw [show m - 1 + i + 1 = i + m by omega]) (n - (m - 1))
    rw [show m - 1 + (n - (m - 1)) = n by omega] at e1
    have e2 := cnR_end (p := fun s => s + m ≤ n ∧ efR (B 17) n (s + m) m) (k := n - (m - 1)) (m - 1) (fun i h1 h2 h9 => by have := h9.1; omega)
    rw [show n - (m - 1) + (m - 1) = n by omega] at e2
    rw [e1, e2]
    exact cnR_cg _ (fun i hi => ⟨fun h9 => ⟨by omega, h9⟩, fun h9 => h9.2⟩)
  · rw [cnR_0 n (fun i hi h9 => by have := h9.1; omega), cnR_0 n (fun i hi h9 => by have := h9.1; omega)]
section ANS1
variable {I J : Nat → Int32} {A B : Nat → Nat → Int32} {M : Nat → Nat → Int64} {z z1 z2 z3 v w : Int32}
theorem ans_window (h : RA I A J B M) (_ : IvX I A) (_ : IvM J B) (eX : FE (fX11_window I A z1 z2 z3) v) (eM : FE (fM12_window J B M z1 z2 z3) w) : v = w := by
  obtain ⟨n, hx⟩ := h.2.1.xr
  exact (fe_s eX).trans ((window_eq hx z1 z2 z3).trans eM)
theorem ans_flat (h : RA I A J B M) (_ : IvX I A) (_ : IvM J B) (eX : FE (fX11_flat I A z) v) (eM : FE (fM12_flat J B M z) w) : v = w := by
  obtain ⟨n, hx⟩ := h.2.1.xr
  exact (fe_s eX).trans ((flat_eq hx z).trans eM)
theorem ans_whole (h : RA I A J B M) (_ : IvX I A) (_ : IvM J B) (eX : FE (fX11_whole I A z) v) (eM : FE (fM12_whole J B M z) w) : v = w := by
  obtain ⟨n, hx⟩ := h.2.1.xr
  exact (fe_s eX).trans ((whole_eq hx z).trans eM)
theorem ans_count (h : RA I A J B M) (_ : IvX I A) (_ : IvM J B) (eX : FE (fX11_count I A z) v) (eM : FE (fM12_count J B M z) w) : v = w := (fe_s eX).trans ((count_eq h z).trans eM)
end ANS1
