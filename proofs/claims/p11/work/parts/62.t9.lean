def MJ : List Nat := [4, 6, 7, 8, 9, 11, 12, 13, 17]
def MB : List Nat := [8, 9, 10, 11, 12, 13, 14, 15, 16]
/-- the side that goes on keeps its QUERIES -/
def FRM (σ : Nat) (B0 B : Nat → Nat → Int32) : Prop := B 10 (1 - σ) = B0 10 (1 - σ) ∧ (∀ q, q < 5 → B 11 (5 * (1 - σ) + q) = B0 11 (5 * (1 - σ) + q)) ∧ (∀ i, i < 80 → B 12 (80 * (1 - σ) + i) = B0 12 (80 * (1 - σ) + i))
def BASE (n c : Nat) (pos : Nat → Nat) (A0 B0 : Nat → Nat → Int32) (L0 : Nat → Nat → Int64) (J0 : Nat → Int32) (σ : Nat) (I : Nat → Int32) (A : Nat → Nat → Int32) (J : Nat → Int32) (B : Nat → Nat → Int32) (L : Nat → Nat → Int64) (t : Nat) : Prop :=
  HAND n c pos A0 I A t ∧ Md MJ J0 J ∧ Md MB B0 B ∧ Md [7] L0 L ∧ FRM σ B0 B ∧ (J 4).toInt = (t : Int) ∧ (J 6).toInt = 0 ∧ (I 10).toInt = 0 ∧ (J0 16).toInt = (σ : Int) ∧ σ ≤ 1
def CV (k v w : Int32) : Prop := (v = -1000 ∧ w = 100000) ∨ (w = v ∧ (k.toInt = 0 → -999 ≤ v.toInt ∧ v.toInt ≤ 999))
def SOK (A : Nat → Nat → Int32) : Prop := (0 ≤ (A 2 0).toInt ∧ (A 2 0).toInt ≤ 15) ∧ (0 ≤ (A 2 1).toInt ∧ (A 2 1).toInt ≤ 3) ∧ (0 ≤ (A 2 2).toInt ∧ (A 2 2).toInt ≤ 1) ∧ (1 ≤ (A 2 3).toInt ∧ (A 2 3).toInt ≤ 99)
def DRF (σ : Nat) (I : Nat → Int32) (A B : Nat → Nat → Int32) : Prop := B 8 σ = I 14 ∧ 0 ≤ (I 14).toInt ∧ (I 14).toInt ≤ 160 ∧ (∀ j : Nat, (j : Int) < (I 14).toInt → CV (I 11) (A 1 j) (B 9 (160 * σ + j))) ∧ (B 13 σ = A 2 0 ∧ B 14 σ = A 2 1 ∧ B 15 σ = A 2 2 ∧ B 16 σ = A 2 3) ∧ ((I 11).toInt = 0 → SOK A)
def QRY (σ q : Nat) (I : Nat → Int32) (A B : Nat → Nat → Int32) : Prop := A 4 q = B 11 (5 * σ + q) ∧ 0 ≤ (A 4 q).toInt ∧ (A 4 q).toInt ≤ 16 ∧ (∀ i : Nat, (i : Int) < (A 4 q).toInt → A 3 (16 * q + i) = B 12 (80 * σ + (16 * q + i)) ∧ ((I 11).toInt = 0 → -999 ≤ (A 3 (16 * q + i)).toInt ∧ (A 3 (16 * q + i)).toInt ≤ 999))
def NAM (n q : Nat) (A0 A : Nat → Nat → Int32) (w : Int64) : Prop := ∃ s k : Nat, (A 5 q).toInt = (s : Int) ∧ (A 6 q).toInt = (k : Int) ∧ k ≤ 8 ∧ s + k ≤ n ∧ (∀ j, s ≤ j → j < s + k → isL (bt A0 j)) ∧ w.toInt = enc (bt A0) s k
def QRS (n : Nat) (A0 : Nat → Nat → Int32) (σ nq : Nat) (I : Nat → Int32) (A : Nat → Nat → Int32) (J : Nat → Int32) (B : Nat → Nat → Int32) (L : Nat → Nat → Int64) : Prop := (B 10 σ).toInt = (nq : Int) ∧ (J 17).toInt = (nq : Int) ∧ nq ≤ 5 ∧ ∀ q, q < nq → QRY σ q I A B ∧ ((I 11).toInt = 0 → 2 ≤ (A 4 q).toInt) ∧ NAM n q A0 A (L 7 q)
def FLT (I : Nat → Int32) (A : Nat → Nat → Int32) (J' : Nat → Int32) : Prop := 0 < (J' 6).toInt ∧ XF I A (J' 6) (J' 7) (J' 12)
theorem FLT.red {I I1 J' : Nat → Int32} {A A1 : Nat → Nat → Int32} (h : Red I A I1 A1) (h2 : FLT I1 A1 J') : FLT I A J' := ⟨h2.1, XF.red h h2.2⟩
theorem failJ_md {J : Nat → Int32} {B : Nat → Nat → Int32} {t : Nat} {k : Int32} : Md MJ J (failJ J B t k) := Md.up (Md.up (Md.up Md.rf rfl) rfl) rfl
theorem flt_fail {I J : Nat → Int32} {A B : Nat → Nat → Int32} {t : Nat} {k : Int32} (hk : 0 < k.toInt) (hB : B 3 t = I 2) (h11 : J 11 = I 9) (h : XF I A k (I 2) (I 9)) : FLT I A (failJ J B t k) := by
  refine ⟨hk, ?_⟩
  show XF I A k (B 3 t) (J 11)
  rw [hB, h11]; exact h
/-- a TOKEN that may stand: both go on, or it is the 401st -/
theorem sim_go {n c t : Nat} {pos : Nat → Nat} {A0 B0 : Nat → Nat → Int32} {L0 : Nat → Nat → Int64} {I I1 J : Nat → Int32} {A A1 B : Nat → Nat → Int32} {L : Nat → Nat → Int64} (hE : ENV n c pos A0 B0 L0) (hH : HAND n c pos A0 I A t) (h10 : (I 10).toInt = 0) (hK : (B0 2 t).toInt ≠ 0) (h4 : (J 4).toInt = (t : Int)) (h6 : (J 6).toInt = 0) (h11 : J 11 = I 9) (hB : B 3 = B0 3) (hm : fX5_mayStand I A = 1) (hr : (I 4).toInt ≤ 400 → fX5_hasRoom I A = 1) (ha : fX5_accept I A = (0, I1, A1)) (e0 : I1 0 = I 0) (e4 : I1 4 = I 4) (e5 : I1 5 = I 5) (eA : A1 0 = A 0) (M1 : Md SX I I1) (M2 : Md SXA A A1) : ∃ J' : Nat → Int32, fM12_goesOn J B L = (0, J', B, L) ∧ ((FLT I A J' ∧ Md MJ J J') ∨ (t ≠ 400 ∧ J' = upd J 4 (J 4 + 1) ∧ (J' 4).toInt = ((t + 1 : Nat) : Int) ∧ ∃ I2 : Nat → Int32, Red I A I2 A1 ∧ Md [1, 2, 3, 4, 5] I1 I2 ∧ HAND n c pos A0 I2 A1 (t + 1) ∧ (I 2).toInt < (I2 2).toInt)) := by
  have hk := hand_K hE hH
  have hB3 : B 3 t = I 2 := by rw [hB]; exact hk.2.1
  have h1 : (I 1).toInt ≠ 0 := fun h9 => hK (hk.1.1.mpr h9)
  rw [m_goes h6 h4]
  have h44 := hH.2.2.1
  by_cases c4 : t = 400
  · rw [if_pos c4]
    refine ⟨_, rfl, Or.inl ⟨flt_fail (by decide) hB3 h11 (xf_room h10 h1 hm ?_), failJ_md⟩⟩
    unfold fX5_hasRoom
    rw [if_neg (by omega)]
  · rw [if_neg c4]
    obtain ⟨I2, b1, b2, b3, b4, b5⟩ := hand_next hE hH hK c4 eA e0 e4 e5
    have h5 := hH.2.2.2.2.1
    refine ⟨_, rfl, Or.inr ⟨c4, rfl, ?_, I2, ev_go h10 h1 hm (hr (by omega)) ha b1 b3 (by omega) (Md.tr M1 b2 rfl) M2, b2, b4, b5⟩⟩
    rw [show upd J 4 (J 4 + 1) 4 = J 4 + 1 from upd_at (α := Nat), i32_inc (by omega)]; omega
theorem kpA_congr {I I2 : Nat → Int32} {A : Nat → Nat → Int32} {v : Int32} (h6 : I2 6 = I 6) (h14 : I2 14 = I 14) (h16 : I2 16 = I 16) : kpA I2 A v = kpA I A v := by
  unfold kpA
  rw [h6, h14, h16]
theorem kpA_md {I : Nat → Int32} {A : Nat → Nat → Int32} {v : Int32} : Md [1, 3, 4] A (kpA I A v) := by
  unfold kpA
  by_cases c : (I 6).toInt = 1
  · rw [if_pos c]; exact Md.up3 Md.rf rfl
  · rw [if_neg c]; exact Md.up3 (Md.up3 Md.rf rfl) rfl
theorem kpI_md {I : Nat → Int32} : Md [8, 9, 14] I (kpI I) := by
  unfold kpI
  by_cases c : (I 6).toInt = 1
  · rw [if_pos c]; exact Md.up (Md.up (Md.up Md.rf rfl) rfl) rfl
  · rw [if_neg c]; exact Md.up (Md.up Md.rf rfl) rfl
theorem kpI_at {I : Nat → Int32} : kpI I 8 = 0 ∧ kpI I 9 = I 9 + 1 ∧ kpI I 14 = if (I 6).toInt = 1 then I 14 + 1 else I 14 := by
  unfold kpI
  by_cases c : (I 6).toInt = 1
  · rw [if_pos c, if_pos c]; exact ⟨rfl, rfl, rfl⟩
  · rw [if_neg c, if_neg c]; exact ⟨rfl, rfl, rfl⟩
theorem mkI_md {I : Nat → Int32} : Md [11, 12, 13] I (mkI I) := by
  unfold mkI
  by_cases c : (I 3).toInt ≤ 999
  · rw [if_pos c]; exact Md.rf
  · rw [if_neg c]; exact markI_md
theorem WRK.mv {I J I2 J2 : Nat → Int32} {p p2 : Int} (h : WRK I J p) (h11 : I2 11 = I 11) (h12 : I2 12 = I 12) (h13 : I2 13 = I 13) (j8 : J2 8 = J 8) (j9 : J2 9 = J 9) (j13 : J2 13 = J 13) (hp : p ≤ p2) : WRK I2 J2 p2 := by
  obtain ⟨a, b, c, d⟩ := h
  unfold WRK
  rw [h11, h12, h13, j8, j9, j13]
  exact ⟨a, b, c, fun h9 => ⟨(d h9).1, (d h9).2.1, by have := (d h9).2.2; omega⟩⟩
/-- behind a reading: the class has kept it, the reference has it in its hand -/
def PR (n c : Nat) (pos : Nat → Nat) (A0 : Nat → Nat → Int32) (I : Nat → Int32) (A1 : Nat → Nat → Int32) (J : Nat → Int32) (y : Int32) (I2 J2 : Nat → Int32) (t2 : Nat) : Prop :=
  HAND n c pos A0 I2 A1 t2 ∧ (J2 4).toInt = (t2 : Int) ∧ (J2 6).toInt = 0 ∧ Md [4, 8, 9, 13] J J2 ∧ WRK I2 J2 (I2 2).toInt ∧ (I2 10).toInt = 0 ∧ I2 6 = I 6 ∧ (I2 8).toInt = 0 ∧ I2 9 = I 9 + 1 ∧ (I2 14 = if (I 6).toInt = 1 then I 14 + 1 else I 14) ∧ I2 16 = I 16 ∧ ((I2 11).toInt = 0 → (I 11).toInt = 0 ∧ -999 ≤ y.toInt ∧ y.toInt ≤ 999)
def RW1 (I : Nat → Int32) (A : Nat → Nat → Int32) : Prop := ((I 6).toInt = 1 ∧ 0 ≤ (I 14).toInt ∧ (I 14).toInt < 160) ∨ ((I 6).toInt = 3 ∧ (I 9).toInt < 16 ∧ 1 ≤ (I 16).toInt ∧ (I 16).toInt ≤ 5 ∧ (A 4 (I 16 - 1).toNatClampNeg).toInt < 16)
theorem sim_int {n c t : Nat} {pos : Nat → Nat} {A0 B0 : Nat → Nat → Int32} {L0 : Nat → Nat → Int64} {I J : Nat → Int32} {A B : Nat → Nat → Int32} {L : Nat → Nat → Int64} (hE : ENV n c pos A0 B0 L0) (hH : HAND n c pos A0 I A t) (h10 : (I 10).toInt = 0) (hK : (B0 2 t).toInt = 2) (h4 : (J 4).toInt = (t : Int)) (h6 : (J 6).toInt = 0) (h11 : J 11 = I 9) (hB : Md MB B0 B) (hW : WRK I J (I 2).toInt) (hr : RW1 I A) : ∃ J' : Nat → Int32, fM12_bounded J B L 0 999 = (I 3, J', B, L) ∧ ((FLT I A J' ∧ Md MJ J J') ∨ ∃ I2 : Nat → Int32, Red I A I2 (kpA I A (nvI I)) ∧ PR n c pos A0 I (kpA I A (nvI I)) J (nvI I) I2 J' (t + 1)) := by
  have hk := hand_K hE hH
  have hB2 : B 2 = B0 2 := hB 2 rfl
  have hB3 : B 3 = B0 3 := hB 3 rfl
  have hB4 : B 4 = B0 4 := hB 4 rfl
  obtain ⟨v1, v2, v3⟩ := hk.2.2.1 hK
  have h1 : (I 1).toInt = 2 := hk.1.2.1.mp hK
  have hi6 : (I 6).toInt = 1 ∨ (I 6).toInt = 3 := by rcases hr with h | h; exact Or.inl h.1; exact Or.inr h.1
  have hrow := a_row hk.1 hi6
  have hm : fX5_mayStand I A = 1 := by rw [hrow.1, if_pos (Or.inl (Or.inl hK))]
  have hrm : (I 4).toInt ≤ 400 → fX5_hasRoom I A = 1 := fun h9 => by
    rw [hrow.2.1 h9, if_pos]
    rcases hr with h | h
    · exact Or.inr (Or.inl ⟨h.1, h.2.2⟩)
    · exact Or.inr (Or.inr ⟨h.1, h.2.1⟩)
  have ha : fX5_accept I A = (0, kpI (mkI I), kpA I A (nvI I)) := by
    rw [hrow.2.2, x_int h1 (fun h9 => by rcases hr with h | h; exact h.2; omega) (fun h9 => by rcases hr with h | h; omega; exact h.2.2), kpA_congr (I := I) (I2 := mkI I) (mkI_o (by decide) (by decide) (by decide)) (mkI_o (by decide) (by decide) (by decide)) (mkI_o (by decide) (by decide) (by decide))]
    rfl
  have M0 : Md [8, 9, 11, 12, 13, 14] I (kpI (mkI I)) := Md.tr (Md.tr Md.rf mkI_md rfl) kpI_md rfl
  have eA : kpA I A (nvI I) 0 = A 0 := kpA_md 0 rfl
  have hM : ∀ J1 : Nat → Int32, Md [8, 9, 13] J J1 → WRK (mkI I) J1 ((I 2).toInt + 1) → ∃ J' : Nat → Int32, fM12_goesOn J1 B L = (0, J', B, L) ∧ ((FLT I A J' ∧ Md MJ J J') ∨ ∃ I2 : Nat → Int32, Red I A I2 (kpA I A (nvI I)) ∧ PR n c pos A0 I (kpA I A (nvI I)) J (nvI I) I2 J' (t + 1)) := by
    intro J1 g1 g2
    obtain ⟨J', b1, b2⟩ := sim_go (J := J1) (L := L) hE hH h10 (by omega) (by rw [g1 4 rfl]; exact h4) (by rw [g1 6 rfl]; exact h6) (by rw [g1 11 rfl]; exact h11) hB3 hm hrm ha (M0 0 rfl) (M0 4 rfl) (M0 5 rfl) eA (Md.tr Md.rf M0 rfl) (Md.tr Md.rf kpA_md rfl)
    refine ⟨J', b1, ?_⟩
    rcases b2 with b2 | ⟨c4, rfl, b3, I2, b4, b5, b6, b7⟩
    · exact Or.inl ⟨b2.1, Md.tr (Md.tr Md.rf g1 rfl) b2.2 rfl⟩
    · refine Or.inr ⟨I2, b4, b6, b3, ?_, ?_, ?_, ?_, ?_, ?_, ?_, ?_, ?_, ?_⟩
      · show (J1 6).toInt = 0
        rw [g1 6 rfl]; exact h6
      · exact Md.up (Md.tr Md.rf g1 rfl) rfl
      · have e11 : I2 11 = mkI I 11 := (b5 11 rfl).trans (kpI_md 11 rfl)
        have e12 : I2 12 = mkI I 12 := (b5 12 rfl).trans (kpI_md 12 rfl)
        have e13 : I2 13 = mkI I 13 := (b5 13 rfl).trans (kpI_md 13 rfl)
        exact WRK.mv g2 e11 e12 e13 rfl rfl rfl (by omega)
      · rw [b5 10 rfl, M0 10 rfl]; exact h10
      · rw [b5 6 rfl, M0 6 rfl]
      · rw [b5 8 rfl, kpI_at.1]; rfl
      · rw [b5 9 rfl, kpI_at.2.1, mkI_o (by decide) (by decide) (by decide)]
      · rw [b5 14 rfl, kpI_at.2.2, mkI_o (j := 6) (by decide) (by decide) (by decide), mkI_o (j := 14) (by decide) (by decide) (by decide)]
      · rw [b5 16 rfl, M0 16 rfl]
      · rw [(b5 11 rfl).trans (kpI_md 11 rfl)]
        intro h9
        have h8 : (I 3).toInt ≤ 999 ∧ (I 11).toInt = 0 := by
          unfold mkI markI at h9
          by_cases c9 : (I 3).toInt ≤ 999
          · rw [if_pos c9] at h9; exact ⟨c9, h9⟩
          · rw [if_neg c9] at h9
            by_cases c8 : (I 11).toInt ≠ 0
            · rw [if_pos c8] at h9; exact absurd h9 c8
            · rw [if_neg c8] at h9
              exact absurd (show (5 : Int32).toInt = 0 from h9) (by decide)
        refine ⟨h8.2, ?_⟩
        unfold nvI
        by_cases c8 : (I 8).toInt = 0
        · rw [if_pos c8]; omega
        · rw [if_neg c8, show -(I 3) = 0 - I 3 from by rw [Int32.zero_sub], i32_sub (x := 0) (a := 0) rfl rfl rfl (by omega) (by omega)]; omega
  unfold fM12_bounded
  rw [if_neg (by omega), m_is0 h6 h4, hB2, if_pos (show (B0 2 t).toInt = (2 : Int32).toInt from hK), if_neg (by decide), clN h4, hB4, v1, if_neg (show ¬ (I 3).toInt < (0 : Int32).toInt from by have : (0 : Int32).toInt = 0 := rfl; omega)]
  by_cases c9 : (I 3).toInt ≤ 999
  · rw [if_pos (show (I 3).toInt ≤ (999 : Int32).toInt from c9)]
    obtain ⟨J', b1, b2⟩ := hM J Md.rf (by
      unfold mkI
      rw [if_pos c9]
      exact WRK.mv hW rfl rfl rfl rfl rfl rfl (by omega))
    rw [b1]
    exact ⟨J', rfl, b2⟩
  · rw [if_neg (show ¬ (I 3).toInt ≤ (999 : Int32).toInt from c9)]
    obtain ⟨J1, d1, d2, d3⟩ := m_wrong (B := B) (L := L) (k := 5) (z := J 4) hW (by omega) (fun h9 h8 => by have := (hW.2.2.2 h9).2.2; omega) h6 h11 (by rw [clN h4, hB3]; exact hk.2.1) (by decide)
    rw [d1]
    obtain ⟨J', b1, b2⟩ := hM J1 d2 (by unfold mkI; rw [if_neg c9]; exact d3)
    refine ⟨J', ?_, b2⟩
    show f_bdM (fM12_goesOn J1 B L) (fun _ I9 A9 L9 => (I 3, I9, A9, L9)) = _
    rw [b1]; rfl
