theorem bdM_mk {ρ : Type} {y : Int32} {J : Nat → Int32} {B : Nat → Nat → Int32} {L : Nat → Nat → Int64} {k : Int32 → (Nat → Int32) → (Nat → Nat → Int32) → (Nat → Nat → Int64) → ρ} : f_bdM (y, J, B, L) k = k y J B L := rfl
theorem i32_neg {x : Int32} (h : -2147483648 < x.toInt) : (-x).toInt = -x.toInt := by
  have e : -x = 0 - x := by rw [Int32.zero_sub]
  have := Int32.toInt_lt x
  rw [e, i32_sub (x := 0) (a := 0) rfl rfl rfl (by omega) (by omega)]; omega
/-- a reading, with its '-' or without -/
theorem sim_reading {n c t : Nat} {pos : Nat → Nat} {A0 B0 : Nat → Nat → Int32} {L0 : Nat → Nat → Int64} {I J : Nat → Int32} {A B : Nat → Nat → Int32} {L : Nat → Nat → Int64} (hE : ENV n c pos A0 B0 L0) (hH : HAND n c pos A0 I A t) (h10 : (I 10).toInt = 0) (hK : (B0 2 t).toInt = 2 ∨ (B0 2 t).toInt = 9) (h4 : (J 4).toInt = (t : Int)) (h6 : (J 6).toInt = 0) (h11 : J 11 = I 9) (h8 : (I 8).toInt = 0) (hB : Md MB B0 B) (hW : WRK I J (I 2).toInt) (hr : RW1 I A) : ∃ (y : Int32) (J' : Nat → Int32), fM12_readingTold J B L = (y, J', B, L) ∧ ((FLT I A J' ∧ Md MJ J J') ∨ ∃ (I2 : Nat → Int32) (t2 : Nat), t < t2 ∧ Red I A I2 (kpA I A y) ∧ PR n c pos A0 I (kpA I A y) J y I2 J' t2) := by
  have hk := hand_K hE hH
  have hB2 : B 2 = B0 2 := hB 2 rfl
  have hB3 : B 3 = B0 3 := hB 3 rfl
  unfold fM12_readingTold
  rw [m_is0 h6 h4, hB2]
  rcases hK with hK | hK
  · rw [if_neg (show ¬ (B0 2 t).toInt = (9 : Int32).toInt from by have : (9 : Int32).toInt = 9 := rfl; omega), if_pos rfl]
    obtain ⟨J', b1, b2⟩ := sim_int (L := L) hE hH h10 hK h4 h6 h11 hB hW hr
    have e : nvI I = I 3 := by unfold nvI; rw [if_pos h8]
    rw [e] at b2
    refine ⟨I 3, J', by rw [b1]; rfl, ?_⟩
    rcases b2 with b2 | ⟨I2, b3, b4⟩
    · exact Or.inl b2
    · exact Or.inr ⟨I2, t + 1, by omega, b3, b4⟩
  · rw [if_pos (show (B0 2 t).toInt = (9 : Int32).toInt from hK), if_neg (by decide)]
    have h1 : (I 1).toInt = 4 := hk.1.2.2.2.1.mp hK
    have hi6 : (I 6).toInt = 1 ∨ (I 6).toInt = 3 := by rcases hr with h | h; exact Or.inl h.1; exact Or.inr h.1
    have hrow := a_row hk.1 hi6
    have hm : fX5_mayStand I A = 1 := by rw [hrow.1, if_pos (Or.inl (Or.inr ⟨h8, Or.inl hK⟩))]
    have hrm : (I 4).toInt ≤ 400 → fX5_hasRoom I A = 1 := fun h9 => by
      rw [hrow.2.1 h9, if_pos]
      rcases hr with h | h
      · exact Or.inr (Or.inl ⟨h.1, h.2.2⟩)
      · exact Or.inr (Or.inr ⟨h.1, h.2.1⟩)
    have ha : fX5_accept I A = (0, upd I 8 1, A) := by rw [hrow.2.2, x_minus h1]; rfl
    obtain ⟨J1, b1, b2⟩ := sim_go (J := J) (L := L) hE hH h10 (by omega) h4 h6 h11 hB3 hm hrm ha rfl rfl rfl rfl (Md.up Md.rf rfl) Md.rf
    rw [b1, bdM_mk]
    rcases b2 with ⟨b2, b2m⟩ | ⟨c4, e1, b3, I2, b4, b5, b6, b7⟩
    · have e9 : fM12_bounded J1 B L 0 999 = (0, J1, B, L) := by
        unfold fM12_bounded
        rw [if_pos b2.1, m_failF b2.1]; rfl
      rw [e9]
      exact ⟨-0, J1, rfl, Or.inl ⟨b2, b2m⟩⟩
    · have g10 : (I2 10).toInt = 0 := by rw [b5 10 rfl]; exact h10
      have g8 : (I2 8).toInt ≠ 0 := by rw [b5 8 rfl]; exact (by decide : (1 : Int32).toInt ≠ 0)
      have g6 : I2 6 = I 6 := b5 6 rfl
      have g9 : I2 9 = I 9 := b5 9 rfl
      have g14 : I2 14 = I 14 := b5 14 rfl
      have g16 : I2 16 = I 16 := b5 16 rfl
      have gr : RW1 I2 A := by unfold RW1; rw [g6, g9, g14, g16]; exact hr
      have j6 : (J1 6).toInt = 0 := by rw [e1]; exact h6
      have j11 : J1 11 = I2 9 := by rw [e1, g9]; exact h11
      have hk2 := hand_K hE b6
      have hW2 : WRK I2 J1 (I2 2).toInt := by
        rw [e1]
        exact WRK.mv hW (b5 11 rfl) (b5 12 rfl) (b5 13 rfl) rfl rfl rfl (by omega)
      by_cases c2 : (B0 2 (t + 1)).toInt = 2
      · obtain ⟨J', d1, d2⟩ := sim_int (L := L) hE b6 g10 c2 b3 j6 j11 hB hW2 gr
        have e : nvI I2 = -(I2 3) := by unfold nvI; rw [if_neg g8]
        rw [e, kpA_congr (I := I) (I2 := I2) g6 g14 g16] at d2
        refine ⟨-(I2 3), J', by rw [d1]; rfl, ?_⟩
        rcases d2 with d2 | ⟨I3, d3, p1, p2, p3, p4, p5, p6, p7, p8, p9, p10, p11, p12⟩
        · exact Or.inl ⟨FLT.red b4 d2.1, Md.tr (Md.tr Md.rf (show Md [4] J J1 by rw [e1]; exact Md.up Md.rf rfl) rfl) d2.2 rfl⟩
        · refine Or.inr ⟨I3, t + 1 + 1, by omega, b4.tr d3, p1, p2, p3, ?_, p5, p6, by rw [p7, g6], p8, by rw [p9, g9], by rw [p10, g6, g14], by rw [p11, g16], fun h9 => ?_⟩
          · exact Md.tr (Md.tr Md.rf (show Md [4] J J1 by rw [e1]; exact Md.up Md.rf rfl) rfl) p4 rfl
          · have := p12 h9
            rw [b5 11 rfl] at this
            exact this
      · have e9 : fM12_bounded J1 B L 0 999 = (0, failJ J1 B (t + 1) 1, B, L) := by
          unfold fM12_bounded
          rw [if_neg (by omega), m_is0 j6 b3, hB2, if_neg (show ¬ (B0 2 (t + 1)).toInt = (2 : Int32).toInt from c2), if_pos rfl, m_fail0 j6 b3]; rfl
        rw [e9]
        refine ⟨-0, _, rfl, Or.inl ⟨FLT.red b4 (flt_fail (by decide) (by rw [hB3]; exact hk2.2.1) j11 (xf_syntax g10 ?_)), ?_⟩⟩
        · have hrow2 := a_row hk2.1 (by rw [g6]; exact hi6)
          by_cases c0 : (B0 2 (t + 1)).toInt = 0
          · exact Or.inl ⟨hk2.1.1.mp c0, by rw [g6]; omega⟩
          · refine Or.inr ⟨fun h9 => c0 (hk2.1.1.mpr h9), ?_⟩
            rw [hrow2.1, if_neg]
            intro h9
            rcases h9 with (h9 | h9) | h9
            · exact c2 h9
            · exact g8 h9.1
            · exact g8 h9.2.1
        · exact Md.tr (Md.tr Md.rf (show Md [4] J J1 by rw [e1]; exact Md.up Md.rf rfl) rfl) failJ_md rfl
/-- both stand ahead of a TELL -/
def ST0 (n c : Nat) (pos : Nat → Nat) (A0 B0 : Nat → Nat → Int32) (L0 : Nat → Nat → Int64) (J0 : Nat → Int32) (σ nq : Nat) (I : Nat → Int32) (A : Nat → Nat → Int32) (J : Nat → Int32) (B : Nat → Nat → Int32) (L : Nat → Nat → Int64) (t : Nat) : Prop :=
  BASE n c pos A0 B0 L0 J0 σ I A J B L t ∧ WRK I J (I 2).toInt ∧ DRF σ I A B ∧ QRS n A0 σ nq I A J B L ∧ (I 6).toInt = 0 ∧ I 9 = -2 ∧ J 11 = -2 ∧ (I 8).toInt = 0 ∧ (I 16).toInt = (nq : Int)
/-- how a TELL ends: a FAULT for both, or both ahead of the next -/
def RES (n c : Nat) (pos : Nat → Nat) (A0 B0 : Nat → Nat → Int32) (L0 : Nat → Nat → Int64) (J0 : Nat → Int32) (σ : Nat) (I : Nat → Int32) (A : Nat → Nat → Int32) (t : Nat) (R : Int32 × (Nat → Int32) × (Nat → Nat → Int32) × (Nat → Nat → Int64)) : Prop :=
  ∃ (J' : Nat → Int32) (B' : Nat → Nat → Int32) (L' : Nat → Nat → Int64), R = (0, J', B', L') ∧ Md MJ J0 J' ∧ Md MB B0 B' ∧ Md [7] L0 L' ∧ FRM σ B0 B' ∧ (FLT I A J' ∨ ∃ (I2 : Nat → Int32) (A2 : Nat → Nat → Int32) (t2 nq2 : Nat), t < t2 ∧ Red I A I2 A2 ∧ ST0 n c pos A0 B0 L0 J0 σ nq2 I2 A2 J' B' L' t2)
theorem RES.red {n c : Nat} {pos : Nat → Nat} {A0 B0 : Nat → Nat → Int32} {L0 : Nat → Nat → Int64} {J0 : Nat → Int32} {σ : Nat} {I I1 : Nat → Int32} {A A1 : Nat → Nat → Int32} {t t1 : Nat} {R : Int32 × (Nat → Int32) × (Nat → Nat → Int32) × (Nat → Nat → Int64)} (h : Red I A I1 A1) (ht : t ≤ t1) (h2 : RES n c pos A0 B0 L0 J0 σ I1 A1 t1 R) : RES n c pos A0 B0 L0 J0 σ I A t R := by
  obtain ⟨J', B', L', a1, a2, a3, a4, a5, a6⟩ := h2
  refine ⟨J', B', L', a1, a2, a3, a4, a5, ?_⟩
  rcases a6 with a6 | ⟨I2, A2, t2, nq2, b1, b2, b3⟩
  · exact Or.inl (FLT.red h a6)
  · exact Or.inr ⟨I2, A2, t2, nq2, by omega, h.tr b2, b3⟩
theorem DRF.mv {σ : Nat} {I I2 : Nat → Int32} {A A2 B B2 : Nat → Nat → Int32} (h : DRF σ I A B) (h11 : I2 11 = I 11) (h14 : I2 14 = I 14) (a1 : A2 1 = A 1) (a2 : A2 2 = A 2) (b8 : B2 8 = B 8) (b9 : B2 9 = B 9) (b13 : B2 13 = B 13) (b14 : B2 14 = B 14) (b15 : B2 15 = B 15) (b16 : B2 16 = B 16) : DRF σ I2 A2 B2 := by
  unfold DRF SOK at *
  rw [h11, h14, a1, a2, b8, b9, b13, b14, b15, b16]; exact h
theorem QRS.mv {n : Nat} {A0 : Nat → Nat → Int32} {σ nq : Nat} {I I2 J J2 : Nat → Int32} {A A2 B B2 : Nat → Nat → Int32} {L L2 : Nat → Nat → Int64} (h : QRS n A0 σ nq I A J B L) (h11 : I2 11 = I 11) (j17 : J2 17 = J 17) (a3 : A2 3 = A 3) (a4 : A2 4 = A 4) (a5 : A2 5 = A 5) (a6 : A2 6 = A 6) (b10 : B2 10 = B 10) (b11 : B2 11 = B 11) (b12 : B2 12 = B 12) (l7 : L2 7 = L 7) : QRS n A0 σ nq I2 A2 J2 B2 L2 := by
  unfold QRS QRY NAM at *
  rw [h11, j17, a3, a4, a5, a6, b10, b11, b12, l7]; exact h
/-- a fault that comes changes only what is said of texts without one -/
theorem QRS.weak {n : Nat} {A0 : Nat → Nat → Int32} {σ nq : Nat} {I I2 J : Nat → Int32} {A B : Nat → Nat → Int32} {L : Nat → Nat → Int64} (h : QRS n A0 σ nq I A J B L) (h11 : (I2 11).toInt = 0 → (I 11).toInt = 0) : QRS n A0 σ nq I2 A J B L := by
  obtain ⟨a, b, c, d⟩ := h
  refine ⟨a, b, c, fun q hq => ?_⟩
  obtain ⟨⟨e1, e2, e3, e4⟩, e5, e6⟩ := d q hq
  exact ⟨⟨e1, e2, e3, fun i hi => ⟨(e4 i hi).1, fun h9 => (e4 i hi).2 (h11 h9)⟩⟩, fun h9 => e5 (h11 h9), e6⟩
theorem DRF.weak {σ : Nat} {I I2 : Nat → Int32} {A B : Nat → Nat → Int32} (h : DRF σ I A B) (h14 : I2 14 = I 14) (h11 : (I2 11).toInt = 0 → (I 11).toInt = 0) : DRF σ I2 A B := by
  obtain ⟨a, b, c, d, e, f⟩ := h
  unfold DRF
  rw [h14]
  refine ⟨a, b, c, fun j hj => ?_, e, fun h9 => f (h11 h9)⟩
  rcases d j hj with h9 | h9
  · exact Or.inl h9
  · exact Or.inr ⟨h9.1, fun h8 => h9.2 (h11 h8)⟩
