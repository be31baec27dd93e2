section
theorem bdM_mk {ρ : Type} {y : Int32} {J : Nat → Int32} {B : Nat → Nat → Int32} {L : Nat → Nat → Int64} {k : Int32 → (Nat → Int32) → (Nat → Nat → Int32) → (Nat → Nat → Int64) → ρ} : f_bdM (y, J, B, L) k = k y J B L := rfl
theorem i32_neg {x : Int32} (h : -2147483648 < x.toInt) : (-x).toInt = -x.toInt := by
  have e : -x = 0 - x := by rw [Int32.zero_sub]
  have := Int32.toInt_lt x
  rw [e, i32_sub (x := 0) (a := 0) rfl rfl rfl (by omega) (by omega)]; omega
/-- a reading, with its '-' or without -/
theorem sim_reading {n c t : Nat} {pos : Nat → Nat} {A0 B0 : Nat → Nat → Int32} {L0 : Nat → Nat → Int64} {I J : Nat → Int32} {A B : Nat → Nat → Int32} {L : Nat → Nat → Int64} (hE : ENV n c pos A0 B0 L0) (hH : HAND n c pos A0 I A t) (h10 : (I 10).toInt = 0) (hK : (B0 2 t).toInt = 2 ∨ (B0 2 t).toInt = 9) (h4 : (J 4).toInt = (t : Int)) (h6 : (J 6).toInt = 0) (h11 : J 11 = I 9) (h8 : (I 8).toInt = 0) (hB : Md MB B0 B) (hW : WRK I J (I 2).toInt) (hr : RW1 I A) : ∃ (y : Int32) (J' : Nat → Int32), fM12_readingTold J B L = (y, J', B, L) ∧ ((FLT I A J' ∧ Md MJ J J') ∨ ∃ (I2 : Nat → Int32) (t2 : Nat), t < t2 ∧ Red I A I2 (kpA I A y) ∧ PR n c pos A0 I (kpA I A y) J y I2 J' t2) := by
  have hk := hand_K hE hH
  have hB2 : B 2 = B0 2 := hB 2 rfl
  have hB3 : B 3 = B0 3 := hB 3 rfl
  unfold fM12_readingTold
  rw [m_is0 h6 h4, hB2]
  rcases hK with hK | hK
  · rw [if_neg (show ¬ (B0 2 t).toInt = (9 : Int32).toInt from by have : (9 : Int32).toInt = 9 := rfl; omega), if_pos rfl]
    obtain ⟨J', b1, b2⟩ := sim_int (L := L) hE hH h10 hK h4 h6 h11 hB hW hr
    have e : nvI I = I 3 := by unfold nvI; rw [if_pos h8]
    rw [e] at b2
    refine ⟨I 3, J', by rw [b1]; rfl, ?_⟩
    rcases b2 with b2 | ⟨I2, b3, b4⟩
    · exact Or.inl b2
    · exact Or.inr ⟨I2, t + 1, by omega, b3, b4⟩
  · rw [if_pos (show (B0 2 t).toInt = (9 : Int32).toInt from hK), if_neg (by decide)]
    have h1 : (I 1).toInt = 4 := hk.1.2.2.2.1.mp hK
    have hi6 : (I 6).toInt = 1 ∨ (I 6).toInt = 3 := by rcases hr with h | h; exact Or.inl h.1; exact Or.inr h.1
    have hrow := a_row hk.1 hi6
    have hm : fX5_mayStand I A = 1 := by rw [hrow.1, if_pos (Or.inl (Or.inr ⟨h8, Or.inl hK⟩))]
    have hrm : (I 4).toInt ≤ 400 → fX5_hasRoom I A = 1 := fun h9 => by
      rw [hrow.2.1 h9, if_pos]
      rcases hr with h | h
      · exact Or.inr (Or.inl ⟨h.1, h.2.2⟩)
      · exact Or.inr (Or.inr ⟨h.1, h.2.1⟩)
    have ha : fX5_accept I A = (0, upd I 8 1, A) := by rw [hrow.2.2, x_minus h1]; rfl
    obtain ⟨J1, b1, b2⟩ := sim_go (J := J) (L := L) hE hH h10 (by omega) h4 h6 h11 hB3 hm hrm ha rfl rfl rfl rfl (Md.up Md.rf rfl) Md.rf
    rw [b1, bdM_mk]
    rcases b2 with ⟨b2, b2m⟩ | ⟨c4, e1, b3, I2, b4, b5, b6, b7⟩
    · have e9 : fM12_bounded J1 B L 0 999 = (0, J1, B, L) := by
        unfold fM12_bounded
        rw [if_pos b2.1, m_failF b2.1]; rfl
      rw [e9]
      exact ⟨-0, J1, rfl, Or.inl ⟨b2, b2m⟩⟩
    · have g10 : (I2 10).toInt = 0 := by rw [b5 10 rfl]; exact h10
      have g8 : (I2 8).toInt ≠ 0 := by rw [b5 8 rfl]; exact (by decide : (1 : Int32).toInt ≠ 0)
      have g6 : I2 6 = I 6 := b5 6 rfl
      have g9 : I2 9 = I 9 := b5 9 rfl
      have g14 : I2 14 = I 14 := b5 14 rfl
      have g16 : I2 16 = I 16 := b5 16 rfl
      have gr : RW1 I2 A := by unfold RW1; rw [g6, g9, g14, g16]; exact hr
      have j6 : (J1 6).toInt = 0 := by rw [e1]; exact h6
      have j11 : J1 11 = I2 9 := by rw [e1, g9]; exact h11
      have hk2 := hand_K hE b6
      have hW2 : WRK I2 J1 (I2 2).toInt := by
        rw [e1]
        exact WRK.mv hW (b5 11 rfl) (b5 12 rfl) (b5 13 rfl) rfl rfl rfl (by omega)
      by_cases c2 : (B0 2 (t + 1)).toInt = 2
      · obtain ⟨J', d1, d2⟩ := sim_int (L := L) hE b6 g10 c2 b3 j6 j11 hB hW2 gr
        have e : nvI I2 = -(I2 3) := by unfold nvI; rw [if_neg g8]
        rw [e, kpA_congr (I := I) (I2 := I2) g6 g14 g16] at d2
        refine ⟨-(I2 3), J', by rw [d1]; rfl, ?_⟩
        rcases d2 with d2 | ⟨I3, d3, p1, p2, p3, p4, p5, p6, p7, p8, p9, p10, p11, p12⟩
        · exact Or.inl ⟨FLT.red b4 d2.1, Md.tr (Md.tr Md.rf (show Md [4] J J1 by rw [e1]; exact Md.up Md.rf rfl) rfl) d2.2 rfl⟩
        · refine Or.inr ⟨I3, t + 1 + 1, by omega, b4.tr d3, p1, p2, p3, ?_, p5, p6, by rw [p7, g6], p8, by rw [p9, g9], by rw [p10, g6, g14], by rw [p11, g16], fun h9 => ?_⟩
          · exact Md.tr (Md.tr Md.rf (show Md [4] J J1 by rw [e1]; exact Md.up Md.rf rfl) rfl) p4 rfl
          · have := p12 h9
            rw [b5 11 rfl] at this
            exact this
      · have e9 : fM12_bounded J1 B L 0 999 = (0, failJ J1 B (t + 1) 1, B, L) := by
          unfold fM12_bounded
          rw [if_neg (by omega), m_is0 j6 b3, hB2, if_neg (show ¬ (B0 2 (t + 1)).toInt = (2 : Int32).toInt from c2), if_pos rfl, m_fail0 j6 b3]; rfl
        rw [e9]
        refine ⟨-0, _, rfl, Or.inl ⟨FLT.red b4 (flt_fail (by decide) (by rw [hB3]; exact hk2.2.1) j11 (xf_syntax g10 ?_)), ?_⟩⟩
        · have hrow2 := a_row hk2.1 (by rw [g6]; exact hi6)
          by_cases c0 : (B0 2 (t + 1)).toInt = 0
          · exact Or.inl ⟨hk2.1.1.mp c0, by rw [g6]; omega⟩
          · refine Or.inr ⟨fun h9 => c0 (hk2.1.1.mpr h9), ?_⟩
            rw [hrow2.1, if_neg]
            intro h9
            rcases h9 with (h9 | h9) | h9
            · exact c2 h9
            · exact g8 h9.1
            · exact g8 h9.2.1
        · exact Md.tr (Md.tr Md.rf (show Md [4] J J1 by rw [e1]; exact Md.up Md.rf rfl) rfl) failJ_md rfl
/-- both stand ahead of a TELL -/
def ST0 (n c : Nat) (pos : Nat → Nat) (A0 B0 : Nat → Nat → Int32) (L0 : Nat → Nat → Int64) (J0 : Nat → Int32) (σ nq : Nat) (I : Nat → Int32) (A : Nat → Nat → Int32) (J : Nat → Int32) (B : Nat → Nat → Int32) (L : Nat → Nat → Int64) (t : Nat) : Prop :=
  BASE n c pos A0 B0 L0 J0 σ I A J B L t ∧ WRK I J (I 2).toInt ∧ DRF σ I A B ∧ QRS n A0 σ nq I A J B L ∧ (I 6).toInt = 0 ∧ I 9 = -2 ∧ J 11 = -2 ∧ (I 8).toInt = 0 ∧ (I 16).toInt = (nq : Int)
/-- how a TELL ends: a FAULT for both, or both ahead of the next -/
def RES (n c : Nat) (pos : Nat → Nat) (A0 B0 : Nat → Nat → Int32) (L0 : Nat → Nat → Int64) (J0 : Nat → Int32) (σ : Nat) (I : Nat → Int32) (A : Nat → Nat → Int32) (t : Nat) (R : Int32 × (Nat → Int32) × (Nat → Nat → Int32) × (Nat → Nat → Int64)) : Prop :=
  ∃ (J' : Nat → Int32) (B' : Nat → Nat → Int32) (L' : Nat → Nat → Int64), R = (0, J', B', L') ∧ Md MJ J0 J' ∧ Md MB B0 B' ∧ Md [7] L0 L' ∧ FRM σ B0 B' ∧ (FLT I A J' ∨ ∃ (I2 : Nat → Int32) (A2 : Nat → Nat → Int32) (t2 nq2 : Nat), t < t2 ∧ Red I A I2 A2 ∧ ST0 n c pos A0 B0 L0 J0 σ nq2 I2 A2 J' B' L' t2)
theorem RES.red {n c : Nat} {pos : Nat → Nat} {A0 B0 : Nat → Nat → Int32} {L0 : Nat → Nat → Int64} {J0 : Nat → Int32} {σ : Nat} {I I1 : Nat → Int32} {A A1 : Nat → Nat → Int32} {t t1 : Nat} {R : Int32 × (Nat → Int32) × (Nat → Nat → Int32) × (Nat → Nat → Int64)} (h : Red I A I1 A1) (ht : t ≤ t1) (h2 : RES n c pos A0 B0 L0 J0 σ I1 A1 t1 R) : RES n c pos A0 B0 L0 J0 σ I A t R := by
  obtain ⟨J', B', L', a1, a2, a3, a4, a5, a6⟩ := h2
  refine ⟨J', B', L', a1, a2, a3, a4, a5, ?_⟩
  rcases a6 with a6 | ⟨I2, A2, t2, nq2, b1, b2, b3⟩
  · exact Or.inl (FLT.red h a6)
  · exact Or.inr ⟨I2, A2, t2, nq2, by omega, h.tr b2, b3⟩
theorem DRF.mv {σ : Nat} {I I2 : Nat → Int32} {A A2 B B2 : Nat → Nat → Int32} (h : DRF σ I A B) (h11 : I2 11 = I 11) (h14 : I2 14 = I 14) (a1 : A2 1 = A 1) (a2 : A2 2 = A 2) (b8 : B2 8 = B 8) (b9 : B2 9 = B 9) (b13 : B2 13 = B 13) (b14 : B2 14 = B 14) (b15 : B2 15 = B 15) (b16 : B2 16 = B 16) : DRF σ I2 A2 B2 := by
  unfold DRF SOK at *
  rw [h11, h14, a1, a2, b8, b9, b13, b14, b15, b16]; exact h
theorem QRS.mv {n : Nat} {A0 : Nat → Nat → Int32} {σ nq : Nat} {I I2 J J2 : Nat → Int32} {A A2 B B2 : Nat → Nat → Int32} {L L2 : Nat → Nat → Int64} (h : QRS n A0 σ nq I A J B L) (h11 : I2 11 = I 11) (j17 : J2 17 = J 17) (a3 : A2 3 = A 3) (a4 : A2 4 = A 4) (a5 : A2 5 = A 5) (a6 : A2 6 = A 6) (b10 : B2 10 = B 10) (b11 : B2 11 = B 11) (b12 : B2 12 = B 12) (l7 : L2 7 = L 7) : QRS n A0 σ nq I2 A2 J2 B2 L2 := by
  unfold QRS QRY NAM at *
  rw [h11, j17, a3, a4, a5, a6, b10, b11, b12, l7]; exact h
/-- a fault that comes changes only what is said of texts without one -/
theorem QRS.weak {n : Nat} {A0 : Nat → Nat → Int32} {σ nq : Nat} {I I2 J : Nat → Int32} {A B : Nat → Nat → Int32} {L : Nat → Nat → Int64} (h : QRS n A0 σ nq I A J B L) (h11 : (I2 11).toInt = 0 → (I 11).toInt = 0) : QRS n A0 σ nq I2 A J B L := by
  obtain ⟨a, b, c, d⟩ := h
  refine ⟨a, b, c, fun q hq => ?_⟩
  obtain ⟨⟨e1, e2, e3, e4⟩, e5, e6⟩ := d q hq
  exact ⟨⟨e1, e2, e3, fun i hi => ⟨(e4 i hi).1, fun h9 => (e4 i hi).2 (h11 h9)⟩⟩, fun h9 => e5 (h11 h9), e6⟩
theorem DRF.weak {σ : Nat} {I I2 : Nat → Int32} {A B : Nat → Nat → Int32} (h : DRF σ I A B) (h14 : I2 14 = I 14) (h11 : (I2 11).toInt = 0 → (I 11).toInt = 0) : DRF σ I2 A B := by
  obtain ⟨a, b, c, d, e, f⟩ := h
  unfold DRF
  rw [h14]
  refine ⟨a, b, c, fun j hj => ?_, e, fun h9 => f (h11 h9)⟩
  rcases d j hj with h9 | h9
  · exact Or.inl h9
  · exact Or.inr ⟨h9.1, fun h8 => h9.2 (h11 h8)⟩
end
section
noncomputable def SBR (σ : Nat) (G : (Nat → Int32) → (Nat → Nat → Int32) → (Nat → Nat → Int64) → (Int32 × (Nat → Int32) × (Nat → Nat → Int32) × (Nat → Nat → Int64))) (J : Nat → Int32) (B : Nat → Nat → Int32) (L : Nat → Nat → Int64) (t : Nat) (i0 : Int32) : Int32 × (Nat → Int32) × (Nat → Nat → Int32) × (Nat → Nat → Int64) :=
  if (B 8 σ).toInt ≠ 160 then (if fM12_is J B L 26 = 0 then f_bdM (fM12_readingTold J B L) (fun y J1 B1 L1 => if (J1 6).toInt ≤ 0 then G (upd J1 11 (J 11 + 1)) (up3 (up3 B1 9 (i0 + B 8 σ).toNatClampNeg y) 8 σ (B 8 σ + 1)) L1 else (0, J1, up3 B1 9 (i0 + B 8 σ).toNatClampNeg y, L1)) else f_bdM (fM12_goesOn J B L) (fun _ J1 B1 L1 => if (J1 6).toInt ≤ 0 then G (upd J1 11 (J 11 + 1)) (up3 (up3 B1 9 (i0 + B 8 σ).toNatClampNeg 100000) 8 σ (B 8 σ + 1)) L1 else (0, J1, up3 B1 9 (i0 + B 8 σ).toNatClampNeg 100000, L1))) else (0, failJ J B t 2, B, L)
theorem series_body {G : (Nat → Int32) → (Nat → Nat → Int32) → (Nat → Nat → Int64) → (Int32 × (Nat → Int32) × (Nat → Nat → Int32) × (Nat → Nat → Int64))} {J Jr : Nat → Int32} {B : Nat → Nat → Int32} {L : Nat → Nat → Int64} {t σ : Nat} (h16 : (Jr 16).toInt = (σ : Int)) (hσ : σ ≤ 1) (h6 : (J 6).toInt = 0) (h4 : (J 4).toInt = (t : Int)) : bM12_tellSeries_5 Jr G J B L = if fM12_isReading J B L = 0 then (if fM12_is J B L 26 = 0 then f_bdM (fM12_must J B L 4) (fun _ J1 B1 L1 => if (J1 6).toInt ≠ 0 then (0, J1, B1, L1) else (0, upd J1 11 (-2), B1, L1)) else SBR σ G J B L t (if σ = 0 then 0 else 160)) else SBR σ G J B L t (if σ = 0 then 0 else 160) := by
  have ef : (failJ J B t 2 6).toInt = 2 := rfl
  have hc : σ = 0 ∨ σ = 1 := by omega
  unfold bM12_tellSeries_5 SBR
  rw [m_fail0 h6 h4]
  rcases hc with e | e
  · subst e
    have e0 : (Jr 16).toInt = 0 := h16
    simp only [f_lt, bdM_mk, ef, h6, e0, ↓reduceIte]
    rfl
  · subst e
    have e0 : (Jr 16).toInt = 1 := h16
    simp only [f_lt, bdM_mk, ef, h6, e0, ↓reduceIte]
    rfl
theorem m_must_go {J : Nat → Int32} {B : Nat → Nat → Int32} {L : Nat → Nat → Int64} {z : Int32} {t : Nat} (h6 : (J 6).toInt = 0) (h4 : (J 4).toInt = (t : Int)) (hK : (B 2 t).toInt = z.toInt) : fM12_must J B L z = fM12_goesOn J B L := by
  rw [m_must0 h6 h4, m_goes h6 h4, if_pos hK]
theorem m_isRd {J : Nat → Int32} {B : Nat → Nat → Int32} {L : Nat → Nat → Int64} {t : Nat} (h6 : (J 6).toInt = 0) (h4 : (J 4).toInt = (t : Int)) : fM12_isReading J B L = if (B 2 t).toInt = 2 ∨ (B 2 t).toInt = 9 then 1 else 0 := by
  unfold fM12_isReading
  rw [m_is0 h6 h4, m_is0 h6 h4]
  by_cases c9 : (B 2 t).toInt = 9
  · rw [if_pos (show (B 2 t).toInt = (9 : Int32).toInt from c9), if_neg (by decide), if_pos (Or.inr c9)]
  · rw [if_neg (show ¬ (B 2 t).toInt = (9 : Int32).toInt from c9), if_pos rfl]
    by_cases c2 : (B 2 t).toInt = 2
    · rw [if_pos (show (B 2 t).toInt = (2 : Int32).toInt from c2), if_neg (by decide), if_pos (Or.inl c2)]
    · rw [if_neg (show ¬ (B 2 t).toInt = (2 : Int32).toInt from c2), if_pos rfl, if_neg (by omega)]
theorem FRM.up {σ : Nat} {B0 B : Nat → Nat → Int32} {a i : Nat} {v : Int32} (h : FRM σ B0 B) (h10 : a ≠ 10) (h11 : a ≠ 11) (h12 : a ≠ 12) : FRM σ B0 (up3 B a i v) := by
  unfold FRM
  rw [up3_o (by omega), up3_o (by omega), up3_o (by omega)]; exact h
theorem x_room0 {I : Nat → Int32} {A : Nat → Nat → Int32} (h : (I 4).toInt ≤ 400 → fX5_hasRoom I A = 0) : fX5_hasRoom I A = 0 := by
  by_cases c : (I 4).toInt ≤ 400
  · exact h c
  · unfold fX5_hasRoom
    rw [if_neg c]
/-- one more place in the draft -/
theorem DRF.add {σ : Nat} {I I2 : Nat → Int32} {A B : Nat → Nat → Int32} {y w i0 : Int32} (h : DRF σ I A B) (h14 : (I 14).toInt < 160) (e14 : I2 14 = I 14 + 1) (h11 : (I2 11).toInt = 0 → (I 11).toInt = 0) (hi : i0.toInt = 160 * (σ : Int)) (hσ : σ ≤ 1) (hv : CV (I2 11) y w) : DRF σ I2 (up3 A 1 (I 14).toNatClampNeg y) (up3 (up3 B 9 (i0 + B 8 σ).toNatClampNeg w) 8 σ (B 8 σ + 1)) := by
  obtain ⟨a, b, c, d, e, f⟩ := h
  have e1 : (I 14 + 1).toInt = (I 14).toInt + 1 := i32_inc (by omega)
  have ei : (i0 + B 8 σ).toInt = 160 * (σ : Int) + (I 14).toInt := by rw [a, i32_add rfl hi rfl (by omega) (by omega)]
  have hc := cl_int (y := i0 + B 8 σ) (by omega)
  have hc2 := cl_int (y := I 14) b
  refine ⟨?_, by rw [e14]; omega, by rw [e14]; omega, fun j hj => ?_, ?_, fun h9 => ?_⟩
  · rw [e14, up3_at rfl, a]
  · rw [e14] at hj
    rw [up3_o (show (9 : Nat) ≠ 8 by decide)]
    by_cases c9 : (j : Int) = (I 14).toInt
    · rw [up3_at (by omega), up3_at (by omega)]; exact hv
    · rw [up3_ne (by omega), up3_ne (by omega)]
      rcases d j (by omega) with h9 | h9
      · exact Or.inl h9
      · exact Or.inr ⟨h9.1, fun h8 => h9.2 (h11 h8)⟩
  · rw [up3_o (show (13 : Nat) ≠ 8 by decide), up3_o (show (13 : Nat) ≠ 9 by decide), up3_o (show (14 : Nat) ≠ 8 by decide), up3_o (show (14 : Nat) ≠ 9 by decide), up3_o (show (15 : Nat) ≠ 8 by decide), up3_o (show (15 : Nat) ≠ 9 by decide), up3_o (show (16 : Nat) ≠ 8 by decide), up3_o (show (16 : Nat) ≠ 9 by decide), up3_o (show (2 : Nat) ≠ 1 by decide)]; exact e
  · unfold SOK
    rw [up3_o (show (2 : Nat) ≠ 1 by decide)]; exact f (h11 h9)
theorem sim_series {n c : Nat} {pos : Nat → Nat} {A0 B0 : Nat → Nat → Int32} {L0 : Nat → Nat → Int64} {J0 Jr : Nat → Int32} {σ nq : Nat} (hE : ENV n c pos A0 B0 L0) (h16 : (Jr 16).toInt = (σ : Int)) :
    ∀ (m : Nat) (I : Nat → Int32) (A : Nat → Nat → Int32) (J : Nat → Int32) (B : Nat → Nat → Int32) (L : Nat → Nat → Int64) (t : Nat), BASE n c pos A0 B0 L0 J0 σ I A J B L t → WRK I J (I 2).toInt → DRF σ I A B → QRS n A0 σ nq I A J B L → (I 6).toInt = 1 → (I 8).toInt = 0 → J 11 = I 9 → (I 16).toInt = (nq : Int) → 402 - t < m → RES n c pos A0 B0 L0 J0 σ I A t (itr_IAL dfM (bM12_tellSeries_5 Jr) m J B L) := by
  intro m
  induction m with
  | zero => intro I A J B L t _ _ _ _ _ _ _ _ h; omega
  | succ m ih =>
    intro I A J B L t hB hW hD hQ i6 i8 j11 i16 hm
    show RES n c pos A0 B0 L0 J0 σ I A t (bM12_tellSeries_5 Jr (itr_IAL dfM (bM12_tellSeries_5 Jr) m) J B L)
    obtain ⟨G, hG⟩ : ∃ G, G = itr_IAL dfM (bM12_tellSeries_5 Jr) m := ⟨_, rfl⟩
    rw [← hG] at ih ⊢
    obtain ⟨hH, mJ, mB, mL, fr, j4, j6, i10, js, hσ⟩ := hB
    have hk := hand_K hE hH
    have hB2 : B 2 = B0 2 := mB 2 rfl
    have hB3 : B 3 = B0 3 := mB 3 rfl
    have hrow := a_row hk.1 (Or.inl i6)
    have ht4 : t ≤ 400 := hH.2.2.2.2.1
    have hi0 : (if σ = 0 then (0 : Int32) else 160).toInt = 160 * (σ : Int) := by
      have hc : σ = 0 ∨ σ = 1 := by omega
      rcases hc with e | e <;> rw [e] <;> rfl
    rw [series_body h16 hσ j6 j4, m_isRd j6 j4, m_is0 j6 j4, hB2]
    have d14 := hD.1
    have d0 := hD.2.1
    -- no room
    have noroom : ((B0 2 t).toInt = 2 ∨ (B0 2 t).toInt = 9 ∨ (B0 2 t).toInt = 26) → (I 14).toInt = 160 → RES n c pos A0 B0 L0 J0 σ I A t (0, failJ J B t 2, B, L) := fun hK h9 => by
      refine ⟨_, _, _, rfl, Md.tr mJ failJ_md rfl, mB, mL, fr, Or.inl (flt_fail (by decide) (by rw [hB3]; exact hk.2.1) j11 (xf_room i10 (fun h8 => by have := hk.1.1.mpr h8; omega) ?_ ?_))⟩
      · rw [hrow.1, if_pos]
        rcases hK with h8 | h8 | h8
        · exact Or.inl (Or.inl h8)
        · exact Or.inl (Or.inr ⟨i8, Or.inl h8⟩)
        · exact Or.inr ⟨i6, i8, h8⟩
      · exact x_room0 (fun h8 => by rw [hrow.2.1 h8, if_neg (by omega)])
    by_cases cR : (B0 2 t).toInt = 2 ∨ (B0 2 t).toInt = 9
    · rw [if_pos cR, if_neg (by decide)]
      unfold SBR
      rw [d14, m_is0 j6 j4, hB2, if_neg (show ¬ (B0 2 t).toInt = (26 : Int32).toInt from by have : (26 : Int32).toInt = 26 := rfl; omega)]
      by_cases c160 : (I 14).toInt = 160
      · rw [if_neg (fun h9 => h9 c160)]
        exact noroom (by omega) c160
      · rw [if_pos c160, if_pos rfl]
        have hD2 := hD.2.2.1
        obtain ⟨y, J', b1, b2⟩ := sim_reading (L := L) hE hH i10 cR j4 j6 j11 i8 mB hW (Or.inl ⟨i6, d0, by omega⟩)
        rw [b1, bdM_mk]
        rcases b2 with ⟨b2, b2m⟩ | ⟨I2, t2, b3, b4, p1, p2, p3, p4, p5, p6, p7, p8, p9, p10, p11, p12⟩
        · rw [if_neg (by have := b2.1; omega)]
          exact ⟨_, _, _, rfl, Md.tr mJ b2m rfl, Md.up3 mB rfl, mL, fr.up (by decide) (by decide) (by decide), Or.inl b2⟩
        · rw [if_pos (by omega)]
          have eA : kpA I A y = up3 A 1 (I 14).toNatClampNeg y := by unfold kpA; rw [if_pos i6]
          rw [eA] at b4 p1
          rw [if_pos i6] at p10
          refine RES.red b4 (Nat.le_of_lt b3) (ih I2 _ _ _ _ t2 ⟨p1, Md.up (Md.tr mJ p4 rfl) rfl, Md.up3 (Md.up3 mB rfl) rfl, mL, (fr.up (by decide) (by decide) (by decide)).up (by decide) (by decide) (by decide), p2, p3, p6, js, hσ⟩ ?_ ?_ ?_ (by rw [p7]; exact i6) p8 ?_ (by rw [p11]; exact i16) (by omega))
          · exact WRK.mv p5 rfl rfl rfl rfl rfl rfl (Int.le_refl _)
          · have hx := hD.add (w := y) (by omega) p10 (fun h9 => (p12 h9).1) hi0 hσ (Or.inr ⟨rfl, fun h9 => (p12 h9).2⟩)
            rw [d14] at hx
            exact hx
          · refine QRS.mv (I := I2) (A := A) (J := J) (B := B) (L := L) (hQ.weak (fun h9 => (p12 h9).1)) rfl ?_ rfl rfl rfl rfl rfl rfl rfl rfl
            exact p4 17 rfl
          · show J 11 + 1 = I2 9
            rw [p9, j11]
    · rw [if_neg cR, if_pos rfl]
      by_cases c26 : (B0 2 t).toInt = 26
      · rw [if_pos (show (B0 2 t).toInt = (26 : Int32).toInt from c26), if_neg (by decide)]
        unfold SBR
        rw [d14, m_is0 j6 j4, hB2, if_pos (show (B0 2 t).toInt = (26 : Int32).toInt from c26)]
        by_cases c160 : (I 14).toInt = 160
        · rw [if_neg (fun h9 => h9 c160)]
          exact noroom (by omega) c160
        · rw [if_pos c160, if_neg (by decide)]
          have hD2 := hD.2.2.1
          have i1 : (I 1).toInt = 1 := hk.1.2.2.2.2.1.mp (Or.inr (by omega))
          have eA : kpA I A (-1000) = up3 A 1 (I 14).toNatClampNeg (-1000) := by unfold kpA; rw [if_pos i6]
          have ha : fX5_accept I A = (0, kpI I, up3 A 1 (I 14).toNatClampNeg (-1000)) := by
            rw [hrow.2.2, x_gap i1 i6 ⟨d0, by omega⟩, ← eA]; rfl
          obtain ⟨J', b1, b2⟩ := sim_go (J := J) (L := L) hE hH i10 (by omega) j4 j6 j11 hB3 (by rw [hrow.1, if_pos (Or.inr ⟨i6, i8, c26⟩)]) (fun h9 => by rw [hrow.2.1 h9, if_pos (Or.inr (Or.inl ⟨i6, by omega⟩))]) ha (kpI_md 0 rfl) (kpI_md 4 rfl) (kpI_md 5 rfl) rfl (Md.tr Md.rf kpI_md rfl) (Md.up3 Md.rf rfl)
          rw [b1, bdM_mk]
          rcases b2 with ⟨b2, b2m⟩ | ⟨c4, e1, b3, I2, b4, b5, b6, b7⟩
          · rw [if_neg (by have := b2.1; omega)]
            exact ⟨_, _, _, rfl, Md.tr mJ b2m rfl, Md.up3 mB rfl, mL, fr.up (by decide) (by decide) (by decide), Or.inl b2⟩
          · have j6' : (J' 6).toInt = 0 := by rw [e1]; exact j6
            rw [if_pos (by omega)]
            have g14 : I2 14 = I 14 + 1 := by rw [b5 14 rfl, kpI_at.2.2, if_pos i6]
            have g11 : I2 11 = I 11 := (b5 11 rfl).trans (kpI_md 11 rfl)
            refine RES.red b4 (Nat.le_succ t) (ih I2 _ _ _ _ (t + 1) ⟨b6, ?_, Md.up3 (Md.up3 mB rfl) rfl, mL, (fr.up (by decide) (by decide) (by decide)).up (by decide) (by decide) (by decide), b3, j6', ?_, js, hσ⟩ ?_ ?_ ?_ ?_ ?_ ?_ ?_ (by omega))
            · rw [e1]; exact Md.up (Md.up mJ rfl) rfl
            · rw [b5 10 rfl, kpI_md 10 rfl]; exact i10
            · rw [e1]; exact WRK.mv hW g11 ((b5 12 rfl).trans (kpI_md 12 rfl)) ((b5 13 rfl).trans (kpI_md 13 rfl)) rfl rfl rfl (by omega)
            · have hx := hD.add (w := 100000) (by omega) g14 (fun h9 => by rw [g11] at h9; exact h9) hi0 hσ (Or.inl ⟨rfl, rfl⟩)
              rw [d14] at hx
              exact hx
            · refine QRS.mv (I := I) (A := A) (J := J) (B := B) (L := L) hQ g11 ?_ rfl rfl rfl rfl rfl rfl rfl rfl
              rw [e1]; rfl
            · rw [b5 6 rfl, kpI_md 6 rfl]; exact i6
            · rw [b5 8 rfl, kpI_at.1]; rfl
            · show J 11 + 1 = I2 9
              rw [b5 9 rfl, kpI_at.2.1, j11]
            · rw [b5 16 rfl, kpI_md 16 rfl]; exact i16
      · rw [if_neg (show ¬ (B0 2 t).toInt = (26 : Int32).toInt from c26), if_pos rfl]
        by_cases c4 : (B0 2 t).toInt = 4
        · rw [m_must_go (z := 4) j6 j4 (by rw [hB2]; exact c4)]
          have i1 : (I 1).toInt = 3 := hk.1.2.2.1.mp c4
          have ha : fX5_accept I A = (0, upd (upd I 6 0) 9 (-2), A) := by
            rw [hrow.2.2, x_semi i1, if_neg (by omega)]; rfl
          obtain ⟨J', b1, b2⟩ := sim_go (J := J) (L := L) hE hH i10 (by omega) j4 j6 j11 hB3 (by rw [hrow.1, if_pos (Or.inl (Or.inr ⟨i8, Or.inr c4⟩))]) (fun h9 => by rw [hrow.2.1 h9, if_pos (Or.inl c4)]) ha rfl rfl rfl rfl (Md.up (Md.up Md.rf rfl) rfl) Md.rf
          rw [b1, bdM_mk]
          rcases b2 with ⟨b2, b2m⟩ | ⟨c4, e1, b3, I2, b4, b5, b6, b7⟩
          · rw [if_pos (by have := b2.1; omega)]
            exact ⟨_, _, _, rfl, Md.tr mJ b2m rfl, mB, mL, fr, Or.inl b2⟩
          · have j6' : (J' 6).toInt = 0 := by rw [e1]; exact j6
            rw [if_neg (by omega)]
            have mJ' : Md MJ J0 (upd J' 11 (-2)) := by rw [e1]; exact Md.up (Md.up mJ rfl) rfl
            refine ⟨_, _, _, rfl, mJ', mB, mL, fr, Or.inr ⟨I2, A, t + 1, nq, by omega, b4, ⟨b6, mJ', mB, mL, fr, b3, j6', ?_, js, hσ⟩, ?_, ?_, ?_, ?_, ?_, rfl, ?_, ?_⟩⟩
            · rw [b5 10 rfl]; exact i10
            · rw [e1]; exact WRK.mv hW (b5 11 rfl) (b5 12 rfl) (b5 13 rfl) rfl rfl rfl (by omega)
            · exact hD.mv (b5 11 rfl) (b5 14 rfl) rfl rfl rfl rfl rfl rfl rfl rfl
            · exact hQ.mv (b5 11 rfl) (by rw [e1]; rfl) rfl rfl rfl rfl rfl rfl rfl rfl
            · rw [b5 6 rfl]; rfl
            · rw [b5 9 rfl]; rfl
            · rw [b5 8 rfl]; exact i8
            · rw [b5 16 rfl]; exact i16
        · rw [m_must0 j6 j4, hB2, if_neg (show ¬ (B0 2 t).toInt = (4 : Int32).toInt from c4), bdM_mk, if_pos (show (failJ J B t 1 6).toInt ≠ 0 from (by decide : (1 : Int32).toInt ≠ 0))]
          refine ⟨_, _, _, rfl, Md.tr mJ failJ_md rfl, mB, mL, fr, Or.inl (flt_fail (by decide) (by rw [hB3]; exact hk.2.1) j11 (xf_syntax i10 ?_))⟩
          by_cases c0 : (B0 2 t).toInt = 0
          · exact Or.inl ⟨hk.1.1.mp c0, by omega⟩
          · refine Or.inr ⟨fun h9 => c0 (hk.1.1.mpr h9), ?_⟩
            rw [hrow.1, if_neg]
            intro h9
            rcases h9 with (h9 | h9) | h9
            · exact cR (Or.inl h9)
            · rcases h9.2 with h8 | h8
              · exact cR (Or.inr h8)
              · exact c4 h8
            · exact c26 h9.2.2
end
section
/-- the ';' behind a number or a choice -/
theorem sim_end {n c t : Nat} {pos : Nat → Nat} {A0 B0 : Nat → Nat → Int32} {L0 : Nat → Nat → Int64} {I J : Nat → Int32} {A B : Nat → Nat → Int32} {L : Nat → Nat → Int64} (hE : ENV n c pos A0 B0 L0) (hH : HAND n c pos A0 I A t) (i10 : (I 10).toInt = 0) (i6 : (I 6).toInt = 6) (j4 : (J 4).toInt = (t : Int)) (j6 : (J 6).toInt = 0) (j11 : J 11 = I 9) (hB : Md MB B0 B) : ∃ J' : Nat → Int32, fM12_must J B L 4 = (0, J', B, L) ∧ ((FLT I A J' ∧ Md MJ J J') ∨ (t ≠ 400 ∧ J' = upd J 4 (J 4 + 1) ∧ (J' 4).toInt = ((t + 1 : Nat) : Int) ∧ ∃ I2 : Nat → Int32, Red I A I2 A ∧ Md [1, 2, 3, 4, 5] (upd I 6 0) I2 ∧ HAND n c pos A0 I2 A (t + 1) ∧ (I 2).toInt < (I2 2).toInt)) := by
  have hk := hand_K hE hH
  have hB2 : B 2 = B0 2 := hB 2 rfl
  have hB3 : B 3 = B0 3 := hB 3 rfl
  have hm : fX5_mayStand I A = if (B0 2 t).toInt = 4 then 1 else 0 := by
    unfold fX5_mayStand
    rw [if_neg (by omega), if_neg (by omega), if_neg (by omega), if_neg (by omega), if_neg (by omega), if_neg (by omega)]
    have k3 := hk.1.2.2.1
    by_cases h : (B0 2 t).toInt = 4
    · rw [if_pos h, if_neg (fun h9 => h9 (k3.mp h))]
    · rw [if_neg h, if_pos (fun h9 => h (k3.mpr h9))]
  by_cases c4 : (B0 2 t).toInt = 4
  · rw [m_must_go (z := 4) j6 j4 (by rw [hB2]; exact c4)]
    rw [if_pos c4] at hm
    exact sim_go (J := J) (L := L) hE hH i10 (by omega) j4 j6 j11 hB3 hm (fun h9 => by
      unfold fX5_hasRoom
      rw [if_pos h9, if_neg (by omega), if_neg (by omega), if_neg (by omega), if_neg (by omega)]) (by
      unfold fX5_accept
      rw [if_neg (by omega), if_neg (by omega), if_neg (by omega), if_neg (by omega), if_neg (by omega), if_neg (by omega), if_pos i6]) rfl rfl rfl rfl (Md.up Md.rf rfl) Md.rf
  · rw [m_must0 j6 j4, hB2, if_neg (show ¬ (B0 2 t).toInt = (4 : Int32).toInt from c4)]
    rw [if_neg c4] at hm
    refine ⟨_, rfl, Or.inl ⟨flt_fail (by decide) (by rw [hB3]; exact hk.2.1) j11 (xf_syntax i10 ?_), failJ_md⟩⟩
    by_cases c0 : (B0 2 t).toInt = 0
    · exact Or.inl ⟨hk.1.1.mp c0, by omega⟩
    · exact Or.inr ⟨fun h9 => c0 (hk.1.1.mpr h9), hm⟩
def loY (y : Int32) : Int := if y.toInt = 3 then 1 else 0
def hiY (y : Int32) : Int := if y.toInt = 3 then 99 else 15
theorem x_allows {I : Nat → Int32} {A : Nat → Nat → Int32} {y v : Int32} (hy : y.toInt = 0 ∨ y.toInt = 3) : fX7_allows I A y v = if loY y ≤ v.toInt ∧ v.toInt ≤ hiY y then 1 else 0 := by
  unfold fX7_allows loY hiY
  rcases hy with hy | hy
  · rw [if_neg (by omega), if_neg (by omega), if_pos hy, if_neg (show ¬ y.toInt = 3 by omega), if_neg (show ¬ y.toInt = 3 by omega)]
    by_cases c1 : v.toInt < 0
    · rw [if_pos c1, if_neg (by omega)]
    · rw [if_neg c1]
      by_cases c2 : 15 < v.toInt
      · rw [if_pos c2, if_neg (by omega)]
      · rw [if_neg c2, if_pos (by omega)]
  · rw [if_neg (by omega), if_neg (by omega), if_neg (by omega), if_neg (by omega), if_neg (by omega), if_pos hy, if_pos hy, if_pos hy]
    by_cases c1 : v.toInt < 1
    · rw [if_pos c1, if_neg (by omega)]
    · rw [if_neg c1]
      by_cases c2 : 99 < v.toInt
      · rw [if_pos c2, if_neg (by omega)]
      · rw [if_neg c2, if_pos (by omega)]
theorem x_put {I : Nat → Int32} {A : Nat → Nat → Int32} {y v : Int32} (h0 : 0 ≤ y.toInt) (h4 : y.toInt < 4) : fX7_put I A y v = (0, I, up3 A 2 y.toNatClampNeg v) := by
  unfold fX7_put
  rw [if_neg (by omega), if_neg (by omega)]
def mnI (I : Nat → Int32) : Nat → Int32 := if loY (I 7) ≤ (I 3).toInt ∧ (I 3).toInt ≤ hiY (I 7) then I else markI I 5
theorem mnI_md {I : Nat → Int32} : Md [11, 12, 13] I (mnI I) := by
  unfold mnI
  by_cases c : loY (I 7) ≤ (I 3).toInt ∧ (I 3).toInt ≤ hiY (I 7)
  · rw [if_pos c]; exact Md.rf
  · rw [if_neg c]; exact markI_md
theorem x_number {I : Nat → Int32} {A : Nat → Nat → Int32} (hy : (I 7).toInt = 0 ∨ (I 7).toInt = 3) : fX5_acceptNumber I A = (0, upd (mnI I) 6 6, up3 A 2 (I 7).toNatClampNeg (I 3)) := by
  unfold fX5_acceptNumber mnI
  rw [x_allows hy]
  by_cases c : loY (I 7) ≤ (I 3).toInt ∧ (I 3).toInt ≤ hiY (I 7)
  · rw [if_pos c, if_neg (by decide), if_pos c, x_put (by omega) (by omega)]; rfl
  · rw [if_neg c, if_pos rfl, if_neg c, x_mark]
    show f_bdX (fX7_put (markI I 5) A (I 7) (I 3)) (fun _ I2 A2 => (0, upd I2 6 6, A2)) = _
    rw [x_put (by omega) (by omega)]; rfl
/-- what stands behind a TELL of a number or of a choice -/
def PT (n c : Nat) (pos : Nat → Nat) (A0 : Nat → Nat → Int32) (I : Nat → Int32) (A1 : Nat → Nat → Int32) (J I2 J2 : Nat → Int32) (t2 : Nat) (ok : Prop) : Prop :=
  HAND n c pos A0 I2 A1 t2 ∧ (J2 4).toInt = (t2 : Int) ∧ (J2 6).toInt = 0 ∧ Md [4, 8, 9, 13] J J2 ∧ WRK I2 J2 (I2 2).toInt ∧ (I2 10).toInt = 0 ∧ (I2 6).toInt = 0 ∧ I2 8 = I 8 ∧ I2 9 = I 9 ∧ I2 14 = I 14 ∧ I2 16 = I 16 ∧ ((I2 11).toInt = 0 → (I 11).toInt = 0 ∧ ok)
theorem m_boundF {J : Nat → Int32} {B : Nat → Nat → Int32} {L : Nat → Nat → Int64} {z w : Int32} (h : 0 < (J 6).toInt) : fM12_bounded J B L z w = (z, J, B, L) := by
  unfold fM12_bounded
  rw [if_pos h, m_failF h]; rfl
theorem sim_num {n c t : Nat} {pos : Nat → Nat} {A0 B0 : Nat → Nat → Int32} {L0 : Nat → Nat → Int64} {I J : Nat → Int32} {A B : Nat → Nat → Int32} {L : Nat → Nat → Int64} {lo hi : Int32} (hE : ENV n c pos A0 B0 L0) (hH : HAND n c pos A0 I A t) (i10 : (I 10).toInt = 0) (i6 : (I 6).toInt = 4) (hy : (I 7).toInt = 0 ∨ (I 7).toInt = 3) (hlo : lo.toInt = loY (I 7)) (hhi : hi.toInt = hiY (I 7)) (j4 : (J 4).toInt = (t : Int)) (j6 : (J 6).toInt = 0) (j11 : J 11 = I 9) (hB : Md MB B0 B) (hW : WRK I J (I 2).toInt) : ∃ (v : Int32) (J' : Nat → Int32), f_bdM (fM12_bounded J B L lo hi) (fun y J1 B1 L1 => f_bdM (fM12_must J1 B1 L1 4) (fun _ J2 B2 L2 => (y, J2, B2, L2))) = (v, J', B, L) ∧ ((FLT I A J' ∧ Md MJ J J') ∨ ∃ (I2 : Nat → Int32) (t2 : Nat), t < t2 ∧ Red I A I2 (up3 A 2 (I 7).toNatClampNeg v) ∧ PT n c pos A0 I (up3 A 2 (I 7).toNatClampNeg v) J I2 J' t2 (loY (I 7) ≤ v.toInt ∧ v.toInt ≤ hiY (I 7))) := by
  have hk := hand_K hE hH
  have hB2 : B 2 = B0 2 := hB 2 rfl
  have hB3 : B 3 = B0 3 := hB 3 rfl
  have hB4 : B 4 = B0 4 := hB 4 rfl
  have hm : fX5_mayStand I A = if (B0 2 t).toInt = 2 then 1 else 0 := by
    unfold fX5_mayStand
    rw [if_neg (by omega), if_neg (by omega), if_neg (by omega), if_neg (by omega), if_pos i6]
    have k3 := hk.1.2.1
    by_cases h : (B0 2 t).toInt = 2
    · rw [if_pos h, if_neg (fun h9 => h9 (k3.mp h))]
    · rw [if_neg h, if_pos (fun h9 => h (k3.mpr h9))]
  by_cases c2 : (B0 2 t).toInt = 2
  · rw [if_pos c2] at hm
    obtain ⟨v1, v2, v3⟩ := hk.2.2.1 c2
    have hr : (I 4).toInt ≤ 400 → fX5_hasRoom I A = 1 := fun h9 => by
      unfold fX5_hasRoom
      rw [if_pos h9, if_neg (by omega), if_neg (by omega), if_neg (by omega), if_neg (by omega)]
    have ha : fX5_accept I A = (0, upd (mnI I) 6 6, up3 A 2 (I 7).toNatClampNeg (I 3)) := by
      unfold fX5_accept
      rw [if_neg (by omega), if_neg (by omega), if_neg (by omega), if_neg (by omega), if_pos i6, x_number hy]; rfl
    have M0 : Md [6, 11, 12, 13] I (upd (mnI I) 6 6) := Md.up (Md.tr Md.rf mnI_md rfl) rfl
    have hM : ∀ J1 : Nat → Int32, Md [8, 9, 13] J J1 → WRK (mnI I) J1 ((I 2).toInt + 1) → ∃ (v : Int32) (J' : Nat → Int32), f_bdM (fM12_goesOn J1 B L) (fun _ J2 B2 L2 => f_bdM (fM12_must J2 B2 L2 4) (fun _ J3 B3 L3 => (I 3, J3, B3, L3))) = (v, J', B, L) ∧ ((FLT I A J' ∧ Md MJ J J') ∨ ∃ (I2 : Nat → Int32) (t2 : Nat), t < t2 ∧ Red I A I2 (up3 A 2 (I 7).toNatClampNeg v) ∧ PT n c pos A0 I (up3 A 2 (I 7).toNatClampNeg v) J I2 J' t2 (loY (I 7) ≤ v.toInt ∧ v.toInt ≤ hiY (I 7))) := by
      intro J1 g1 g2
      obtain ⟨J2, b1, b2⟩ := sim_go (J := J1) (L := L) hE hH i10 (by omega) (by rw [g1 4 rfl]; exact j4) (by rw [g1 6 rfl]; exact j6) (by rw [g1 11 rfl]; exact j11) hB3 hm hr ha (M0 0 rfl) (M0 4 rfl) (M0 5 rfl) rfl (Md.tr Md.rf M0 rfl) (Md.up3 Md.rf rfl)
      rw [b1, bdM_mk]
      rcases b2 with ⟨b2, b2m⟩ | ⟨c4, e1, b3, I2, b4, b5, b6, b7⟩
      · rw [m_mustF b2.1]
        exact ⟨I 3, J2, rfl, Or.inl ⟨b2, Md.tr (Md.tr Md.rf g1 rfl) b2m rfl⟩⟩
      · have k6 : (J2 6).toInt = 0 := by rw [e1]; show (J1 6).toInt = 0; rw [g1 6 rfl]; exact j6
        have k11 : J2 11 = I2 9 := by
          rw [e1, b5 9 rfl, M0 9 rfl]
          show J1 11 = I 9
          rw [g1 11 rfl]; exact j11
        have e11 : I2 11 = mnI I 11 := b5 11 rfl
        have e12 : I2 12 = mnI I 12 := b5 12 rfl
        have e13 : I2 13 = mnI I 13 := b5 13 rfl
        have hW2 : WRK I2 J2 (I2 2).toInt := by rw [e1]; exact WRK.mv g2 e11 e12 e13 rfl rfl rfl (by omega)
        obtain ⟨J3, d1, d2⟩ := sim_end (J := J2) (L := L) hE b6 (by rw [b5 10 rfl, M0 10 rfl]; exact i10) (by rw [b5 6 rfl]; rfl) b3 k6 k11 hB
        rw [d1]
        have mJ2 : Md [4, 8, 9, 13] J J2 := by rw [e1]; exact Md.up (Md.tr Md.rf g1 rfl) rfl
        refine ⟨I 3, J3, rfl, ?_⟩
        rcases d2 with ⟨d2, d2m⟩ | ⟨c4', e2, d3, I3, d4, d5, d6, d7⟩
        · exact Or.inl ⟨FLT.red b4 d2, Md.tr (Md.tr Md.rf mJ2 rfl) d2m rfl⟩
        · refine Or.inr ⟨I3, t + 1 + 1, by omega, b4.tr d4, d6, d3, by rw [e2]; exact k6, by rw [e2]; exact Md.up mJ2 rfl, ?_, ?_, ?_, ?_, ?_, ?_, ?_, ?_⟩
          · rw [e2]; exact WRK.mv hW2 (d5 11 rfl) (d5 12 rfl) (d5 13 rfl) rfl rfl rfl (by omega)
          · rw [d5 10 rfl]; show (I2 10).toInt = 0; rw [b5 10 rfl, M0 10 rfl]; exact i10
          · rw [d5 6 rfl]; rfl
          · rw [d5 8 rfl]; show I2 8 = I 8; rw [b5 8 rfl, M0 8 rfl]
          · rw [d5 9 rfl]; show I2 9 = I 9; rw [b5 9 rfl, M0 9 rfl]
          · rw [d5 14 rfl]; show I2 14 = I 14; rw [b5 14 rfl, M0 14 rfl]
          · rw [d5 16 rfl]; show I2 16 = I 16; rw [b5 16 rfl, M0 16 rfl]
          · rw [d5 11 rfl]
            show (I2 11).toInt = 0 → _
            rw [e11]
            unfold mnI
            by_cases c9 : loY (I 7) ≤ (I 3).toInt ∧ (I 3).toInt ≤ hiY (I 7)
            · rw [if_pos c9]; exact fun h9 => ⟨h9, c9⟩
            · rw [if_neg c9]
              unfold markI
              by_cases c8 : (I 11).toInt ≠ 0
              · rw [if_pos c8]; exact fun h9 => absurd h9 c8
              · rw [if_neg c8]
                exact fun h9 => absurd (show (5 : Int32).toInt = 0 from h9) (by decide)
    unfold fM12_bounded
    rw [if_neg (by omega), m_is0 j6 j4, hB2, if_pos (show (B0 2 t).toInt = (2 : Int32).toInt from c2), if_neg (by decide), clN j4, hB4, v1]
    have bad : ¬ (loY (I 7) ≤ (I 3).toInt ∧ (I 3).toInt ≤ hiY (I 7)) → ∃ (v : Int32) (J' : Nat → Int32), f_bdM (f_bdM (fM12_wrong J B L 5 (J 4)) (fun _ J1 B1 L1 => f_bdM (fM12_goesOn J1 B1 L1) (fun _ J2 B2 L2 => (I 3, J2, B2, L2)))) (fun y J1 B1 L1 => f_bdM (fM12_must J1 B1 L1 4) (fun _ J2 B2 L2 => (y, J2, B2, L2))) = (v, J', B, L) ∧ ((FLT I A J' ∧ Md MJ J J') ∨ ∃ (I2 : Nat → Int32) (t2 : Nat), t < t2 ∧ Red I A I2 (up3 A 2 (I 7).toNatClampNeg v) ∧ PT n c pos A0 I (up3 A 2 (I 7).toNatClampNeg v) J I2 J' t2 (loY (I 7) ≤ v.toInt ∧ v.toInt ≤ hiY (I 7))) := fun hb => by
      obtain ⟨J1, d1, d2, d3⟩ := m_wrong (B := B) (L := L) (k := 5) (z := J 4) hW (by omega) (fun h9 h8 => by have := (hW.2.2.2 h9).2.2; omega) j6 j11 (by rw [clN j4, hB3]; exact hk.2.1) (by decide)
      rw [d1]
      exact hM J1 d2 (by unfold mnI; rw [if_neg hb]; exact d3)
    by_cases c1 : (I 3).toInt < lo.toInt
    · rw [if_pos c1]
      exact bad (by omega)
    · rw [if_neg c1]
      by_cases c3 : (I 3).toInt ≤ hi.toInt
      · rw [if_pos c3]
        exact hM J Md.rf (by unfold mnI; rw [if_pos (by omega)]; exact WRK.mv hW rfl rfl rfl rfl rfl rfl (by omega))
      · rw [if_neg c3]
        exact bad (by omega)
  · rw [if_neg c2] at hm
    have e9 : fM12_bounded J B L lo hi = (lo, failJ J B t 1, B, L) := by
      unfold fM12_bounded
      rw [if_neg (by omega), m_is0 j6 j4, hB2, if_neg (show ¬ (B0 2 t).toInt = (2 : Int32).toInt from c2), if_pos rfl, m_fail0 j6 j4]; rfl
    rw [e9, bdM_mk, m_mustF (show 0 < (failJ J B t 1 6).toInt from (by decide : 0 < (1 : Int32).toInt))]
    refine ⟨lo, _, rfl, Or.inl ⟨flt_fail (by decide) (by rw [hB3]; exact hk.2.1) j11 (xf_syntax i10 ?_), failJ_md⟩⟩
    by_cases c0 : (B0 2 t).toInt = 0
    · exact Or.inl ⟨hk.1.1.mp c0, by omega⟩
    · exact Or.inr ⟨fun h9 => c0 (hk.1.1.mpr h9), hm⟩
end
section
theorem levX_at {K : Int} : (levX K).toInt = if 27 ≤ K ∧ K ≤ 30 then K - 27 else -1 := by
  unfold levX
  by_cases h0 : K = 27
  · rw [if_pos h0, if_pos (by omega), h0]; rfl
  · rw [if_neg h0]
    by_cases h1 : K = 28
    · rw [if_pos h1, if_pos (by omega), h1]; rfl
    · rw [if_neg h1]
      by_cases h2 : K = 29
      · rw [if_pos h2, if_pos (by omega), h2]; rfl
      · rw [if_neg h2]
        by_cases h3 : K = 30
        · rw [if_pos h3, if_pos (by omega), h3]; rfl
        · rw [if_neg h3, if_neg (by omega)]; rfl
theorem cosX_at {K : Int} : (cosX K).toInt = if 31 ≤ K ∧ K ≤ 32 then K - 31 else -1 := by
  unfold cosX
  by_cases h0 : K = 31
  · rw [if_pos h0, if_pos (by omega), h0]; rfl
  · rw [if_neg h0]
    by_cases h1 : K = 32
    · rw [if_pos h1, if_pos (by omega), h1]; rfl
    · rw [if_neg h1, if_neg (by omega)]; rfl
/-- a choice and its ';' -/
theorem sim_cho {n c t : Nat} {pos : Nat → Nat} {A0 B0 : Nat → Nat → Int32} {L0 : Nat → Nat → Int64} {I J : Nat → Int32} {A B : Nat → Nat → Int32} {L : Nat → Nat → Int64} {z1 z2 : Int32} (hE : ENV n c pos A0 B0 L0) (hH : HAND n c pos A0 I A t) (i10 : (I 10).toInt = 0) (i6 : (I 6).toInt = 5) (hy : ((I 7).toInt = 1 ∧ z1.toInt = 27 ∧ z2.toInt = 4) ∨ ((I 7).toInt = 2 ∧ z1.toInt = 31 ∧ z2.toInt = 2)) (j4 : (J 4).toInt = (t : Int)) (j6 : (J 6).toInt = 0) (j11 : J 11 = I 9) (hB : Md MB B0 B) (hW : WRK I J (I 2).toInt) :
    (¬ (B 2 t - z1).toInt < 0 → (B 2 t - z1).toInt < z2.toInt → ∃ J' : Nat → Int32, f_bdM (fM12_goesOn J B L) (fun _ J1 B1 L1 => f_bdM (fM12_must J1 B1 L1 4) (fun _ J2 B2 L2 => (B 2 t - z1, J2, B2, L2))) = (B 2 t - z1, J', B, L) ∧ ((FLT I A J' ∧ Md MJ J J') ∨ ∃ (I2 : Nat → Int32) (t2 : Nat), t < t2 ∧ Red I A I2 (up3 A 2 (I 7).toNatClampNeg (B 2 t - z1)) ∧ PT n c pos A0 I (up3 A 2 (I 7).toNatClampNeg (B 2 t - z1)) J I2 J' t2 (0 ≤ (B 2 t - z1).toInt ∧ (B 2 t - z1).toInt < z2.toInt))) ∧
    ((B 2 t - z1).toInt < 0 ∨ ¬ (B 2 t - z1).toInt < z2.toInt → FLT I A (failJ J B t 1)) := by
  have hk := hand_K hE hH
  have hB2 : B 2 = B0 2 := hB 2 rfl
  have hB3 : B 3 = B0 3 := hB 3 rfl
  have hKr := hk.1.2.2.2.2.2.2
  have ey : (B 2 t - z1).toInt = (B0 2 t).toInt - z1.toInt := by rw [hB2]; exact i32_sub rfl rfl rfl (by omega) (by omega)
  have hch : (fX5_choiceAtHand I A).toInt = if 0 ≤ (B 2 t - z1).toInt ∧ (B 2 t - z1).toInt < z2.toInt then (B 2 t - z1).toInt else -1 := by
    rw [x_choice hk.1, ey]
    rcases hy with ⟨a, b, d⟩ | ⟨a, b, d⟩
    · rw [if_pos a, levX_at, b, d]
      by_cases h9 : 27 ≤ (B0 2 t).toInt ∧ (B0 2 t).toInt ≤ 30
      · rw [if_pos h9, if_pos (by omega)]
      · rw [if_neg h9, if_neg (by omega)]
    · rw [if_neg (by omega), cosX_at, b, d]
      by_cases h9 : 31 ≤ (B0 2 t).toInt ∧ (B0 2 t).toInt ≤ 32
      · rw [if_pos h9, if_pos (by omega)]
      · rw [if_neg h9, if_neg (by omega)]
  have hm0 : fX5_mayStand I A = if (fX5_choiceAtHand I A).toInt < 0 then 0 else 1 := by
    unfold fX5_mayStand
    rw [if_neg (by omega), if_neg (by omega), if_neg (by omega), if_neg (by omega), if_neg (by omega), if_pos i6]; rfl
  refine ⟨fun c1 c2 => ?_, fun c1 => ?_⟩
  · rw [if_pos (by omega)] at hch
    have ec : fX5_choiceAtHand I A = B 2 t - z1 := Int32.toInt_inj.mp hch
    have hm : fX5_mayStand I A = 1 := by rw [hm0, if_neg (by omega)]
    have hr : (I 4).toInt ≤ 400 → fX5_hasRoom I A = 1 := fun h9 => by
      unfold fX5_hasRoom
      rw [if_pos h9, if_neg (by omega), if_neg (by omega), if_neg (by omega), if_neg (by omega)]
    have ha : fX5_accept I A = (0, upd I 6 6, up3 A 2 (I 7).toNatClampNeg (B 2 t - z1)) := by
      unfold fX5_accept
      rw [if_neg (by omega), if_neg (by omega), if_neg (by omega), if_neg (by omega), if_neg (by omega), if_pos i6, ec]
      show f_bdX (fX7_put I A (I 7) (B 2 t - z1)) (fun _ I2 A2 => (0, upd I2 6 6, A2)) = _
      rw [x_put (by omega) (by omega)]; rfl
    obtain ⟨J2, b1, b2⟩ := sim_go (J := J) (L := L) hE hH i10 (by omega) j4 j6 j11 hB3 hm hr ha rfl rfl rfl rfl (Md.up Md.rf rfl) (Md.up3 Md.rf rfl)
    rw [b1, bdM_mk]
    rcases b2 with ⟨b2, b2m⟩ | ⟨c4, e1, b3, I2, b4, b5, b6, b7⟩
    · rw [m_mustF b2.1]
      exact ⟨J2, rfl, Or.inl ⟨b2, b2m⟩⟩
    · have k6 : (J2 6).toInt = 0 := by rw [e1]; exact j6
      have k11 : J2 11 = I2 9 := by rw [e1, b5 9 rfl]; exact j11
      have hW2 : WRK I2 J2 (I2 2).toInt := by rw [e1]; exact WRK.mv hW (b5 11 rfl) (b5 12 rfl) (b5 13 rfl) rfl rfl rfl (by omega)
      obtain ⟨J3, d1, d2⟩ := sim_end (J := J2) (L := L) hE b6 (by rw [b5 10 rfl]; exact i10) (by rw [b5 6 rfl]; rfl) b3 k6 k11 hB
      rw [d1]
      have mJ2 : Md [4, 8, 9, 13] J J2 := by rw [e1]; exact Md.up Md.rf rfl
      refine ⟨J3, rfl, ?_⟩
      rcases d2 with ⟨d2, d2m⟩ | ⟨c4', e2, d3, I3, d4, d5, d6, d7⟩
      · exact Or.inl ⟨FLT.red b4 d2, Md.tr (Md.tr Md.rf mJ2 rfl) d2m rfl⟩
      · refine Or.inr ⟨I3, t + 1 + 1, by omega, b4.tr d4, d6, d3, by rw [e2]; exact k6, by rw [e2]; exact Md.up mJ2 rfl, ?_, ?_, ?_, ?_, ?_, ?_, ?_, ?_⟩
        · rw [e2]; exact WRK.mv hW2 (d5 11 rfl) (d5 12 rfl) (d5 13 rfl) rfl rfl rfl (by omega)
        · rw [d5 10 rfl]; show (I2 10).toInt = 0; rw [b5 10 rfl]; exact i10
        · rw [d5 6 rfl]; rfl
        · rw [d5 8 rfl]; show I2 8 = I 8; rw [b5 8 rfl]; rfl
        · rw [d5 9 rfl]; show I2 9 = I 9; rw [b5 9 rfl]; rfl
        · rw [d5 14 rfl]; show I2 14 = I 14; rw [b5 14 rfl]; rfl
        · rw [d5 16 rfl]; show I2 16 = I 16; rw [b5 16 rfl]; rfl
        · rw [d5 11 rfl]
          show (I2 11).toInt = 0 → _
          rw [b5 11 rfl]
          exact fun h9 => ⟨h9, by omega⟩
  · rw [if_neg (by omega)] at hch
    refine flt_fail (by decide) (by rw [hB3]; exact hk.2.1) j11 (xf_syntax i10 ?_)
    by_cases c0 : (B0 2 t).toInt = 0
    · exact Or.inl ⟨hk.1.1.mp c0, by omega⟩
    · exact Or.inr ⟨fun h9 => c0 (hk.1.1.mpr h9), by rw [hm0, if_pos (by omega)]⟩
/-- how the settings of the draft go on -/
theorem DRF.set {σ : Nat} {I I2 : Nat → Int32} {A B : Nat → Nat → Int32} {v : Int32} {k : Nat} (h : DRF σ I A B) (hk : k < 4) (e14 : I2 14 = I 14) (h11 : (I2 11).toInt = 0 → (I 11).toInt = 0 ∧ (k = 0 → 0 ≤ v.toInt ∧ v.toInt ≤ 15) ∧ (k = 1 → 0 ≤ v.toInt ∧ v.toInt ≤ 3) ∧ (k = 2 → 0 ≤ v.toInt ∧ v.toInt ≤ 1) ∧ (k = 3 → 1 ≤ v.toInt ∧ v.toInt ≤ 99)) : DRF σ I2 (up3 A 2 k v) (up3 B (13 + k) σ v) := by
  have hw : DRF σ I2 A B := h.weak e14 (fun h9 => (h11 h9).1)
  obtain ⟨a, b, c, d, ⟨e0, e1, e2, e3⟩, f⟩ := hw
  have u : ∀ x, x < 13 → up3 B (13 + k) σ v x = B x := fun x hx => up3_o (by omega)
  have r : ∀ i, up3 B (13 + k) σ v (13 + i) σ = if i = k then v else B (13 + i) σ := fun i => by
    by_cases c9 : i = k
    · rw [if_pos c9, c9]; exact up3_at rfl
    · rw [if_neg c9, up3_o (by omega)]
  have s : ∀ i, up3 A 2 k v 2 i = if i = k then v else A 2 i := fun i => by
    by_cases c9 : i = k
    · rw [if_pos c9]; exact up3_at c9
    · rw [if_neg c9]; exact up3_ne c9
  refine ⟨by rw [u 8 (by decide)]; exact a, b, c, fun j hj => ?_, ⟨?_, ?_, ?_, ?_⟩, fun h9 => ?_⟩
  · rw [up3_o (show (1 : Nat) ≠ 2 by decide), u 9 (by decide)]; exact d j hj
  · rw [show (13 : Nat) = 13 + 0 from rfl, r 0, s 0, e0]
  · rw [show (14 : Nat) = 13 + 1 from rfl, r 1, s 1, e1]
  · rw [show (15 : Nat) = 13 + 2 from rfl, r 2, s 2, e2]
  · rw [show (16 : Nat) = 13 + 3 from rfl, r 3, s 3, e3]
  · obtain ⟨f0, f1, f2, f3⟩ := f h9
    obtain ⟨-, g0, g1, g2, g3⟩ := h11 h9
    unfold SOK
    rw [s 0, s 1, s 2, s 3]
    refine ⟨?_, ?_, ?_, ?_⟩
    · by_cases c9 : 0 = k
      · rw [if_pos c9]; exact g0 c9.symm
      · rw [if_neg c9]; exact f0
    · by_cases c9 : 1 = k
      · rw [if_pos c9]; exact g1 c9.symm
      · rw [if_neg c9]; exact f1
    · by_cases c9 : 2 = k
      · rw [if_pos c9]; exact g2 c9.symm
      · rw [if_neg c9]; exact f2
    · by_cases c9 : 3 = k
      · rw [if_pos c9]; exact g3 c9.symm
      · rw [if_neg c9]; exact f3
end
section
/-- the first word of a TELL -/
theorem sim_begin {n c t : Nat} {pos : Nat → Nat} {A0 B0 : Nat → Nat → Int32} {L0 : Nat → Nat → Int64} {I I1 J : Nat → Int32} {A B : Nat → Nat → Int32} {L : Nat → Nat → Int64} {y : Int32} (hE : ENV n c pos A0 B0 L0) (hH : HAND n c pos A0 I A t) (i10 : (I 10).toInt = 0) (i6 : (I 6).toInt = 0) (hK : (B0 2 t).toInt ≠ 0) (hy : tellX (B0 2 t).toInt = y) (y0 : 0 ≤ y.toInt) (hr : ¬ (y.toInt = 5 ∧ 5 ≤ (I 16).toInt)) (j4 : (J 4).toInt = (t : Int)) (j6 : (J 6).toInt = 0) (j11 : J 11 = I 9) (hB : Md MB B0 B) (hb : fX5_beginTell I A = (0, I1, A)) (M1 : Md [6, 7, 9] I I1) : ∃ J' : Nat → Int32, fM12_goesOn J B L = (0, J', B, L) ∧ ((FLT I A J' ∧ Md MJ J J') ∨ (t ≠ 400 ∧ J' = upd J 4 (J 4 + 1) ∧ (J' 4).toInt = ((t + 1 : Nat) : Int) ∧ ∃ I2 : Nat → Int32, Red I A I2 A ∧ Md [1, 2, 3, 4, 5] I1 I2 ∧ HAND n c pos A0 I2 A (t + 1) ∧ (I 2).toInt < (I2 2).toInt)) := by
  have hk := hand_K hE hH
  obtain ⟨h1, h2, h3⟩ := a_tell hk.1 i6 hy y0
  exact sim_go (J := J) (L := L) hE hH i10 hK j4 j6 j11 (hB 3 rfl) h1 (fun h9 => by rw [h2 h9, if_neg hr]) (by rw [h3, hb]; rfl) (M1 0 rfl) (M1 4 rfl) (M1 5 rfl) rfl (Md.tr Md.rf M1 rfl) Md.rf
def SOKk (k : Nat) (v : Int32) : Prop := (k = 0 → 0 ≤ v.toInt ∧ v.toInt ≤ 15) ∧ (k = 1 → 0 ≤ v.toInt ∧ v.toInt ≤ 3) ∧ (k = 2 → 0 ≤ v.toInt ∧ v.toInt ≤ 1) ∧ (k = 3 → 1 ≤ v.toInt ∧ v.toInt ≤ 99)
/-- a setting is told -/
theorem fin_set {n c t : Nat} {pos : Nat → Nat} {A0 B0 : Nat → Nat → Int32} {L0 : Nat → Nat → Int64} {J0 : Nat → Int32} {σ nq k : Nat} {I J J' : Nat → Int32} {A B : Nat → Nat → Int32} {L : Nat → Nat → Int64} {v : Int32} (hS : ST0 n c pos A0 B0 L0 J0 σ nq I A J B L t) (hk : k < 4) (h : (FLT I A J' ∧ Md MJ J J') ∨ ∃ (I2 : Nat → Int32) (t2 : Nat), t < t2 ∧ Red I A I2 (up3 A 2 k v) ∧ PT n c pos A0 I (up3 A 2 k v) J I2 J' t2 (SOKk k v)) : RES n c pos A0 B0 L0 J0 σ I A t (0, J', up3 B (13 + k) σ v, L) := by
  obtain ⟨⟨hH, mJ, mB, mL, fr, j4, j6, i10, js, hσ⟩, hW, hD, hQ, i6, i9, j11, i8, i16⟩ := hS
  have mB' : Md MB B0 (up3 B (13 + k) σ v) := by
    have hc : k = 0 ∨ k = 1 ∨ k = 2 ∨ k = 3 := by omega
    rcases hc with e | e | e | e <;> subst e <;> exact Md.up3 mB rfl
  have fr' : FRM σ B0 (up3 B (13 + k) σ v) := fr.up (by omega) (by omega) (by omega)
  rcases h with ⟨h1, h2⟩ | ⟨I2, t2, h1, h2, p1, p2, p3, p4, p5, p6, p7, p8, p9, p10, p11, p12⟩
  · exact ⟨_, _, _, rfl, Md.tr mJ h2 rfl, mB', mL, fr', Or.inl h1⟩
  · have mJ' : Md MJ J0 J' := Md.tr mJ p4 rfl
    refine ⟨_, _, _, rfl, mJ', mB', mL, fr', Or.inr ⟨I2, _, t2, nq, h1, h2, ⟨p1, mJ', mB', mL, fr', p2, p3, p6, js, hσ⟩, p5, hD.set hk p10 p12, ?_, p7, by rw [p9, i9], by rw [p4 11 rfl, j11], by rw [p8]; exact i8, by rw [p11]; exact i16⟩⟩
    exact QRS.mv (I := I2) (A := A) (J := J) (B := B) (L := L) (hQ.weak (fun h9 => (p12 h9).1)) rfl (p4 17 rfl) rfl rfl rfl rfl (up3_o (by omega)) (up3_o (by omega)) (up3_o (by omega)) rfl
theorem PT.tr {n c t2 : Nat} {pos : Nat → Nat} {A0 A1 : Nat → Nat → Int32} {I I1 J J1 I2 J2 : Nat → Int32} {ok ok2 : Prop} (h : PT n c pos A0 I1 A1 J1 I2 J2 t2 ok) (mJ : Md [4, 8, 9, 13] J J1) (e8 : I1 8 = I 8) (e9 : I1 9 = I 9) (e14 : I1 14 = I 14) (e16 : I1 16 = I 16) (e11 : I1 11 = I 11) (hok : ok → ok2) : PT n c pos A0 I A1 J I2 J2 t2 ok2 := by
  obtain ⟨p1, p2, p3, p4, p5, p6, p7, p8, p9, p10, p11, p12⟩ := h
  exact ⟨p1, p2, p3, Md.tr mJ p4 rfl, p5, p6, p7, p8.trans e8, p9.trans e9, p10.trans e14, p11.trans e16, fun h9 => ⟨by rw [← e11]; exact (p12 h9).1, hok (p12 h9).2⟩⟩
/-- a TELL of a number -/
theorem sim_setN {n c t : Nat} {pos : Nat → Nat} {A0 B0 : Nat → Nat → Int32} {L0 : Nat → Nat → Int64} {J0 : Nat → Int32} {σ nq k : Nat} {I J : Nat → Int32} {A B : Nat → Nat → Int32} {L : Nat → Nat → Int64} {lo hi y : Int32} (hE : ENV n c pos A0 B0 L0) (hS : ST0 n c pos A0 B0 L0 J0 σ nq I A J B L t) (hK : (B0 2 t).toInt ≠ 0) (hy : tellX (B0 2 t).toInt = y) (hk : y.toInt = (k : Int) ∧ (k = 0 ∨ k = 3)) (hlo : lo.toInt = loY y) (hhi : hi.toInt = hiY y) : RES n c pos A0 B0 L0 J0 σ I A t (f_bdM (fM12_toldInt J B L lo hi) (fun v J1 B1 L1 => (0, J1, up3 B1 (13 + k) σ v, L1))) := by
  have hS' := hS
  obtain ⟨⟨hH, mJ, mB, mL, fr, j4, j6, i10, js, hσ⟩, hW, hD, hQ, i6, i9, j11, i8, i16⟩ := hS'
  have hkk := hand_K hE hH
  have hb : fX5_beginTell I A = (0, upd (upd I 7 y) 6 4, A) := by
    rw [a_begin hkk.1 hy]
    rcases hk.2 with e | e
    · rw [if_pos (by omega)]
    · rw [if_neg (by omega), if_neg (by omega), if_neg (by omega), if_pos (by omega)]
  obtain ⟨J1, b1, b2⟩ := sim_begin (L := L) hE hH i10 i6 hK hy (by omega) (by omega) j4 j6 (by rw [j11, i9]) mB hb (Md.up (Md.up Md.rf rfl) rfl)
  have key : ∃ (v : Int32) (J' : Nat → Int32), fM12_toldInt J B L lo hi = (v, J', B, L) ∧ ((FLT I A J' ∧ Md MJ J J') ∨ ∃ (I2 : Nat → Int32) (t2 : Nat), t < t2 ∧ Red I A I2 (up3 A 2 k v) ∧ PT n c pos A0 I (up3 A 2 k v) J I2 J' t2 (SOKk k v)) := by
    unfold fM12_toldInt
    rw [b1, bdM_mk]
    rcases b2 with ⟨b2, b2m⟩ | ⟨c4, e1, b3, I2, b4, b5, b6, b7⟩
    · rw [m_boundF b2.1, bdM_mk, m_mustF b2.1]
      exact ⟨lo, J1, rfl, Or.inl ⟨b2, b2m⟩⟩
    · have e7 : I2 7 = y := b5 7 rfl
      obtain ⟨v, J', d1, d2⟩ := sim_num (J := J1) (L := L) (lo := lo) (hi := hi) hE b6 (by rw [b5 10 rfl]; exact i10) (by rw [b5 6 rfl]; rfl) (by rw [e7]; omega) (by rw [e7]; exact hlo) (by rw [e7]; exact hhi) b3 (by rw [e1]; exact j6) (by rw [e1, b5 9 rfl]; show J 11 = I 9; rw [j11, i9]) mB (by rw [e1]; exact WRK.mv hW (b5 11 rfl) (b5 12 rfl) (b5 13 rfl) rfl rfl rfl (by omega))
      rw [d1]
      have mJ1 : Md [4, 8, 9, 13] J J1 := by rw [e1]; exact Md.up Md.rf rfl
      rw [e7, clN hk.1] at d2
      refine ⟨v, J', rfl, ?_⟩
      rcases d2 with ⟨d2, d2m⟩ | ⟨I3, t2, d3, d4, d5⟩
      · exact Or.inl ⟨FLT.red b4 d2, Md.tr (Md.tr Md.rf mJ1 rfl) d2m rfl⟩
      · refine Or.inr ⟨I3, t2, by omega, b4.tr d4, d5.tr mJ1 (b5 8 rfl) (b5 9 rfl) (b5 14 rfl) (b5 16 rfl) (b5 11 rfl) (fun h9 => ?_)⟩
        unfold loY hiY at h9
        rcases hk.2 with e | e
        · rw [if_neg (by omega), if_neg (by omega)] at h9
          exact ⟨fun _ => h9, fun h8 => by omega, fun h8 => by omega, fun h8 => by omega⟩
        · rw [if_pos (by omega), if_pos (by omega)] at h9
          exact ⟨fun h8 => by omega, fun h8 => by omega, fun h8 => by omega, fun _ => h9⟩
  obtain ⟨v, J', e1, e2⟩ := key
  rw [e1]
  exact fin_set hS (by omega) e2
/-- a TELL of a choice -/
theorem sim_setC {n c t : Nat} {pos : Nat → Nat} {A0 B0 : Nat → Nat → Int32} {L0 : Nat → Nat → Int64} {J0 : Nat → Int32} {σ nq k : Nat} {I J : Nat → Int32} {A B : Nat → Nat → Int32} {L : Nat → Nat → Int64} {z1 z2 y : Int32} (hE : ENV n c pos A0 B0 L0) (hS : ST0 n c pos A0 B0 L0 J0 σ nq I A J B L t) (hK : (B0 2 t).toInt ≠ 0) (hy : tellX (B0 2 t).toInt = y) (hk : y.toInt = (k : Int) ∧ ((k = 1 ∧ z1.toInt = 27 ∧ z2.toInt = 4) ∨ (k = 2 ∧ z1.toInt = 31 ∧ z2.toInt = 2))) : RES n c pos A0 B0 L0 J0 σ I A t (f_bdM (fM12_toldWord J B L z1 z2) (fun v J1 B1 L1 => (0, J1, up3 B1 (13 + k) σ v, L1))) := by
  have hS' := hS
  obtain ⟨⟨hH, mJ, mB, mL, fr, j4, j6, i10, js, hσ⟩, hW, hD, hQ, i6, i9, j11, i8, i16⟩ := hS'
  have hkk := hand_K hE hH
  have hb : fX5_beginTell I A = (0, upd (upd I 7 y) 6 5, A) := by
    rw [a_begin hkk.1 hy]
    rcases hk.2 with e | e
    · rw [if_neg (by omega), if_pos (by omega)]
    · rw [if_neg (by omega), if_neg (by omega), if_pos (by omega)]
  obtain ⟨J1, b1, b2⟩ := sim_begin (L := L) hE hH i10 i6 hK hy (by omega) (by omega) j4 j6 (by rw [j11, i9]) mB hb (Md.up (Md.up Md.rf rfl) rfl)
  have key : ∃ (v : Int32) (J' : Nat → Int32), fM12_toldWord J B L z1 z2 = (v, J', B, L) ∧ ((FLT I A J' ∧ Md MJ J J') ∨ ∃ (I2 : Nat → Int32) (t2 : Nat), t < t2 ∧ Red I A I2 (up3 A 2 k v) ∧ PT n c pos A0 I (up3 A 2 k v) J I2 J' t2 (SOKk k v)) := by
    unfold fM12_toldWord
    rw [b1, bdM_mk]
    dsimp only [f_lt]
    rcases b2 with ⟨b2, b2m⟩ | ⟨c4, e1, b3, I2, b4, b5, b6, b7⟩
    · have h6 := b2.1
      rw [if_neg (by omega), m_failF h6, bdM_mk, if_pos (by omega), m_mustF h6]
      exact ⟨-1, J1, rfl, Or.inl ⟨b2, b2m⟩⟩
    · have e7 : I2 7 = y := b5 7 rfl
      have k6 : (J1 6).toInt = 0 := by rw [e1]; exact j6
      have mJ1 : Md [4, 8, 9, 13] J J1 := by rw [e1]; exact Md.up Md.rf rfl
      obtain ⟨d1, d2⟩ := sim_cho (J := J1) (L := L) (z1 := z1) (z2 := z2) hE b6 (by rw [b5 10 rfl]; exact i10) (by rw [b5 6 rfl]; rfl) (by rw [e7]; omega) b3 k6 (by rw [e1, b5 9 rfl]; show J 11 = I 9; rw [j11, i9]) mB (by rw [e1]; exact WRK.mv hW (b5 11 rfl) (b5 12 rfl) (b5 13 rfl) rfl rfl rfl (by omega))
      rw [e7, clN hk.1] at d1
      rw [if_pos (by omega), clN b3, m_fail0 k6 b3]
      have bad : FLT I2 A (failJ J1 B (t + 1) 1) → ∀ v : Int32, ∃ (v2 : Int32) (J' : Nat → Int32), f_bdM ((0 : Int32), failJ J1 B (t + 1) 1, B, L) (fun _ J3 B3 L3 => if (J3 6).toInt ≠ 0 then f_bdM (fM12_must J3 B3 L3 4) (fun _ J4 B4 L4 => (v, J4, B4, L4)) else f_bdM (fM12_goesOn J3 B3 L3) (fun _ J4 B4 L4 => f_bdM (fM12_must J4 B4 L4 4) (fun _ J5 B5 L5 => (v, J5, B5, L5)))) = (v2, J', B, L) ∧ ((FLT I A J' ∧ Md MJ J J') ∨ ∃ (I2 : Nat → Int32) (t2 : Nat), t < t2 ∧ Red I A I2 (up3 A 2 k v2) ∧ PT n c pos A0 I (up3 A 2 k v2) J I2 J' t2 (SOKk k v2)) := fun hf v => by
        have h6 := hf.1
        rw [bdM_mk, if_pos (by omega), m_mustF h6]
        exact ⟨v, _, rfl, Or.inl ⟨FLT.red b4 hf, Md.tr (Md.tr Md.rf mJ1 rfl) failJ_md rfl⟩⟩
      by_cases c1 : (B 2 (t + 1) - z1).toInt < 0
      · rw [if_pos c1]
        exact bad (d2 (Or.inl c1)) _
      · rw [if_neg c1]
        by_cases c2 : (B 2 (t + 1) - z1).toInt < z2.toInt
        · rw [if_pos c2]
          obtain ⟨J', g1, g2⟩ := d1 c1 c2
          rw [g1]
          refine ⟨_, J', rfl, ?_⟩
          rcases g2 with ⟨g2, g2m⟩ | ⟨I3, t2, g3, g4, g5⟩
          · exact Or.inl ⟨FLT.red b4 g2, Md.tr (Md.tr Md.rf mJ1 rfl) g2m rfl⟩
          · refine Or.inr ⟨I3, t2, by omega, b4.tr g4, g5.tr mJ1 (b5 8 rfl) (b5 9 rfl) (b5 14 rfl) (b5 16 rfl) (b5 11 rfl) (fun h9 => ?_)⟩
            rcases hk.2 with e | e
            · exact ⟨fun h8 => by omega, fun _ => by omega, fun h8 => by omega, fun h8 => by omega⟩
            · exact ⟨fun h8 => by omega, fun h8 => by omega, fun _ => by omega, fun h8 => by omega⟩
        · rw [if_neg c2]
          exact bad (d2 (Or.inr c2)) _
  obtain ⟨v, J', e1, e2⟩ := key
  rw [e1]
  exact fin_set hS (by omega) e2
end
section
noncomputable def bQ (σ : Nat) (Jr : Nat → Int32) (Br : Nat → Nat → Int32) (y : Int32) := if σ = 0 then bM12_tellQuery_84 Jr Br y else bM12_tellQuery_84xx Jr Br y
noncomputable def QE (σ : Nat) (Jr : Nat → Int32) (Br : Nat → Nat → Int32) (R : Int32 × (Nat → Int32) × (Nat → Nat → Int32) × (Nat → Nat → Int64)) : Int32 × (Nat → Int32) × (Nat → Nat → Int32) × (Nat → Nat → Int64) := f_bdM R (fun _ J3 B3 L3 => if (J3 6).toInt ≤ 0 then (0, upd (upd J3 11 (-2)) 17 (Jr 17 + 1), up3 B3 10 σ (Br 10 σ + 1), up3L L3 7 (Jr 17).toNatClampNeg (L3 5 (Jr 4).toNatClampNeg)) else (0, J3, B3, L3))
theorem query_body {G : (Nat → Int32) → (Nat → Nat → Int32) → (Nat → Nat → Int64) → (Int32 × (Nat → Int32) × (Nat → Nat → Int32) × (Nat → Nat → Int64))} {J Jr : Nat → Int32} {B Br : Nat → Nat → Int32} {L : Nat → Nat → Int64} {t σ : Nat} {y : Int32} (h16 : (Jr 16).toInt = (σ : Int)) (hσ : σ ≤ 1) (h6 : (J 6).toInt = 0) (h4 : (J 4).toInt = (t : Int)) : bQ σ Jr Br y G J B L = if fM12_isReading J B L = 0 then (if fM12_is J B L 4 = 0 then QE σ Jr Br (fM12_must J B L 4) else if 2 ≤ (B 11 y.toNatClampNeg).toInt then QE σ Jr Br (fM12_must J B L 4) else f_bdM (fM12_wrong J B L 6 (J 4)) (fun _ J1 B1 L1 => QE σ Jr Br (fM12_must J1 B1 L1 4))) else if (B 11 y.toNatClampNeg).toInt ≠ 16 then f_bdM (fM12_readingTold J B L) (fun v J1 B1 L1 => if (J1 6).toInt ≤ 0 then G (upd J1 11 (J 11 + 1)) (up3 (up3 B1 12 (16 * y + B 11 y.toNatClampNeg).toNatClampNeg v) 11 y.toNatClampNeg (B 11 y.toNatClampNeg + 1)) L1 else (0, J1, up3 B1 12 (16 * y + B 11 y.toNatClampNeg).toNatClampNeg v, L1)) else (0, failJ J B t 2, B, L) := by
  have ef : (failJ J B t 2 6).toInt = 2 := rfl
  have hc : σ = 0 ∨ σ = 1 := by omega
  unfold bQ QE
  rcases hc with e | e
  · subst e
    have e0 : (Jr 16).toInt = 0 := h16
    rw [if_pos rfl]
    unfold bM12_tellQuery_84
    rw [m_fail0 h6 h4]
    simp only [f_lt, bdM_mk, ef, h6, e0, ↓reduceIte]
    rfl
  · subst e
    have e0 : (Jr 16).toInt = 1 := h16
    rw [if_neg (by decide)]
    unfold bM12_tellQuery_84xx
    rw [m_fail0 h6 h4]
    simp only [f_lt, bdM_mk, ef, h6, e0, ↓reduceIte]
    rfl
theorem query_F {Jr : Nat → Int32} {Br : Nat → Nat → Int32} {y : Int32} {σ m : Nat} {J : Nat → Int32} {B : Nat → Nat → Int32} {L : Nat → Nat → Int64} (h : 0 < (J 6).toInt) (hm : 0 < m) : itr_IAL dfM (bQ σ Jr Br y) m J B L = (0, J, B, L) := by
  cases m with
  | zero => omega
  | succ m =>
    show bQ σ Jr Br y (itr_IAL dfM (bQ σ Jr Br y) m) J B L = _
    obtain ⟨G, hG⟩ : ∃ G, G = itr_IAL dfM (bQ σ Jr Br y) m := ⟨_, rfl⟩
    rw [← hG]
    have h1 : fM12_isReading J B L = 0 := by
      unfold fM12_isReading
      rw [m_isF (by omega), m_isF (by omega), if_pos rfl, if_pos rfl]
    unfold bQ
    by_cases c : σ = 0
    · rw [if_pos c]
      unfold bM12_tellQuery_84
      rw [if_pos h1, m_isF (by omega), if_pos rfl, m_mustF h, bdM_mk, if_neg (by omega)]
    · rw [if_neg c]
      unfold bM12_tellQuery_84xx
      rw [if_pos h1, m_isF (by omega), if_pos rfl, m_mustF h, bdM_mk, if_neg (by omega)]
/-- a QUERY's readings, one more -/
theorem QRY.add {σ q : Nat} {I I2 : Nat → Int32} {A B : Nat → Nat → Int32} {v a b : Int32} (h : QRY σ q I A B) (hq : q ≤ 4) (hσ : σ ≤ 1) (hl : (A 4 q).toInt < 16) (h11 : (I2 11).toInt = 0 → (I 11).toInt = 0 ∧ -999 ≤ v.toInt ∧ v.toInt ≤ 999) (ha : a.toInt = 16 * (q : Int)) (hb : b.toInt = 5 * (σ : Int) + q) : QRY σ q I2 (up3 (up3 A 3 (a + A 4 q).toNatClampNeg v) 4 q (A 4 q + 1)) (up3 (up3 B 12 (16 * b + B 11 (5 * σ + q)).toNatClampNeg v) 11 (5 * σ + q) (B 11 (5 * σ + q) + 1)) := by
  obtain ⟨h1, h2, h3, h4⟩ := h
  have e1 : (A 4 q + 1).toInt = (A 4 q).toInt + 1 := i32_inc (by omega)
  have e2 : (a + A 4 q).toInt = 16 * (q : Int) + (A 4 q).toInt := i32_add rfl ha rfl (by omega) (by omega)
  have c2 := cl_int (y := a + A 4 q) (by omega)
  have e3 : (16 * b).toInt = 16 * b.toInt := i32_mul (x := 16) (a := 16) rfl rfl rfl (by omega) (by omega)
  have e4 : (16 * b + B 11 (5 * σ + q)).toInt = 80 * (σ : Int) + (16 * q + (A 4 q).toInt) := by rw [← h1, i32_add rfl e3 rfl (by omega) (by omega)]; omega
  have c4 := cl_int (y := 16 * b + B 11 (5 * σ + q)) (by omega)
  unfold QRY
  rw [up3_at (A := up3 A 3 (a + A 4 q).toNatClampNeg v) rfl, up3_at (A := up3 B 12 (16 * b + B 11 (5 * σ + q)).toNatClampNeg v) rfl, up3_o (show (3 : Nat) ≠ 4 by decide), up3_o (show (12 : Nat) ≠ 11 by decide)]
  refine ⟨by rw [h1], by omega, by omega, fun i hi => ?_⟩
  by_cases c9 : (i : Int) = (A 4 q).toInt
  · rw [up3_at (by omega), up3_at (by omega)]
    exact ⟨rfl, fun h9 => (h11 h9).2⟩
  · rw [up3_ne (by omega), up3_ne (by omega)]
    have := h4 i (by omega)
    exact ⟨this.1, fun h9 => this.2 (h11 h9).1⟩
/-- the other QUERIES stay -/
theorem QRS.oth {n : Nat} {A0 : Nat → Nat → Int32} {σ nq : Nat} {I J : Nat → Int32} {A B : Nat → Nat → Int32} {L : Nat → Nat → Int64} {v w u x : Int32} {i j : Nat} (h : QRS n A0 σ nq I A J B L) (hi : 16 * nq ≤ i) (hj : 80 * σ + 16 * nq ≤ j) : QRS n A0 σ nq I (up3 (up3 A 3 i v) 4 nq w) J (up3 (up3 B 12 j u) 11 (5 * σ + nq) x) L := by
  obtain ⟨a, b, c, d⟩ := h
  refine ⟨by rw [up3_o (show (10 : Nat) ≠ 11 by decide), up3_o (show (10 : Nat) ≠ 12 by decide)]; exact a, b, c, fun q hq => ?_⟩
  obtain ⟨⟨e1, e2, e3, e4⟩, e5, e6⟩ := d q hq
  have f1 : up3 (up3 A 3 i v) 4 nq w 4 q = A 4 q := by rw [up3_ne (by omega), up3_o (show (4 : Nat) ≠ 3 by decide)]
  refine ⟨?_, by rw [f1]; exact e5, e6⟩
  unfold QRY
  rw [f1, up3_ne (show 5 * σ + q ≠ 5 * σ + nq by omega), up3_o (show (11 : Nat) ≠ 12 by decide), up3_o (show (3 : Nat) ≠ 4 by decide), up3_o (show (12 : Nat) ≠ 11 by decide)]
  refine ⟨e1, e2, e3, fun k hk => ?_⟩
  rw [up3_ne (by omega), up3_ne (by omega)]
  exact e4 k hk
theorem FRM.upQ {σ q : Nat} {B0 B : Nat → Nat → Int32} {v : Int32} (h : FRM σ B0 B) (hσ : σ ≤ 1) (hq : q ≤ 4) : FRM σ B0 (up3 B 11 (5 * σ + q) v) := by
  obtain ⟨a, b, c⟩ := h
  refine ⟨by rw [up3_o (by decide)]; exact a, fun k hk => ?_, by rw [up3_o (by decide)]; exact c⟩
  rw [up3_ne (by omega)]; exact b k hk
theorem FRM.upR {σ i : Nat} {B0 B : Nat → Nat → Int32} {v : Int32} (h : FRM σ B0 B) (hσ : σ ≤ 1) (hi : 80 * σ ≤ i) (hi2 : i < 80 * σ + 80) : FRM σ B0 (up3 B 12 i v) := by
  obtain ⟨a, b, c⟩ := h
  refine ⟨by rw [up3_o (by decide)]; exact a, by rw [up3_o (by decide)]; exact b, fun k hk => ?_⟩
  rw [up3_ne (by omega)]; exact c k hk
theorem FRM.upN {σ : Nat} {B0 B : Nat → Nat → Int32} {v : Int32} (h : FRM σ B0 B) (hσ : σ ≤ 1) : FRM σ B0 (up3 B 10 σ v) := by
  obtain ⟨a, b, c⟩ := h
  refine ⟨by rw [up3_ne (by omega)]; exact a, by rw [up3_o (by decide)]; exact b, by rw [up3_o (by decide)]; exact c⟩
end
section
theorem up3L_o {A : Nat → Nat → Int64} {a b i : Nat} {v : Int64} (h : b ≠ a) : up3L A a i v b = A b := by
  show (if b = a then vp_updL (A a) i v else A b) = _
  rw [if_neg h]
/-- a QUERY is told whole -/
theorem QRS.one {n : Nat} {A0 : Nat → Nat → Int32} {σ nq : Nat} {I I2 J J2 : Nat → Int32} {A B : Nat → Nat → Int32} {L : Nat → Nat → Int64} {w : Int64} {x : Int32} (h : QRS n A0 σ nq I A J B L) (hq : nq ≤ 4) (hQ : QRY σ nq I A B) (hN : NAM n nq A0 A w) (h11 : (I2 11).toInt = 0 → (I 11).toInt = 0 ∧ 2 ≤ (A 4 nq).toInt) (j17 : (J2 17).toInt = (nq : Int) + 1) (hx : x.toInt = (nq : Int) + 1) : QRS n A0 σ (nq + 1) I2 A J2 (up3 B 10 σ x) (up3L L 7 nq w) := by
  obtain ⟨a, b, c, d⟩ := h
  refine ⟨by rw [up3_at rfl]; omega, by omega, by omega, fun q hq2 => ?_⟩
  have wk : ∀ q, QRY σ q I A B → QRY σ q I2 A (up3 B 10 σ x) := fun q h9 => by
    obtain ⟨e1, e2, e3, e4⟩ := h9
    unfold QRY
    rw [up3_o (show (11 : Nat) ≠ 10 by decide), up3_o (show (12 : Nat) ≠ 10 by decide)]
    exact ⟨e1, e2, e3, fun i hi => ⟨(e4 i hi).1, fun h8 => (e4 i hi).2 (h11 h8).1⟩⟩
  by_cases c9 : q = nq
  · rw [c9, up3L_at rfl]
    exact ⟨wk nq hQ, fun h9 => (h11 h9).2, hN⟩
  · obtain ⟨e1, e2, e3⟩ := d q (by omega)
    rw [up3L_ne c9]
    exact ⟨wk q e1, fun h9 => e2 (h11 h9).1, e3⟩
theorem sim_query {n c : Nat} {pos : Nat → Nat} {A0 B0 : Nat → Nat → Int32} {L0 : Nat → Nat → Int64} {J0 Jr : Nat → Int32} {Br : Nat → Nat → Int32} {y : Int32} {σ nq tq : Nat} (hE : ENV n c pos A0 B0 L0) (h16 : (Jr 16).toInt = (σ : Int)) (h17 : (Jr 17).toInt = (nq : Int)) (hr4 : (Jr 4).toInt = (tq : Int)) (hr10 : (Br 10 σ).toInt = (nq : Int)) (hy : y.toInt = 5 * (σ : Int) + nq) (hnq : nq ≤ 4) :
    ∀ (m : Nat) (I : Nat → Int32) (A : Nat → Nat → Int32) (J : Nat → Int32) (B : Nat → Nat → Int32) (L : Nat → Nat → Int64) (t : Nat), BASE n c pos A0 B0 L0 J0 σ I A J B L t → WRK I J (I 2).toInt → DRF σ I A B → QRS n A0 σ nq I A J B L → (I 6).toInt = 3 → (I 8).toInt = 0 → J 11 = I 9 → (I 16).toInt = (nq : Int) + 1 → I 9 = A 4 nq → QRY σ nq I A B → NAM n nq A0 A (L0 5 tq) → 402 - t < m → RES n c pos A0 B0 L0 J0 σ I A t (itr_IAL dfM (bQ σ Jr Br y) m J B L) := by
  intro m
  induction m with
  | zero => intro I A J B L t _ _ _ _ _ _ _ _ _ _ _ h; omega
  | succ m ih =>
    intro I A J B L t hB hW hD hQ i6 i8 j11 i16 i9 hq hN hm
    show RES n c pos A0 B0 L0 J0 σ I A t (bQ σ Jr Br y (itr_IAL dfM (bQ σ Jr Br y) m) J B L)
    obtain ⟨G, hG⟩ : ∃ G, G = itr_IAL dfM (bQ σ Jr Br y) m := ⟨_, rfl⟩
    rw [← hG] at ih ⊢
    obtain ⟨hH, mJ, mB, mL, fr, j4, j6, i10, js, hσ⟩ := hB
    have hk := hand_K hE hH
    have hB2 : B 2 = B0 2 := mB 2 rfl
    have hB3 : B 3 = B0 3 := mB 3 rfl
    have hrow := a_row hk.1 (Or.inr i6)
    have ht4 : t ≤ 400 := hH.2.2.2.2.1
    have hyc : y.toNatClampNeg = 5 * σ + nq := clN (by omega)
    obtain ⟨q1, q2, q3, q4⟩ := hq
    rw [query_body h16 hσ j6 j4, m_isRd j6 j4, m_is0 j6 j4, hB2, hyc, ← q1]
    by_cases cR : (B0 2 t).toInt = 2 ∨ (B0 2 t).toInt = 9
    · rw [if_pos cR, if_neg (by decide)]
      by_cases c16 : (A 4 nq).toInt = 16
      · rw [if_neg (fun h9 => h9 c16)]
        refine ⟨_, _, _, rfl, Md.tr mJ failJ_md rfl, mB, mL, fr, Or.inl (flt_fail (by decide) (by rw [hB3]; exact hk.2.1) j11 (xf_room i10 (fun h8 => by have := hk.1.1.mpr h8; omega) ?_ ?_))⟩
        · rw [hrow.1, if_pos]
          rcases cR with h8 | h8
          · exact Or.inl (Or.inl h8)
          · exact Or.inl (Or.inr ⟨i8, Or.inl h8⟩)
        · exact x_room0 (fun h8 => by rw [hrow.2.1 h8, i9, if_neg (by omega)])
      · rw [if_pos c16]
        have e16 : (I 16 - 1).toInt = (nq : Int) := by rw [i32_sub rfl i16 (show (1 : Int32).toInt = 1 from rfl) (by omega) (by omega)]; omega
        obtain ⟨v, J', b1, b2⟩ := sim_reading (L := L) hE hH i10 cR j4 j6 j11 i8 mB hW (Or.inr ⟨i6, by rw [i9]; omega, by omega, by omega, by rw [clN e16]; omega⟩)
        rw [b1, bdM_mk]
        have e80 : (16 * y + A 4 nq).toInt = 80 * (σ : Int) + 16 * nq + (A 4 nq).toInt := by
          have e3 : (16 * y).toInt = 16 * y.toInt := i32_mul (x := 16) (a := 16) rfl rfl rfl (by omega) (by omega)
          rw [i32_add rfl e3 rfl (by omega) (by omega)]; omega
        have c80 := cl_int (y := 16 * y + A 4 nq) (by omega)
        have fr2 : FRM σ B0 (up3 B 12 (16 * y + A 4 nq).toNatClampNeg v) := fr.upR hσ (by omega) (by omega)
        rcases b2 with ⟨b2, b2m⟩ | ⟨I2, t2, b3, b4, p1, p2, p3, p4, p5, p6, p7, p8, p9, p10, p11, p12⟩
        · rw [if_neg (by have := b2.1; omega)]
          exact ⟨_, _, _, rfl, Md.tr mJ b2m rfl, Md.up3 mB rfl, mL, fr2, Or.inl b2⟩
        · rw [if_pos (by omega)]
          have eA : kpA I A v = up3 (up3 A 3 ((I 16 - 1) * 16 + A 4 nq).toNatClampNeg v) 4 nq (A 4 nq + 1) := by
            unfold kpA
            rw [if_neg (by omega), clN e16]
          have e16b : ((I 16 - 1) * 16).toInt = 16 * (nq : Int) := by rw [i32_mul rfl e16 (show (16 : Int32).toInt = 16 from rfl) (by omega) (by omega)]; omega
          have e48 : ((I 16 - 1) * 16 + A 4 nq).toInt = 16 * (nq : Int) + (A 4 nq).toInt := i32_add rfl e16b rfl (by omega) (by omega)
          have c48 := cl_int (y := (I 16 - 1) * 16 + A 4 nq) (by omega)
          rw [eA] at b4 p1
          rw [if_neg (by omega)] at p10
          have hqa := QRY.add (I2 := I2) (v := v) (a := (I 16 - 1) * 16) (b := y) (show QRY σ nq I A B from ⟨q1, q2, q3, q4⟩) hnq hσ (by omega) p12 e16b hy
          rw [← q1] at hqa
          refine RES.red b4 (Nat.le_of_lt b3) (ih I2 _ _ _ _ t2 ⟨p1, Md.up (Md.tr mJ p4 rfl) rfl, Md.up3 (Md.up3 mB rfl) rfl, mL, fr2.upQ hσ hnq, p2, p3, p6, js, hσ⟩ ?_ ?_ ?_ (by rw [p7]; exact i6) p8 ?_ (by rw [p11]; exact i16) ?_ hqa hN (by omega))
          · exact WRK.mv p5 rfl rfl rfl rfl rfl rfl (Int.le_refl _)
          · exact DRF.mv (I := I2) (A := A) (B := B) (hD.weak p10 (fun h9 => (p12 h9).1)) rfl rfl rfl rfl rfl rfl rfl rfl rfl rfl
          · refine QRS.mv (I := I2) (J := J) (L := L) ((hQ.weak (fun h9 => (p12 h9).1)).oth (i := ((I 16 - 1) * 16 + A 4 nq).toNatClampNeg) (j := (16 * y + A 4 nq).toNatClampNeg) (v := v) (u := v) (w := A 4 nq + 1) (x := A 4 nq + 1) (by omega) (by omega)) rfl (p4 17 rfl) rfl rfl rfl rfl rfl rfl rfl rfl
          · show J 11 + 1 = I2 9
            rw [p9, j11]
          · rw [p9, i9, up3_at rfl]
    · rw [if_neg cR, if_pos rfl]
      -- the end of the QUERY
      have fin : ∀ (J1 I1 I2 : Nat → Int32), Md [8, 9, 13] J J1 → Md [6, 9, 11, 12, 13] I I1 → Md [1, 2, 3, 4, 5] I1 I2 → HAND n c pos A0 I2 A (t + 1) → t ≠ 400 → ((upd J1 4 (J1 4 + 1)) 4).toInt = ((t + 1 : Nat) : Int) → Red I A I2 A → (I1 6).toInt = 0 → I1 9 = -2 → WRK I2 (upd J1 4 (J1 4 + 1)) (I2 2).toInt → ((I1 11).toInt = 0 → (I 11).toInt = 0 ∧ 2 ≤ (A 4 nq).toInt) → RES n c pos A0 B0 L0 J0 σ I A t (QE σ Jr Br (0, upd J1 4 (J1 4 + 1), B, L)) := by
        intro J1 I1 I2 g1 g2 g3 g4 g5 g6 g7 g8 g9 g10 g11
        unfold QE
        rw [bdM_mk, if_pos (show (upd J1 4 (J1 4 + 1) 6).toInt ≤ 0 from by show (J1 6).toInt ≤ 0; rw [g1 6 rfl]; omega), clN h17, clN hr4]
        have eL : L 5 tq = L0 5 tq := by rw [mL 5 rfl]
        have mJ' : Md MJ J0 (upd (upd (upd J1 4 (J1 4 + 1)) 11 (-2)) 17 (Jr 17 + 1)) := Md.up (Md.up (Md.up (Md.tr mJ g1 rfl) rfl) rfl) rfl
        have e17 : (Jr 17 + 1).toInt = (nq : Int) + 1 := by rw [i32_inc (by omega), h17]
        have e10 : (Br 10 σ + 1).toInt = (nq : Int) + 1 := by rw [i32_inc (by omega), hr10]
        refine ⟨_, _, _, rfl, mJ', Md.up3 mB rfl, Md.up3L mL rfl, fr.upN hσ, Or.inr ⟨I2, A, t + 1, nq + 1, by omega, g7, ⟨g4, mJ', Md.up3 mB rfl, Md.up3L mL rfl, fr.upN hσ, g6, ?_, ?_, js, hσ⟩, ?_, ?_, ?_, ?_, ?_, rfl, ?_, ?_⟩⟩
        · show (J1 6).toInt = 0
          rw [g1 6 rfl]; exact j6
        · rw [g3 10 rfl, g2 10 rfl]; exact i10
        · exact WRK.mv g10 rfl rfl rfl rfl rfl rfl (Int.le_refl _)
        · exact DRF.mv (I := I2) (A := A) (B := B) (hD.weak (by rw [g3 14 rfl, g2 14 rfl]) (fun h9 => by rw [g3 11 rfl] at h9; exact (g11 h9).1)) rfl rfl rfl rfl rfl rfl rfl rfl rfl rfl
        · rw [eL]
          exact hQ.one hnq ⟨q1, q2, q3, q4⟩ hN (fun h9 => by rw [g3 11 rfl] at h9; exact g11 h9) e17 e10
        · rw [g3 6 rfl]; exact g8
        · rw [g3 9 rfl]; exact g9
        · rw [g3 8 rfl, g2 8 rfl]; exact i8
        · rw [g3 16 rfl, g2 16 rfl, i16]; omega
      by_cases c4 : (B0 2 t).toInt = 4
      · rw [if_pos (show (B0 2 t).toInt = (4 : Int32).toInt from c4), if_neg (by decide)]
        have i1 : (I 1).toInt = 3 := hk.1.2.2.1.mp c4
        have hm1 : fX5_mayStand I A = 1 := by rw [hrow.1, if_pos (Or.inl (Or.inr ⟨i8, Or.inr c4⟩))]
        have hr1 : (I 4).toInt ≤ 400 → fX5_hasRoom I A = 1 := fun h9 => by rw [hrow.2.1 h9, if_pos (Or.inl c4)]
        by_cases c2 : 2 ≤ (A 4 nq).toInt
        · rw [if_pos c2, m_must_go (z := 4) j6 j4 (by rw [hB2]; exact c4)]
          have ha : fX5_accept I A = (0, upd (upd I 6 0) 9 (-2), A) := by
            rw [hrow.2.2, x_semi i1, if_neg (by rw [i9]; omega)]; rfl
          obtain ⟨J', b1, b2⟩ := sim_go (J := J) (L := L) hE hH i10 (by omega) j4 j6 j11 hB3 hm1 hr1 ha rfl rfl rfl rfl (Md.up (Md.up Md.rf rfl) rfl) Md.rf
          rw [b1]
          rcases b2 with ⟨b2, b2m⟩ | ⟨c4', e1, b3, I2, b4, b5, b6, b7⟩
          · unfold QE
            rw [bdM_mk, if_neg (by have := b2.1; omega)]
            exact ⟨_, _, _, rfl, Md.tr mJ b2m rfl, mB, mL, fr, Or.inl b2⟩
          · rw [e1] at b3 ⊢
            exact fin J (upd (upd I 6 0) 9 (-2)) I2 Md.rf (Md.up (Md.up Md.rf rfl) rfl) b5 b6 c4' b3 b4 rfl rfl (WRK.mv hW (b5 11 rfl) (b5 12 rfl) (b5 13 rfl) rfl rfl rfl (by omega)) (fun h9 => ⟨h9, c2⟩)
        · rw [if_neg c2]
          obtain ⟨J1, d1, d2, d3⟩ := m_wrong (B := B) (L := L) (k := 6) (z := J 4) hW (by omega) (fun h9 h8 => by have := (hW.2.2.2 h9).2.2; omega) j6 j11 (by rw [clN j4, hB3]; exact hk.2.1) (by decide)
          rw [d1, bdM_mk, m_must_go (J := J1) (z := 4) (by rw [d2 6 rfl]; exact j6) (by rw [d2 4 rfl]; exact j4) (by rw [hB2]; exact c4)]
          have ha : fX5_accept I A = (0, upd (upd (markI I 6) 6 0) 9 (-2), A) := by
            rw [hrow.2.2, x_semi i1, if_pos ⟨i6, by rw [i9]; omega⟩]; rfl
          have M0 : Md [6, 9, 11, 12, 13] I (upd (upd (markI I 6) 6 0) 9 (-2)) := Md.up (Md.up (Md.tr Md.rf markI_md rfl) rfl) rfl
          obtain ⟨J', b1, b2⟩ := sim_go (J := J1) (L := L) hE hH i10 (by omega) (by rw [d2 4 rfl]; exact j4) (by rw [d2 6 rfl]; exact j6) (by rw [d2 11 rfl]; exact j11) hB3 hm1 hr1 ha (M0 0 rfl) (M0 4 rfl) (M0 5 rfl) rfl (Md.tr Md.rf M0 rfl) Md.rf
          rw [b1]
          rcases b2 with ⟨b2, b2m⟩ | ⟨c4', e1, b3, I2, b4, b5, b6, b7⟩
          · unfold QE
            rw [bdM_mk, if_neg (by have := b2.1; omega)]
            exact ⟨_, _, _, rfl, Md.tr (Md.tr mJ d2 rfl) b2m rfl, mB, mL, fr, Or.inl b2⟩
          · rw [e1] at b3 ⊢
            refine fin J1 (upd (upd (markI I 6) 6 0) 9 (-2)) I2 d2 M0 b5 b6 c4' b3 b4 rfl rfl (WRK.mv d3 (b5 11 rfl) (b5 12 rfl) (b5 13 rfl) rfl rfl rfl (by omega)) (fun h9 => ?_)
            have h8 : (markI I 6 11).toInt = 0 := h9
            unfold markI at h8
            by_cases c9 : (I 11).toInt ≠ 0
            · rw [if_pos c9] at h8; exact absurd h8 c9
            · rw [if_neg c9] at h8
              exact absurd (show (6 : Int32).toInt = 0 from h8) (by decide)
      · rw [if_neg (show ¬ (B0 2 t).toInt = (4 : Int32).toInt from c4), if_pos rfl, m_must0 j6 j4, hB2, if_neg (show ¬ (B0 2 t).toInt = (4 : Int32).toInt from c4)]
        unfold QE
        rw [bdM_mk, if_neg (show ¬ (failJ J B t 1 6).toInt ≤ 0 from (by decide : ¬ (1 : Int32).toInt ≤ 0))]
        refine ⟨_, _, _, rfl, Md.tr mJ failJ_md rfl, mB, mL, fr, Or.inl (flt_fail (by decide) (by rw [hB3]; exact hk.2.1) j11 (xf_syntax i10 ?_))⟩
        by_cases c0 : (B0 2 t).toInt = 0
        · exact Or.inl ⟨hk.1.1.mp c0, by omega⟩
        · refine Or.inr ⟨fun h9 => c0 (hk.1.1.mpr h9), ?_⟩
          rw [hrow.1, if_neg]
          intro h9
          rcases h9 with (h9 | h9) | h9
          · exact cR (Or.inl h9)
          · rcases h9.2 with h8 | h8
            · exact cR (Or.inr h8)
            · exact c4 h8
          · omega
end
section
/-- names told ahead -/
def dupN (f : Nat → Int64) (w : Int64) : Nat → Bool
  | 0 => false
  | k + 1 => dupN f w k || decide (f k = w)
def nmI (I : Nat → Int32) (b : Bool) : Nat → Int32 := if b = true then markI I 3 else I
theorem nmI_md {I : Nat → Int32} {b : Bool} : Md [11, 12, 13] I (nmI I b) := by
  unfold nmI
  by_cases h : b = true
  · rw [if_pos h]; exact markI_md
  · rw [if_neg h]; exact Md.rf
theorem mark2 {I : Nat → Int32} : markI (markI I 3) 3 = markI I 3 := by
  have h : (markI I 3 11).toInt ≠ 0 := by
    unfold markI
    by_cases c : (I 11).toInt ≠ 0
    · rw [if_pos c]; exact c
    · rw [if_neg c]; exact (by decide : (3 : Int32).toInt ≠ 0)
  rw [show markI (markI I 3) 3 = if (markI I 3 11).toInt ≠ 0 then markI I 3 else _ from rfl, if_pos h]
theorem nm_mark {I : Nat → Int32} {b : Bool} : markI (nmI I b) 3 = nmI I true := by
  unfold nmI
  rw [if_pos rfl]
  by_cases h : b = true
  · rw [if_pos h]; exact mark2
  · rw [if_neg h]
theorem nmI_11 {I : Nat → Int32} {b : Bool} (h : (nmI I b 11).toInt = 0) : (I 11).toInt = 0 := by
  unfold nmI at h
  by_cases c : b = true
  · rw [if_pos c] at h
    unfold markI at h
    by_cases c2 : (I 11).toInt ≠ 0
    · rw [if_pos c2] at h; exact h
    · rw [if_neg c2] at h
      exact absurd (show (3 : Int32).toInt = 0 from h) (by decide)
  · rw [if_neg c] at h; exact h
theorem x_sameL {I : Nat → Int32} {A : Nat → Nat → Int32} {n s r l : Nat} {z1 z2 : Int32} (hn : (I 0).toInt = (n : Int)) (hn2 : n ≤ 2000) (hs : (I 2).toInt = (s : Int)) (h1 : z1.toInt = (r : Int)) (h2 : z2.toInt = (l : Int)) (hs2 : s + l ≤ n) (hr : r + l ≤ n) : ∀ (m : Nat) (x : Int32) (k : Nat), x.toInt = (k : Int) → k ≤ l → l - k < m → (itr_i (0 : Int32) (bX10_isSameAsAt_12 z2 I A z1) m x = 1 ∧ ∀ j, k ≤ j → j < l → bt A (s + j) = bt A (r + j)) ∨ (itr_i (0 : Int32) (bX10_isSameAsAt_12 z2 I A z1) m x = 0 ∧ ∃ j, k ≤ j ∧ j < l ∧ bt A (s + j) ≠ bt A (r + j)) := by
  intro m
  induction m with
  | zero => intro x k _ _ h; omega
  | succ m ih =>
    intro x k hx hk hm
    show (bX10_isSameAsAt_12 z2 I A z1 (itr_i (0 : Int32) (bX10_isSameAsAt_12 z2 I A z1) m) x = 1 ∧ _) ∨ (bX10_isSameAsAt_12 z2 I A z1 (itr_i (0 : Int32) (bX10_isSameAsAt_12 z2 I A z1) m) x = 0 ∧ _)
    obtain ⟨G, hG⟩ : ∃ G, G = itr_i (0 : Int32) (bX10_isSameAsAt_12 z2 I A z1) m := ⟨_, rfl⟩
    rw [← hG] at ih ⊢
    unfold bX10_isSameAsAt_12
    dsimp only [f_lt]
    by_cases h : z2.toInt ≤ x.toInt
    · rw [if_pos h]
      exact Or.inl ⟨rfl, fun j a b => by omega⟩
    · rw [if_neg h]
      have hz : (I 2 + x).toInt = ((s + k : Nat) : Int) := by rw [i32_add rfl hs hx (by omega) (by omega)]; omega
      have hz1 : (z1 + x).toInt = ((r + k : Nat) : Int) := by rw [i32_add rfl h1 hx (by omega) (by omega)]; omega
      rw [x_byte (I := I) (A := A) (z := I 2 + x) (by omega) (by omega), clN hz, x_byte (I := I) (A := A) (z := z1 + x) (by omega) (by omega), clN hz1]
      by_cases c : (A 0 (s + k)).toInt = (A 0 (r + k)).toInt
      · rw [if_pos c]
        rcases ih (x + 1) (k + 1) (by rw [i32_inc (by omega)]; omega) (by omega) (by omega) with h3 | ⟨h3, j, h4, h5, h6⟩
        · refine Or.inl ⟨h3.1, fun j a b => ?_⟩
          by_cases e : j = k
          · rw [e]; exact c
          · exact h3.2 j (by omega) b
        · exact Or.inr ⟨h3, j, by omega, h5, h6⟩
      · rw [if_neg c]
        exact Or.inr ⟨rfl, k, Nat.le_refl _, by omega, c⟩
theorem x_same {I : Nat → Int32} {A : Nat → Nat → Int32} {n s k r l : Nat} {z1 z2 : Int32} (hn : (I 0).toInt = (n : Int)) (hn2 : n ≤ 2000) (hs : (I 2).toInt = (s : Int)) (hk : (I 5 - I 2).toInt = (k : Int)) (h1 : z1.toInt = (r : Int)) (h2 : z2.toInt = (l : Int)) (hs2 : s + k ≤ n) (hr : r + l ≤ n) (hL : ∀ j, s ≤ j → j < s + k → isL (bt A j)) (hL2 : ∀ j, r ≤ j → j < r + l → isL (bt A j)) : fX10_isSameAsAt I A z1 z2 = if enc (bt A) r l = enc (bt A) s k then 1 else 0 := by
  unfold fX10_isSameAsAt
  show (if z2.toInt = (I 5 - I 2).toInt then itr_i (0 : Int32) (bX10_isSameAsAt_12 z2 I A z1) FU 0 else 0) = _
  by_cases c : z2.toInt = (I 5 - I 2).toInt
  · rw [if_pos c]
    have e : l = k := by omega
    subst e
    rcases x_sameL (A := A) hn hn2 hs h1 h2 hs2 hr FU 0 0 rfl (by omega) (by have := FU_eq; omega) with ⟨a1, a2⟩ | ⟨a1, j, a2, a3, a4⟩
    · rw [a1, if_pos (enc_eq _ (fun j hj => (a2 j (by omega) hj).symm))]
    · rw [a1, if_neg (fun h9 => a4 ((enc_inj _ _ hL2 hL h9).2 j a3).symm)]
  · rw [if_neg c, if_neg (fun h9 => c (by have := (enc_inj _ _ hL2 hL h9).1; omega))]
theorem x_names {I : Nat → Int32} {A A0 : Nat → Nat → Int32} {f7 : Nat → Int64} {w : Int64} {n nq s k : Nat} (hA : A 0 = A0 0) (hn : (I 0).toInt = (n : Int)) (hn2 : n ≤ 2000) (hs : (I 2).toInt = (s : Int)) (hk : (I 5 - I 2).toInt = (k : Int)) (hsk : s + k ≤ n) (hL : ∀ j, s ≤ j → j < s + k → isL (bt A0 j)) (hw : w.toInt = enc (bt A0) s k) (h16 : (I 16).toInt = (nq : Int)) (hnq : nq ≤ 4) (hN : ∀ q, q < nq → NAM n q A0 A (f7 q)) : ∀ (m : Nat) (x : Int32) (o : Nat), x.toInt = (o : Int) → o ≤ nq → nq - o < m → itr_iIA dfX (bX5_acceptName_10 I A) m x (nmI I (dupN f7 w o)) A = (0, upd (upd (nmI I (dupN f7 w nq)) 16 (I 16 + 1)) 6 3, up3 (up3 (up3 A 5 nq (I 2)) 6 nq (I 5 - I 2)) 4 nq 0) := by
  intro m
  induction m with
  | zero => intro x o _ _ h; omega
  | succ m ih =>
    intro x o hx ho hm
    show bX5_acceptName_10 I A (itr_iIA dfX (bX5_acceptName_10 I A) m) x (nmI I (dupN f7 w o)) A = _
    obtain ⟨G, hG⟩ : ∃ G, G = itr_iIA dfX (bX5_acceptName_10 I A) m := ⟨_, rfl⟩
    rw [← hG] at ih ⊢
    have M0 : Md [11, 12, 13] I (nmI I (dupN f7 w o)) := nmI_md
    unfold bX5_acceptName_10
    dsimp only [f_lt]
    by_cases h : (I 16).toInt ≤ x.toInt
    · have e : o = nq := by omega
      subst e
      rw [if_pos h, if_neg (by omega), if_neg (by omega), clN h16]
      have e1 : fX10_lengthAtHand (nmI I (dupN f7 w o)) (up3 A 5 o (I 2)) = I 5 - I 2 := by
        show nmI I (dupN f7 w o) 5 - nmI I (dupN f7 w o) 2 = _
        rw [M0 5 rfl, M0 2 rfl]
      rw [e1]
      have e2 : fX4_open (nmI I (dupN f7 w o)) (up3 (up3 A 5 o (I 2)) 6 o (I 5 - I 2)) = (0, upd (nmI I (dupN f7 w o)) 16 (I 16 + 1), up3 (up3 (up3 A 5 o (I 2)) 6 o (I 5 - I 2)) 4 o 0) := by
        unfold fX4_open
        rw [M0 16 rfl, if_neg (by omega), if_neg (by omega), clN h16]; rfl
      rw [e2]; rfl
    · rw [if_neg h, if_neg (by omega), clN hx]
      obtain ⟨r, l, n1, n2, n3, n4, n5, n6⟩ := hN o (by omega)
      have es : fX10_isSameAsAt (nmI I (dupN f7 w o)) A (A 5 o) (A 6 o) = if f7 o = w then 1 else 0 := by
        rw [x_same (I := nmI I (dupN f7 w o)) (A := A) (n := n) (s := s) (k := k) (by rw [M0 0 rfl]; exact hn) hn2 (by rw [M0 2 rfl]; exact hs) (by rw [M0 5 rfl, M0 2 rfl]; exact hk) n1 n2 hsk n4 (by rw [bt_eq hA]; exact hL) (by rw [bt_eq hA]; exact n5), bt_eq hA, ← n6, ← hw]
        by_cases c : f7 o = w
        · rw [if_pos c, if_pos (by rw [c])]
        · rw [if_neg c, if_neg (fun h9 => c (Int64.toInt_inj.mp h9))]
      rw [es]
      have hx1 : (x + 1).toInt = ((o + 1 : Nat) : Int) := by rw [i32_inc (by omega)]; omega
      by_cases c : f7 o = w
      · rw [if_pos c, if_neg (by decide), x_mark, nm_mark]
        have e9 : dupN f7 w (o + 1) = true := by show (dupN f7 w o || decide (f7 o = w)) = true; rw [decide_eq_true c, Bool.or_true]
        have := ih (x + 1) (o + 1) hx1 (by omega) (by omega)
        rw [e9] at this
        exact this
      · rw [if_neg c, if_pos rfl]
        have e9 : dupN f7 w (o + 1) = dupN f7 w o := by show (dupN f7 w o || decide (f7 o = w)) = _; rw [decide_eq_false c, Bool.or_false]
        have := ih (x + 1) (o + 1) hx1 (by omega) (by omega)
        rw [e9] at this
        exact this
noncomputable def bN (σ : Nat) (Jr : Nat → Int32) (Br : Nat → Nat → Int32) (y : Int32) (J1 : Nat → Int32) := if σ = 0 then bM12_tellQuery_34 Jr Br y J1 else bM12_tellQuery_34x Jr Br y J1
theorem names_body {G : Int32 → (Nat → Int32) → (Nat → Nat → Int32) → (Nat → Nat → Int64) → (Int32 × (Nat → Int32) × (Nat → Nat → Int32) × (Nat → Nat → Int64))} {J1 Jr J : Nat → Int32} {B Br : Nat → Nat → Int32} {L : Nat → Nat → Int64} {σ : Nat} {x y : Int32} : bN σ Jr Br y J1 G x J B L = if (Jr 17).toInt ≤ x.toInt then itr_IAL dfM (bQ σ Jr Br y) FU J (up3 B 11 y.toNatClampNeg 0) L else if (J1 6).toInt ≠ 0 then itr_IAL dfM (bQ σ Jr Br y) FU J (up3 B 11 y.toNatClampNeg 0) L else if (lg_cmp (L 7 x.toNatClampNeg) (L 5 (Jr 4).toNatClampNeg)).toInt ≠ 0 then G (x + Int32.ofInt 1) J B L else f_bdM (fM12_wrong J B L 3 (Jr 4)) (fun _ J3 B3 L3 => G (x + Int32.ofInt 1) J3 B3 L3) := by
  unfold bN bQ
  by_cases c : σ = 0
  · rw [if_pos c, if_pos c]; rfl
  · rw [if_neg c, if_neg c]; rfl
theorem m_names {J1 Jr I : Nat → Int32} {B Br : Nat → Nat → Int32} {L : Nat → Nat → Int64} {σ nq tq : Nat} {y : Int32} {p : Int} (h17 : (Jr 17).toInt = (nq : Int)) (hnq : nq ≤ 5) (h4 : (Jr 4).toInt = (tq : Int)) (j6 : (J1 6).toInt = 0) (hB : B 3 tq = I 2) (hW0 : WRK I J1 p) (hp : p ≤ (I 2).toInt) (j11 : J1 11 = I 9) : ∀ (m : Nat) (x : Int32) (o : Nat) (J2 : Nat → Int32), x.toInt = (o : Int) → o ≤ nq → nq - o < m → Md [8, 9, 13] J1 J2 → WRK (nmI I (dupN (L 7) (L 5 tq) o)) J2 ((I 2).toInt + 1) → ∃ J3 : Nat → Int32, itr_iIAL dfM (bN σ Jr Br y J1) m x J2 B L = itr_IAL dfM (bQ σ Jr Br y) FU J3 (up3 B 11 y.toNatClampNeg 0) L ∧ Md [8, 9, 13] J1 J3 ∧ WRK (nmI I (dupN (L 7) (L 5 tq) nq)) J3 ((I 2).toInt + 1) := by
  intro m
  induction m with
  | zero => intro x o J2 _ _ h; omega
  | succ m ih =>
    intro x o J2 hx ho hm mJ hW
    show ∃ J3 : Nat → Int32, bN σ Jr Br y J1 (itr_iIAL dfM (bN σ Jr Br y J1) m) x J2 B L = itr_IAL dfM (bQ σ Jr Br y) FU J3 (up3 B 11 y.toNatClampNeg 0) L ∧ Md [8, 9, 13] J1 J3 ∧ WRK (nmI I (dupN (L 7) (L 5 tq) nq)) J3 ((I 2).toInt + 1)
    obtain ⟨G, hG⟩ : ∃ G, G = itr_iIAL dfM (bN σ Jr Br y J1) m := ⟨_, rfl⟩
    rw [← hG] at ih ⊢
    rw [names_body]
    by_cases h : (Jr 17).toInt ≤ x.toInt
    · rw [if_pos h]
      have e : o = nq := by omega
      subst e
      exact ⟨J2, rfl, mJ, hW⟩
    · rw [if_neg h, if_neg (fun h9 => h9 j6), clN hx, clN h4]
      have hx1 : (x + Int32.ofInt 1).toInt = ((o + 1 : Nat) : Int) := by rw [show x + Int32.ofInt 1 = x + 1 from rfl, i32_inc (by omega)]; omega
      have M0 : Md [11, 12, 13] I (nmI I (dupN (L 7) (L 5 tq) o)) := nmI_md
      by_cases c : L 7 o = L 5 tq
      · rw [if_neg (fun h9 => h9 (lcmp_0.mpr c))]
        have e9 : dupN (L 7) (L 5 tq) (o + 1) = true := by show (dupN (L 7) (L 5 tq) o || decide (L 7 o = L 5 tq)) = true; rw [decide_eq_true c, Bool.or_true]
        obtain ⟨J3, d1, d2, d3⟩ := m_wrong (I := nmI I (dupN (L 7) (L 5 tq) o)) (J := J2) (B := B) (L := L) (k := 3) (z := Jr 4) hW (by rw [M0 2 rfl]; omega) (fun h9 h8 => by
          unfold nmI at h9 h8 ⊢
          by_cases c1 : dupN (L 7) (L 5 tq) o = true
          · rw [if_pos c1] at h9 h8 ⊢
            unfold markI at h9 h8 ⊢
            by_cases c2 : (I 11).toInt ≠ 0
            · rw [if_pos c2] at h9 h8 ⊢
              have := (hW0.2.2.2 h9).2.2; omega
            · rw [if_neg c2]
              exact Int.le_refl _
          · rw [if_neg c1] at h9 h8 ⊢
            have := (hW0.2.2.2 h9).2.2; omega) (by rw [mJ 6 rfl]; exact j6) (by rw [mJ 11 rfl, M0 9 rfl]; exact j11) (by rw [clN h4, M0 2 rfl]; exact hB) (by decide)
        rw [d1, bdM_mk]
        rw [nm_mark, M0 2 rfl] at d3
        obtain ⟨J4, g1, g2, g3⟩ := ih (x + Int32.ofInt 1) (o + 1) J3 hx1 (by omega) (by omega) (Md.tr mJ d2 rfl) (by rw [e9]; exact d3)
        exact ⟨J4, g1, g2, g3⟩
      · rw [if_pos (fun h9 => c (lcmp_0.mp h9))]
        have e9 : dupN (L 7) (L 5 tq) (o + 1) = dupN (L 7) (L 5 tq) o := by show (dupN (L 7) (L 5 tq) o || decide (L 7 o = L 5 tq)) = _; rw [decide_eq_false c, Bool.or_false]
        exact ih (x + Int32.ofInt 1) (o + 1) J2 hx1 (by omega) (by omega) mJ (by rw [e9]; exact hW)
end
section
theorem tq_eq {J : Nat → Int32} {B : Nat → Nat → Int32} {L : Nat → Nat → Int64} {σ : Nat} (h : (J 16).toInt = (σ : Int)) (hσ : σ ≤ 1) : fM12_tellQuery J B L = f_bdM (fM12_must (upd J 11 0) B L 1) (fun _ J1 B1 L1 => itr_iIAL dfM (bN σ J B ((if σ = 0 then (0 : Int32) else 5) + B 10 σ) J1) FU 0 J1 B1 L1) := by
  unfold fM12_tellQuery bN
  have hc : σ = 0 ∨ σ = 1 := by omega
  rcases hc with e | e
  · subst e
    have e0 : (J 16).toInt = 0 := h
    simp only [e0, ↓reduceIte, f_lt]
  · subst e
    have e0 : (J 16).toInt = 1 := h
    have e1 : ¬ ((1 : Nat) = 0) := by decide
    have e2 : ¬ ((1 : Int) = 0) := by decide
    simp only [e0, e1, e2, ↓reduceIte, f_lt]
theorem QRS.nam {n : Nat} {A0 : Nat → Nat → Int32} {σ nq : Nat} {I J : Nat → Int32} {A B : Nat → Nat → Int32} {L : Nat → Nat → Int64} {a b : Int32} (h : QRS n A0 σ nq I A J B L) : QRS n A0 σ nq I (up3 (up3 (up3 A 5 nq a) 6 nq b) 4 nq 0) J (up3 B 11 (5 * σ + nq) 0) L := by
  obtain ⟨x1, x2, x3, d⟩ := h
  refine ⟨by rw [up3_o (by decide)]; exact x1, x2, x3, fun q hq => ?_⟩
  obtain ⟨⟨e1, e2, e3, e4⟩, e5, r, l, e6⟩ := d q hq
  have f4 : up3 (up3 (up3 A 5 nq a) 6 nq b) 4 nq 0 4 q = A 4 q := by rw [up3_ne (by omega), up3_o (by decide), up3_o (by decide)]
  have f3 : up3 (up3 (up3 A 5 nq a) 6 nq b) 4 nq 0 3 = A 3 := by rw [up3_o (by decide), up3_o (by decide), up3_o (by decide)]
  have f5 : up3 (up3 (up3 A 5 nq a) 6 nq b) 4 nq 0 5 q = A 5 q := by rw [up3_o (by decide), up3_o (by decide), up3_ne (by omega)]
  have f6 : up3 (up3 (up3 A 5 nq a) 6 nq b) 4 nq 0 6 q = A 6 q := by rw [up3_o (by decide), up3_ne (by omega), up3_o (by decide)]
  refine ⟨?_, by rw [f4]; exact e5, r, l, by rw [f5, f6]; exact e6⟩
  unfold QRY
  rw [f4, f3, up3_ne (show 5 * σ + q ≠ 5 * σ + nq by omega), up3_o (show (12 : Nat) ≠ 11 by decide)]
  exact ⟨e1, e2, e3, e4⟩
theorem sim_tellQuery {n c t : Nat} {pos : Nat → Nat} {A0 B0 : Nat → Nat → Int32} {L0 : Nat → Nat → Int64} {J0 : Nat → Int32} {σ nq : Nat} {I J : Nat → Int32} {A B : Nat → Nat → Int32} {L : Nat → Nat → Int64} (hE : ENV n c pos A0 B0 L0) (hB : BASE n c pos A0 B0 L0 J0 σ I A J B L t) (hW : WRK I J (I 2).toInt) (hD : DRF σ I A B) (hQ : QRS n A0 σ nq I A J B L) (hnq : nq ≤ 4) (i6 : (I 6).toInt = 2) (i9 : I 9 = 0) (i8 : (I 8).toInt = 0) (i16 : (I 16).toInt = (nq : Int)) : RES n c pos A0 B0 L0 J0 σ I A t (fM12_tellQuery J B L) := by
  obtain ⟨hH, mJ, mB, mL, fr, j4, j6, i10, js, hσ⟩ := hB
  have hk := hand_K hE hH
  have hB2 : B 2 = B0 2 := mB 2 rfl
  have hB3 : B 3 = B0 3 := mB 3 rfl
  have h16 : (J 16).toInt = (σ : Int) := by rw [mJ 16 rfl]; exact js
  rw [tq_eq h16 hσ]
  obtain ⟨y, hy⟩ : ∃ y, y = (if σ = 0 then (0 : Int32) else 5) + B 10 σ := ⟨_, rfl⟩
  have hyt : y.toInt = 5 * (σ : Int) + nq := by
    have e5 : (if σ = 0 then (0 : Int32) else 5).toInt = 5 * (σ : Int) := by
      have hc : σ = 0 ∨ σ = 1 := by omega
      rcases hc with e | e <;> rw [e] <;> rfl
    rw [hy, i32_add rfl e5 hQ.1 (by omega) (by omega)]
  have hyc : y.toNatClampNeg = 5 * σ + nq := clN (by omega)
  rw [← hy]
  have k6 : (upd J 11 0 6).toInt = 0 := j6
  have k4 : (upd J 11 0 4).toInt = (t : Int) := j4
  have ht4 : t ≤ 400 := hH.2.2.2.2.1
  have fr1 : FRM σ B0 (up3 B 11 (5 * σ + nq) 0) := fr.upQ hσ hnq
  -- with a fault nothing goes on
  have flt : ∀ J1 : Nat → Int32, FLT I A J1 → Md MJ J J1 → RES n c pos A0 B0 L0 J0 σ I A t (itr_iIAL dfM (bN σ J B y J1) FU 0 J1 B L) := fun J1 hf m1 => by
    have h6 := hf.1
    have e : itr_iIAL dfM (bN σ J B y J1) FU 0 J1 B L = (0, J1, up3 B 11 (5 * σ + nq) 0, L) := by
      show bN σ J B y J1 (itr_iIAL dfM (bN σ J B y J1) 9999999999) 0 J1 B L = _
      rw [names_body, query_F h6 (by have := FU_eq; omega), hyc]
      by_cases c9 : (J 17).toInt ≤ (0 : Int32).toInt
      · rw [if_pos c9]
      · rw [if_neg c9, if_pos (by omega)]
    rw [e]
    exact ⟨_, _, _, rfl, Md.tr mJ m1 rfl, Md.up3 mB rfl, mL, fr1, Or.inl hf⟩
  have hm : fX5_mayStand I A = if (B0 2 t).toInt = 1 then 1 else 0 := by
    unfold fX5_mayStand
    rw [if_neg (by omega), if_neg (by omega), if_pos i6, x_isName hk.1]
    by_cases h : (B0 2 t).toInt = 1
    · rw [if_pos h]; rfl
    · rw [if_neg h]; rfl
  by_cases c1 : (B0 2 t).toInt = 1
  · rw [if_pos c1] at hm
    rw [m_must_go (J := upd J 11 0) (z := 1) k6 k4 (by rw [hB2]; exact c1)]
    obtain ⟨s, k, n1, n2, n3, n4, n5, n6⟩ := hand_N hE hH c1
    have eL5 : L 5 = L0 5 := mL 5 rfl
    have hx := x_names (I := I) (A := A) (A0 := A0) (f7 := L 7) (w := L 5 t) (n := n) (nq := nq) (s := s) (k := k) hH.1 hH.2.1 hE.1 n1 n2 n4 n5 (by rw [eL5]; exact n6) i16 hnq (fun q hq => (hQ.2.2.2 q hq).2.2) FU 0 0 rfl (by omega) (by have := FU_eq; omega)
    obtain ⟨D, hD9⟩ : ∃ D, D = dupN (L 7) (L 5 t) nq := ⟨_, rfl⟩
    rw [← hD9] at hx
    have ha : fX5_accept I A = (0, upd (upd (nmI I D) 16 (I 16 + 1)) 6 3, up3 (up3 (up3 A 5 nq (I 2)) 6 nq (I 5 - I 2)) 4 nq 0) := by
      unfold fX5_accept
      rw [if_neg (by omega), if_neg (by omega), if_pos i6]
      have e : fX5_acceptName I A = (0, upd (upd (nmI I D) 16 (I 16 + 1)) 6 3, up3 (up3 (up3 A 5 nq (I 2)) 6 nq (I 5 - I 2)) 4 nq 0) := hx
      rw [e]; rfl
    have M0 : Md [6, 11, 12, 13, 16] I (upd (upd (nmI I D) 16 (I 16 + 1)) 6 3) := Md.up (Md.up (Md.tr Md.rf nmI_md rfl) rfl) rfl
    have MA : Md [4, 5, 6] A (up3 (up3 (up3 A 5 nq (I 2)) 6 nq (I 5 - I 2)) 4 nq 0) := Md.up3 (Md.up3 (Md.up3 Md.rf rfl) rfl) rfl
    obtain ⟨J1, b1, b2⟩ := sim_go (J := upd J 11 0) (L := L) hE hH i10 (by omega) k4 k6 (by rw [i9]; rfl) hB3 hm (fun h9 => by
      unfold fX5_hasRoom
      rw [if_pos h9, if_neg (by omega), if_neg (by omega), if_pos i6]) ha (M0 0 rfl) (M0 4 rfl) (M0 5 rfl) (MA 0 rfl) (Md.tr Md.rf M0 rfl) (Md.tr Md.rf MA rfl)
    rw [b1, bdM_mk]
    rcases b2 with ⟨b2, b2m⟩ | ⟨c4, e1, b3, I2, b4, b5, b6, b7⟩
    · exact flt J1 b2 (Md.tr (Md.up Md.rf rfl) b2m rfl)
    · have q6 : (J1 6).toInt = 0 := by rw [e1]; exact j6
      have mJ1 : Md MJ J0 J1 := by rw [e1]; exact Md.up (Md.up mJ rfl) rfl
      obtain ⟨J3, g1, g2, g3⟩ := m_names (J1 := J1) (Jr := J) (I := I) (B := B) (Br := B) (L := L) (σ := σ) (nq := nq) (tq := t) (y := y) (p := (I 2).toInt) hQ.2.1 (by omega) j4 q6 (by rw [hB3]; exact hk.2.1) (by rw [e1]; exact WRK.mv hW rfl rfl rfl rfl rfl rfl (Int.le_refl _)) (Int.le_refl _) (by rw [e1, i9]; rfl) FU 0 0 J1 rfl (by omega) (by have := FU_eq; omega) Md.rf (by
        show WRK (nmI I false) J1 ((I 2).toInt + 1)
        rw [e1]
        exact WRK.mv hW rfl rfl rfl rfl rfl rfl (by omega))
      rw [g1, hyc]
      rw [← hD9] at g3
      have e11 : I2 11 = nmI I D 11 := b5 11 rfl
      have w11 : (I2 11).toInt = 0 → (I 11).toInt = 0 := fun h9 => by rw [e11] at h9; exact nmI_11 h9
      have a4 : up3 (up3 (up3 A 5 nq (I 2)) 6 nq (I 5 - I 2)) 4 nq 0 4 nq = 0 := up3_at rfl
      refine RES.red b4 (Nat.le_succ t) (sim_query (tq := t) hE h16 hQ.2.1 j4 hQ.1 hyt hnq FU I2 _ J3 _ L (t + 1) ⟨b6, Md.tr mJ1 g2 rfl, Md.up3 mB rfl, mL, fr1, by rw [g2 4 rfl]; exact b3, by rw [g2 6 rfl]; exact q6, by rw [b5 10 rfl, M0 10 rfl]; exact i10, js, hσ⟩ ?_ ?_ ?_ (by rw [b5 6 rfl]; rfl) (by rw [b5 8 rfl, M0 8 rfl]; exact i8) ?_ ?_ ?_ ?_ ?_ (by have := FU_eq; omega))
      · exact WRK.mv g3 e11 (b5 12 rfl) (b5 13 rfl) rfl rfl rfl (by omega)
      · exact DRF.mv (I := I2) (A := A) (B := B) (hD.weak (by rw [b5 14 rfl, M0 14 rfl]) w11) rfl rfl (MA 1 rfl) (MA 2 rfl) rfl rfl rfl rfl rfl rfl
      · exact QRS.mv (I := I2) (J := J) (L := L) ((hQ.weak w11).nam (a := I 2) (b := I 5 - I 2)) rfl (by rw [g2 17 rfl, e1]; rfl) rfl rfl rfl rfl rfl rfl rfl rfl
      · rw [g2 11 rfl, e1, b5 9 rfl, M0 9 rfl, i9]; rfl
      · rw [b5 16 rfl]
        show (I 16 + 1).toInt = _
        rw [i32_inc (by omega), i16]
      · rw [b5 9 rfl, M0 9 rfl, i9, a4]
      · unfold QRY
        rw [a4, up3_at rfl]
        exact ⟨rfl, Int.le_refl _, (by decide : (0 : Int32).toInt ≤ 16), fun i hi => absurd (show (i : Int) < (0 : Int32).toInt from hi) (by have : (0 : Int32).toInt = 0 := rfl; omega)⟩
      · refine ⟨s, k, ?_, ?_, n3, n4, n5, n6⟩
        · rw [up3_o (by decide), up3_o (by decide), up3_at rfl]; exact n1
        · rw [up3_o (by decide), up3_at rfl]; exact n2
  · rw [if_neg c1] at hm
    rw [m_must0 k6 k4, hB2, if_neg (show ¬ (B0 2 t).toInt = (1 : Int32).toInt from c1), bdM_mk]
    refine flt _ (flt_fail (by decide) (by rw [hB3]; exact hk.2.1) (by rw [i9]; rfl) (xf_syntax i10 ?_)) (Md.tr (Md.up Md.rf rfl) failJ_md rfl)
    by_cases c0 : (B0 2 t).toInt = 0
    · exact Or.inl ⟨hk.1.1.mp c0, by omega⟩
    · exact Or.inr ⟨fun h9 => c0 (hk.1.1.mpr h9), hm⟩
/-- one TELL -/
theorem sim_tellOne {n c t : Nat} {pos : Nat → Nat} {A0 B0 : Nat → Nat → Int32} {L0 : Nat → Nat → Int64} {J0 : Nat → Int32} {σ nq : Nat} {I J : Nat → Int32} {A B : Nat → Nat → Int32} {L : Nat → Nat → Int64} (hE : ENV n c pos A0 B0 L0) (hS : ST0 n c pos A0 B0 L0 J0 σ nq I A J B L t) (hK : (B0 2 t).toInt ≠ 0) : RES n c pos A0 B0 L0 J0 σ I A t (fM12_tellOne J B L) := by
  have hS' := hS
  obtain ⟨⟨hH, mJ, mB, mL, fr, j4, j6, i10, js, hσ⟩, hW, hD, hQ, i6, i9, j11, i8, i16⟩ := hS'
  have hk := hand_K hE hH
  have hB2 : B 2 = B0 2 := mB 2 rfl
  have hB3 : B 3 = B0 3 := mB 3 rfl
  have h16 : (J 16).toInt = (σ : Int) := by rw [mJ 16 rfl]; exact js
  have hc : σ = 0 ∨ σ = 1 := by omega
  have j9 : J 11 = I 9 := by rw [j11, i9]
  have hnq := hQ.2.2.1
  unfold fM12_tellOne
  rw [clN j4, hB2]
  by_cases c20 : (B0 2 t).toInt = 20
  · rw [if_pos c20]
    have hy : tellX (B0 2 t).toInt = 4 := by rw [c20]; rfl
    obtain ⟨J1, b1, b2⟩ := sim_begin (I1 := upd (upd (upd I 7 4) 6 1) 9 0) (L := L) hE hH i10 i6 hK hy (by decide) (fun h9 => absurd h9.1 (by decide)) j4 j6 j9 mB (by rw [a_begin hk.1 hy]; rfl) (Md.up (Md.up (Md.up Md.rf rfl) rfl) rfl)
    rw [b1, bdM_mk]
    rcases b2 with ⟨b2, b2m⟩ | ⟨c4, e1, b3, I2, b4, b5, b6, b7⟩
    · rw [if_pos (by have := b2.1; omega)]
      exact ⟨_, _, _, rfl, Md.tr mJ b2m rfl, mB, mL, fr, Or.inl b2⟩
    · have q6 : (J1 6).toInt = 0 := by rw [e1]; exact j6
      rw [if_neg (by omega)]
      have mJ1 : Md MJ J0 (upd J1 11 0) := by rw [e1]; exact Md.up (Md.up mJ rfl) rfl
      have hs := RES.red b4 (Nat.le_succ t) (sim_series (Jr := upd J1 11 0) (σ := σ) (nq := nq) (J0 := J0) hE (by rw [e1]; exact h16) FU I2 A (upd J1 11 0) B L (t + 1) ⟨b6, mJ1, mB, mL, fr, b3, q6, by rw [b5 10 rfl]; exact i10, js, hσ⟩ (by rw [e1]; exact WRK.mv hW (b5 11 rfl) (b5 12 rfl) (b5 13 rfl) rfl rfl rfl (by omega)) (hD.mv (b5 11 rfl) (b5 14 rfl) rfl rfl rfl rfl rfl rfl rfl rfl) (hQ.mv (b5 11 rfl) (by rw [e1]; rfl) rfl rfl rfl rfl rfl rfl rfl rfl) (by rw [b5 6 rfl]; rfl) (by rw [b5 8 rfl]; exact i8) (by rw [b5 9 rfl]; rfl) (by rw [b5 16 rfl]; exact i16) (by have := FU_eq; omega))
      have e9 : fM12_tellSeries J1 B L = itr_IAL dfM (bM12_tellSeries_5 (upd J1 11 0)) FU (upd J1 11 0) B L := rfl
      rw [e9]
      obtain ⟨J', B', L', r1, r2⟩ := hs
      rw [r1]
      exact ⟨J', B', L', rfl, r2⟩
  rw [if_neg c20]
  by_cases c21 : (B0 2 t).toInt = 21
  · rw [if_pos c21]
    have hy : tellX (B0 2 t).toInt = 5 := by rw [c21]; rfl
    -- both sides alike
    have main : RES n c pos A0 B0 L0 J0 σ I A t (if (B 10 σ).toInt ≠ 5 then f_bdM (fM12_goesOn J B L) (fun _ J1 B1 L1 => if (J1 6).toInt ≠ 0 then (0, J1, B1, L1) else f_bdM (fM12_tellQuery J1 B1 L1) (fun _ J2 B2 L2 => (0, J2, B2, L2))) else (0, failJ J B t 2, B, L)) := by
      by_cases c5 : (B 10 σ).toInt = 5
      · rw [if_neg (fun h9 => h9 c5)]
        obtain ⟨h1, h2, h3⟩ := a_tell hk.1 i6 hy (by decide)
        have n5 := hQ.1
        exact ⟨_, _, _, rfl, Md.tr mJ failJ_md rfl, mB, mL, fr, Or.inl (flt_fail (by decide) (by rw [hB3]; exact hk.2.1) j9 (xf_room i10 (fun h8 => hK (hk.1.1.mpr h8)) h1 (x_room0 (fun h8 => by rw [h2 h8, if_pos ⟨rfl, by omega⟩]))))⟩
      · rw [if_pos c5]
        have n5 := hQ.1
        obtain ⟨J1, b1, b2⟩ := sim_begin (I1 := upd (upd (upd I 7 5) 6 2) 9 0) (L := L) hE hH i10 i6 hK hy (by decide) (fun h9 => by omega) j4 j6 j9 mB (by rw [a_begin hk.1 hy]; rfl) (Md.up (Md.up (Md.up Md.rf rfl) rfl) rfl)
        rw [b1, bdM_mk]
        rcases b2 with ⟨b2, b2m⟩ | ⟨c4, e1, b3, I2, b4, b5, b6, b7⟩
        · rw [if_pos (by have := b2.1; omega)]
          exact ⟨_, _, _, rfl, Md.tr mJ b2m rfl, mB, mL, fr, Or.inl b2⟩
        · have q6 : (J1 6).toInt = 0 := by rw [e1]; exact j6
          rw [if_neg (by omega)]
          have mJ1 : Md MJ J0 J1 := by rw [e1]; exact Md.up mJ rfl
          have hs := RES.red b4 (Nat.le_succ t) (sim_tellQuery (σ := σ) (nq := nq) (J0 := J0) (I := I2) (J := J1) (A := A) (B := B) (L := L) hE ⟨b6, mJ1, mB, mL, fr, b3, q6, by rw [b5 10 rfl]; exact i10, js, hσ⟩ (by rw [e1]; exact WRK.mv hW (b5 11 rfl) (b5 12 rfl) (b5 13 rfl) rfl rfl rfl (by omega)) (hD.mv (b5 11 rfl) (b5 14 rfl) rfl rfl rfl rfl rfl rfl rfl rfl) (hQ.mv (b5 11 rfl) (by rw [e1]; rfl) rfl rfl rfl rfl rfl rfl rfl rfl) (by omega) (by rw [b5 6 rfl]; rfl) (by rw [b5 9 rfl]; rfl) (by rw [b5 8 rfl]; exact i8) (by rw [b5 16 rfl]; exact i16))
          obtain ⟨J', B', L', r1, r2⟩ := hs
          rw [r1]
          exact ⟨J', B', L', rfl, r2⟩
    have ef : (failJ J B t 2 6).toInt = 2 := rfl
    rcases hc with e | e
    · subst e
      have e0 : (J 16).toInt = 0 := h16
      simp only [m_fail0 j6 j4, bdM_mk, ef, j6, e0, ↓reduceIte] at main ⊢
      exact main
    · subst e
      have e0 : (J 16).toInt = 1 := h16
      simp only [m_fail0 j6 j4, bdM_mk, ef, j6, e0, ↓reduceIte] at main ⊢
      exact main
  rw [if_neg c21]
  by_cases c22 : (B0 2 t).toInt = 22
  · rw [if_pos c22]
    have main := sim_setN (k := 0) (lo := 0) (hi := 15) (y := 0) hE hS hK (by rw [c22]; rfl) ⟨rfl, Or.inl rfl⟩ rfl rfl
    rcases hc with e | e
    · subst e
      rw [if_pos (show (J 16).toInt = 0 from h16)]; exact main
    · subst e
      rw [if_neg (show ¬ (J 16).toInt = 0 by omega), if_pos (show (J 16).toInt = 1 from h16)]; exact main
  rw [if_neg c22]
  by_cases c23 : (B0 2 t).toInt = 23
  · rw [if_pos c23]
    have main := sim_setC (k := 1) (z1 := 27) (z2 := 4) (y := 1) hE hS hK (by rw [c23]; rfl) ⟨rfl, Or.inl ⟨rfl, rfl, rfl⟩⟩
    rcases hc with e | e
    · subst e
      rw [if_pos (show (J 16).toInt = 0 from h16)]; exact main
    · subst e
      rw [if_neg (show ¬ (J 16).toInt = 0 by omega), if_pos (show (J 16).toInt = 1 from h16)]; exact main
  rw [if_neg c23]
  by_cases c24 : (B0 2 t).toInt = 24
  · rw [if_pos c24]
    have main := sim_setC (k := 2) (z1 := 31) (z2 := 2) (y := 2) hE hS hK (by rw [c24]; rfl) ⟨rfl, Or.inr ⟨rfl, rfl, rfl⟩⟩
    rcases hc with e | e
    · subst e
      rw [if_pos (show (J 16).toInt = 0 from h16)]; exact main
    · subst e
      rw [if_neg (show ¬ (J 16).toInt = 0 by omega), if_pos (show (J 16).toInt = 1 from h16)]; exact main
  rw [if_neg c24]
  by_cases c25 : (B0 2 t).toInt = 25
  · rw [if_pos c25]
    have main := sim_setN (k := 3) (lo := 1) (hi := 99) (y := 3) hE hS hK (by rw [c25]; rfl) ⟨rfl, Or.inr rfl⟩ rfl rfl
    rcases hc with e | e
    · subst e
      rw [if_pos (show (J 16).toInt = 0 from h16)]; exact main
    · subst e
      rw [if_neg (show ¬ (J 16).toInt = 0 by omega), if_pos (show (J 16).toInt = 1 from h16)]; exact main
  rw [if_neg c25, m_fail0 j6 j4, bdM_mk]
  exact ⟨_, _, _, rfl, Md.tr mJ failJ_md rfl, mB, mL, fr, Or.inl (flt_fail (by decide) (by rw [hB3]; exact hk.2.1) j9 (xf_syntax i10 (Or.inr ⟨fun h9 => hK (hk.1.1.mpr h9), a_tell_no hk.1 i6 (by omega)⟩)))⟩
end
section
/-- the text is read without a fault -/
noncomputable def SUC (σ : Nat) (J : Nat → Int32) (B : Nat → Nat → Int32) (L : Nat → Nat → Int64) : Int32 × (Nat → Int32) × (Nat → Nat → Int32) × (Nat → Nat → Int64) := if σ = 1 then f_bdM (fM12_begins (upd (upd (upd J 10 (-1)) 14 (-1)) 15 1) B L) (fun _ J1 B1 L1 => f_bdM (fM12_keepsRow J1 B1 L1) (fun _ J2 B2 L2 => itr_iIAL dfM (bM12_read_224) FU 0 (upd J2 22 0) B2 L2)) else f_bdM (fM12_begins (upd (upd (upd J 10 (-1)) 14 (-1)) 15 0) B L) (fun _ J1 B1 L1 => f_bdM (fM12_keepsRow J1 B1 L1) (fun _ J2 B2 L2 => itr_iIAL dfM (bM12_read_224x) FU 0 (upd J2 22 0) B2 L2))
noncomputable def bR (σ : Nat) := if σ = 1 then bM12_read_89 else bM12_read_89x
theorem read_body {G : (Nat → Int32) → (Nat → Nat → Int32) → (Nat → Nat → Int64) → (Int32 × (Nat → Int32) × (Nat → Nat → Int32) × (Nat → Nat → Int64))} {J : Nat → Int32} {B : Nat → Nat → Int32} {L : Nat → Nat → Int64} {σ : Nat} : bR σ G J B L = if (J 6).toInt ≠ 0 then (J 6, upd (upd J 10 (J 7)) 14 (J 12), B, L) else if fM12_is J B L 0 = 0 then f_bdM (fM12_tellOne J B L) (fun _ J1 B1 L1 => G J1 B1 L1) else if (J 8).toInt ≤ 0 then SUC σ J B L else (J 8, upd (upd J 10 (J 9)) 14 (J 13), B, L) := by
  unfold bR SUC
  by_cases c : σ = 1
  · rw [if_pos c, if_pos c]
    unfold bM12_read_89
    rfl
  · rw [if_neg c, if_neg c]
    unfold bM12_read_89x
    rfl
def OUT (n c : Nat) (pos : Nat → Nat) (A0 B0 : Nat → Nat → Int32) (L0 : Nat → Nat → Int64) (J0 : Nat → Int32) (σ : Nat) (I : Nat → Int32) (A : Nat → Nat → Int32) (R : Int32 × (Nat → Int32) × (Nat → Nat → Int32) × (Nat → Nat → Int64)) : Prop :=
  (∃ (k pl ca : Int32) (J' : Nat → Int32) (B' : Nat → Nat → Int32) (L' : Nat → Nat → Int64), R = (k, upd (upd J' 10 pl) 14 ca, B', L') ∧ k.toInt ≠ 0 ∧ XF I A k pl ca ∧ Md MJ J0 J' ∧ Md MB B0 B' ∧ Md [7] L0 L' ∧ FRM σ B0 B') ∨
  (∃ (I' : Nat → Int32) (A' : Nat → Nat → Int32) (J' : Nat → Int32) (B' : Nat → Nat → Int32) (L' : Nat → Nat → Int64) (t nq : Nat), R = SUC σ J' B' L' ∧ Ev I A (0, I', A') ∧ Md SX I I' ∧ Md SXA A A' ∧ ST0 n c pos A0 B0 L0 J0 σ nq I' A' J' B' L' t ∧ (I' 11).toInt = 0)
theorem OUT.red {n c : Nat} {pos : Nat → Nat} {A0 B0 : Nat → Nat → Int32} {L0 : Nat → Nat → Int64} {J0 : Nat → Int32} {σ : Nat} {I I1 : Nat → Int32} {A A1 : Nat → Nat → Int32} {R : Int32 × (Nat → Int32) × (Nat → Nat → Int32) × (Nat → Nat → Int64)} (h : Red I A I1 A1) (h2 : OUT n c pos A0 B0 L0 J0 σ I1 A1 R) : OUT n c pos A0 B0 L0 J0 σ I A R := by
  rcases h2 with ⟨k, pl, ca, J', B', L', a1, a2, a3, a4⟩ | ⟨I', A', J', B', L', t, nq, a1, a2, a3, a4, a5⟩
  · exact Or.inl ⟨k, pl, ca, J', B', L', a1, a2, XF.red h a3, a4⟩
  · exact Or.inr ⟨I', A', J', B', L', t, nq, a1, h.1 _ a2, Md.tr h.2.1 a3 rfl, Md.tr h.2.2 a4 rfl, a5⟩
theorem sim_all {n c : Nat} {pos : Nat → Nat} {A0 B0 : Nat → Nat → Int32} {L0 : Nat → Nat → Int64} {J0 : Nat → Int32} {σ : Nat} (hE : ENV n c pos A0 B0 L0) :
    ∀ (m : Nat) (I : Nat → Int32) (A : Nat → Nat → Int32) (J : Nat → Int32) (B : Nat → Nat → Int32) (L : Nat → Nat → Int64) (t nq : Nat), ST0 n c pos A0 B0 L0 J0 σ nq I A J B L t → 403 - t < m → OUT n c pos A0 B0 L0 J0 σ I A (itr_IAL dfM (bR σ) m J B L) := by
  intro m
  induction m with
  | zero => intro I A J B L t nq _ h; omega
  | succ m ih =>
    intro I A J B L t nq hS hm
    show OUT n c pos A0 B0 L0 J0 σ I A (bR σ (itr_IAL dfM (bR σ) m) J B L)
    obtain ⟨G, hG⟩ : ∃ G, G = itr_IAL dfM (bR σ) m := ⟨_, rfl⟩
    rw [← hG] at ih ⊢
    have hS' := hS
    obtain ⟨⟨hH, mJ, mB, mL, fr, j4, j6, i10, js, hσ⟩, hW, hD, hQ, i6, i9, j11, i8, i16⟩ := hS'
    have hk := hand_K hE hH
    have ht4 : t ≤ 400 := hH.2.2.2.2.1
    rw [read_body, if_neg (fun h9 => h9 j6), m_is0 j6 j4, mB 2 rfl]
    by_cases c0 : (B0 2 t).toInt = 0
    · rw [if_pos (show (B0 2 t).toInt = (0 : Int32).toInt from c0), if_neg (by decide)]
      have i1 : (I 1).toInt = 0 := hk.1.1.mp c0
      have hev := ev_end (A := A) i10 i1 i6
      obtain ⟨w1, w2, w3, w4⟩ := hW
      by_cases c8 : (J 8).toInt ≤ 0
      · rw [if_pos c8]
        have z11 : (I 11).toInt = 0 := by rw [w1] at c8; omega
        have e0 : I 11 = 0 := Int32.toInt_inj.mp z11
        rw [e0] at hev
        exact Or.inr ⟨I, A, J, B, L, t, nq, rfl, hev, Md.rf, Md.rf, hS, z11⟩
      · rw [if_neg c8]
        have z11 : (I 11).toInt ≠ 0 := by rw [w1] at c8; omega
        obtain ⟨x1, x2, x3⟩ := w4 z11
        exact Or.inl ⟨J 8, J 9, J 13, J, B, L, rfl, by rw [w1]; exact z11, ⟨I, A, by rw [w1]; exact hev, x1.symm, x2.symm, Md.rf, Md.rf⟩, mJ, mB, mL, fr⟩
    · rw [if_neg (show ¬ (B0 2 t).toInt = (0 : Int32).toInt from c0), if_pos rfl]
      obtain ⟨J', B', L', r1, r2, r3, r4, r5, r6⟩ := sim_tellOne hE hS c0
      rw [r1, bdM_mk]
      rcases r6 with hf | ⟨I2, A2, t2, nq2, s1, s2, s3⟩
      · -- the next round of the reference's loop ends
        have h6 := hf.1
        have e : G J' B' L' = (J' 6, upd (upd J' 10 (J' 7)) 14 (J' 12), B', L') := by
          rw [hG]
          cases m with
          | zero => omega
          | succ m =>
            show bR σ (itr_IAL dfM (bR σ) m) J' B' L' = _
            rw [read_body, if_pos (by omega)]
        rw [e]
        exact Or.inl ⟨J' 6, J' 7, J' 12, J', B', L', rfl, by omega, hf.2, r2, r3, r4, r5⟩
      · exact OUT.red s2 (ih I2 A2 J' B' L' t2 nq2 s3 (by omega))
/-- the class begins to read -/
theorem x_clear7 {I : Nat → Int32} {A : Nat → Nat → Int32} : fX7_clear I A = (0, I, up3 (up3 (up3 (up3 A 2 0 2) 2 1 0) 2 2 0) 2 3 8) := by
  have e : ∀ (m : Nat) (x : Int32) (A : Nat → Nat → Int32), itr_iIA dfX bX7_clear_2 (m + 1) x I A = bX7_clear_2 (itr_iIA dfX bX7_clear_2 m) x I A := fun _ _ _ => rfl
  obtain ⟨m, hm⟩ : ∃ m, FU = m + 1 + 1 + 1 + 1 + 1 := ⟨FU - 5, by have := FU_eq; omega⟩
  unfold fX7_clear
  rw [hm, e]
  generalize hG : itr_iIA dfX bX7_clear_2 (m + 1 + 1 + 1 + 1) = G
  show G 1 I (up3 A 2 0 2) = _
  rw [← hG, e]
  generalize hG2 : itr_iIA dfX bX7_clear_2 (m + 1 + 1 + 1) = G2
  show G2 2 I (up3 (up3 A 2 0 2) 2 1 0) = _
  rw [← hG2, e]
  generalize hG3 : itr_iIA dfX bX7_clear_2 (m + 1 + 1) = G3
  show G3 3 I (up3 (up3 (up3 A 2 0 2) 2 1 0) 2 2 0) = _
  rw [← hG3, e]
  generalize hG4 : itr_iIA dfX bX7_clear_2 (m + 1) = G4
  show G4 4 I (up3 (up3 (up3 (up3 A 2 0 2) 2 1 0) 2 2 0) 2 3 8) = _
  rw [← hG4, e]
  generalize itr_iIA dfX bX7_clear_2 m = G5
  rfl
end
