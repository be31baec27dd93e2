theorem levX_at {K : Int} : (levX K).toInt = if 27 ≤ K ∧ K ≤ 30 then K - 27 else -1 := by
  unfold levX
  by_cases h0 : K = 27
  · rw [if_pos h0, if_pos (by omega), h0]; rfl
  · rw [if_neg h0]
    by_cases h1 : K = 28
    · rw [if_pos h1, if_pos (by omega), h1]; rfl
    · rw [if_neg h1]
      by_cases h2 : K = 29
      · rw [if_pos h2, if_pos (by omega), h2]; rfl
      · rw [if_neg h2]
        by_cases h3 : K = 30
        · rw [if_pos h3, if_pos (by omega), h3]; rfl
        · rw [if_neg h3, if_neg (by omega)]; rfl
theorem cosX_at {K : Int} : (cosX K).toInt = if 31 ≤ K ∧ K ≤ 32 then K - 31 else -1 := by
  unfold cosX
  by_cases h0 : K = 31
  · rw [if_pos h0, if_pos (by omega), h0]; rfl
  · rw [if_neg h0]
    by_cases h1 : K = 32
    · rw [if_pos h1, if_pos (by omega), h1]; rfl
    · rw [if_neg h1, if_neg (by omega)]; rfl
/-- a choice and its ';' -/
theorem sim_cho {n c t : Nat} {pos : Nat → Nat} {A0 B0 : Nat → Nat → Int32} {L0 : Nat → Nat → Int64} {I J : Nat → Int32} {A B : Nat → Nat → Int32} {L : Nat → Nat → Int64} {z1 z2 : Int32} (hE : ENV n c pos A0 B0 L0) (hH : HAND n c pos A0 I A t) (i10 : (I 10).toInt = 0) (i6 : (I 6).toInt = 5) (hy : ((I 7).toInt = 1 ∧ z1.toInt = 27 ∧ z2.toInt = 4) ∨ ((I 7).toInt = 2 ∧ z1.toInt = 31 ∧ z2.toInt = 2)) (j4 : (J 4).toInt = (t : Int)) (j6 : (J 6).toInt = 0) (j11 : J 11 = I 9) (hB : Md MB B0 B) (hW : WRK I J (I 2).toInt) :
    (¬ (B 2 t - z1).toInt < 0 → (B 2 t - z1).toInt < z2.toInt → ∃ J' : Nat → Int32, f_bdM (fM12_goesOn J B L) (fun _ J1 B1 L1 => f_bdM (fM12_must J1 B1 L1 4) (fun _ J2 B2 L2 => (B 2 t - z1, J2, B2, L2))) = (B 2 t - z1, J', B, L) ∧ ((FLT I A J' ∧ Md MJ J J') ∨ ∃ (I2 : Nat → Int32) (t2 : Nat), t < t2 ∧ Red I A I2 (up3 A 2 (I 7).toNatClampNeg (B 2 t - z1)) ∧ PT n c pos A0 I (up3 A 2 (I 7).toNatClampNeg (B 2 t - z1)) J I2 J' t2 (0 ≤ (B 2 t - z1).toInt ∧ (B 2 t - z1).toInt < z2.toInt))) ∧
    ((B 2 t - z1).toInt < 0 ∨ ¬ (B 2 t - z1).toInt < z2.toInt → FLT I A (failJ J B t 1)) := by
  have hk := hand_K hE hH
  have hB2 : B 2 = B0 2 := hB 2 rfl
  have hB3 : B 3 = B0 3 := hB 3 rfl
  have hKr := hk.1.2.2.2.2.2.2
  have ey : (B 2 t - z1).toInt = (B0 2 t).toInt - z1.toInt := by rw [hB2]; exact i32_sub rfl rfl rfl (by omega) (by omega)
  have hch : (fX5_choiceAtHand I A).toInt = if 0 ≤ (B 2 t - z1).toInt ∧ (B 2 t - z1).toInt < z2.toInt then (B 2 t - z1).toInt else -1 := by
    rw [x_choice hk.1, ey]
    rcases hy with ⟨a, b, d⟩ | ⟨a, b, d⟩
    · rw [if_pos a, levX_at, b, d]
      by_cases h9 : 27 ≤ (B0 2 t).toInt ∧ (B0 2 t).toInt ≤ 30
      · rw [if_pos h9, if_pos (by omega)]
      · rw [if_neg h9, if_neg (by omega)]
    · rw [if_neg (by omega), cosX_at, b, d]
      by_cases h9 : 31 ≤ (B0 2 t).toInt ∧ (B0 2 t).toInt ≤ 32
      · rw [if_pos h9, if_pos (by omega)]
      · rw [if_neg h9, if_neg (by omega)]
  have hm0 : fX5_mayStand I A = if (fX5_choiceAtHand I A).toInt < 0 then 0 else 1 := by
    unfold fX5_mayStand
    rw [if_neg (by omega), if_neg (by omega), if_neg (by omega), if_neg (by omega), if_neg (by omega), if_pos i6]; rfl
  refine ⟨fun c1 c2 => ?_, fun c1 => ?_⟩
  · rw [if_pos (by omega)] at hch
    have ec : fX5_choiceAtHand I A = B 2 t - z1 := Int32.toInt_inj.mp hch
    have hm : fX5_mayStand I A = 1 := by rw [hm0, if_neg (by omega)]
    have hr : (I 4).toInt ≤ 400 → fX5_hasRoom I A = 1 := fun h9 => by
      unfold fX5_hasRoom
      rw [if_pos h9, if_neg (by omega), if_neg (by omega), if_neg (by omega), if_neg (by omega)]
    have ha : fX5_accept I A = (0, upd I 6 6, up3 A 2 (I 7).toNatClampNeg (B 2 t - z1)) := by
      unfold fX5_accept
      rw [if_neg (by omega), if_neg (by omega), if_neg (by omega), if_neg (by omega), if_neg (by omega), if_pos i6, ec]
      show f_bdX (fX7_put I A (I 7) (B 2 t - z1)) (fun _ I2 A2 => (0, upd I2 6 6, A2)) = _
      rw [x_put (by omega) (by omega)]; rfl
    obtain ⟨J2, b1, b2⟩ := sim_go (J := J) (L := L) hE hH i10 (by omega) j4 j6 j11 hB3 hm hr ha rfl rfl rfl rfl (Md.up Md.rf rfl) (Md.up3 Md.rf rfl)
    rw [b1, bdM_mk]
    rcases b2 with ⟨b2, b2m⟩ | ⟨c4, e1, b3, I2, b4, b5, b6, b7⟩
    · rw [m_mustF b2.1]
      exact ⟨J2, rfl, Or.inl ⟨b2, b2m⟩⟩
    · have k6 : (J2 6).toInt = 0 := by rw [e1]; exact j6
      have k11 : J2 11 = I2 9 := by rw [e1, b5 9 rfl]; exact j11
      have hW2 : WRK I2 J2 (I2 2).toInt := by rw [e1]; exact WRK.mv hW (b5 11 rfl) (b5 12 rfl) (b5 13 rfl) rfl rfl rfl (by omega)
      obtain ⟨J3, d1, d2⟩ := sim_end (J := J2) (L := L) hE b6 (by rw [b5 10 rfl]; exact i10) (by rw [b5 6 rfl]; rfl) b3 k6 k11 hB
      rw [d1]
      have mJ2 : Md [4, 8, 9, 13] J J2 := by rw [e1]; exact Md.up Md.rf rfl
      refine ⟨J3, rfl, ?_⟩
      rcases d2 with ⟨d2, d2m⟩ | ⟨c4', e2, d3, I3, d4, d5, d6, d7⟩
      · exact Or.inl ⟨FLT.red b4 d2, Md.tr (Md.tr Md.rf mJ2 rfl) d2m rfl⟩
      · refine Or.inr ⟨I3, t + 1 + 1, by omega, b4.tr d4, d6, d3, by rw [e2]; exact k6, by rw [e2]; exact Md.up mJ2 rfl, ?_, ?_, ?_, ?_, ?_, ?_, ?_, ?_⟩
        · rw [e2]; exact WRK.mv hW2 (d5 11 rfl) (d5 12 rfl) (d5 13 rfl) rfl rfl rfl (by omega)
        · rw [d5 10 rfl]; show (I2 10).toInt = 0; rw [b5 10 rfl]; exact i10
        · rw [d5 6 rfl]; rfl
        · rw [d5 8 rfl]; show I2 8 = I 8; rw [b5 8 rfl]; rfl
        · rw [d5 9 rfl]; show I2 9 = I 9; rw [b5 9 rfl]; rfl
        · rw [d5 14 rfl]; show I2 14 = I 14; rw [b5 14 rfl]; rfl
        · rw [d5 16 rfl]; show I2 16 = I 16; rw [b5 16 rfl]; rfl
        · rw [d5 11 rfl]
          show (I2 11).toInt = 0 → _
          rw [b5 11 rfl]
          exact fun h9 => ⟨h9, by omega⟩
  · rw [if_neg (by omega)] at hch
    refine flt_fail (by decide) (by rw [hB3]; exact hk.2.1) j11 (xf_syntax i10 ?_)
    by_cases c0 : (B0 2 t).toInt = 0
    · exact Or.inl ⟨hk.1.1.mp c0, by omega⟩
    · exact Or.inr ⟨fun h9 => c0 (hk.1.1.mpr h9), by rw [hm0, if_pos (by omega)]⟩
/-- how the settings of the draft go on -/
theorem DRF.set {σ : Nat} {I I2 : Nat → Int32} {A B : Nat → Nat → Int32} {v : Int32} {k : Nat} (h : DRF σ I A B) (hk : k < 4) (e14 : I2 14 = I 14) (h11 : (I2 11).toInt = 0 → (I 11).toInt = 0 ∧ (k = 0 → 0 ≤ v.toInt ∧ v.toInt ≤ 15) ∧ (k = 1 → 0 ≤ v.toInt ∧ v.toInt ≤ 3) ∧ (k = 2 → 0 ≤ v.toInt ∧ v.toInt ≤ 1) ∧ (k = 3 → 1 ≤ v.toInt ∧ v.toInt ≤ 99)) : DRF σ I2 (up3 A 2 k v) (up3 B (13 + k) σ v) := by
  have hw : DRF σ I2 A B := h.weak e14 (fun h9 => (h11 h9).1)
  obtain ⟨a, b, c, d, ⟨e0, e1, e2, e3⟩, f⟩ := hw
  have u : ∀ x, x < 13 → up3 B (13 + k) σ v x = B x := fun x hx => up3_o (by omega)
  have r : ∀ i, up3 B (13 + k) σ v (13 + i) σ = if i = k then v else B (13 + i) σ := fun i => by
    by_cases c9 : i = k
    · rw [if_pos c9, c9]; exact up3_at rfl
    · rw [if_neg c9, up3_o (by omega)]
  have s : ∀ i, up3 A 2 k v 2 i = if i = k then v else A 2 i := fun i => by
    by_cases c9 : i = k
    · rw [if_pos c9]; exact up3_at c9
    · rw [if_neg c9]; exact up3_ne c9
  refine ⟨by rw [u 8 (by decide)]; exact a, b, c, fun j hj => ?_, ⟨?_, ?_, ?_, ?_⟩, fun h9 => ?_⟩
  · rw [up3_o (show (1 : Nat) ≠ 2 by decide), u 9 (by decide)]; exact d j hj
  · rw [show (13 : Nat) = 13 + 0 from rfl, r 0, s 0, e0]
  · rw [show (14 : Nat) = 13 + 1 from rfl, r 1, s 1, e1]
  · rw [show (15 : Nat) = 13 + 2 from rfl, r 2, s 2, e2]
  · rw [show (16 : Nat) = 13 + 3 from rfl, r 3, s 3, e3]
  · obtain ⟨f0, f1, f2, f3⟩ := f h9
    obtain ⟨-, g0, g1, g2, g3⟩ := h11 h9
    unfold SOK
    rw [s 0, s 1, s 2, s 3]
    refine ⟨?_, ?_, ?_, ?_⟩
    · by_cases c9 : 0 = k
      · rw [if_pos c9]; exact g0 c9.symm
      · rw [if_neg c9]; exact f0
    · by_cases c9 : 1 = k
      · rw [if_pos c9]; exact g1 c9.symm
      · rw [if_neg c9]; exact f1
    · by_cases c9 : 2 = k
      · rw [if_pos c9]; exact g2 c9.symm
      · rw [if_neg c9]; exact f2
    · by_cases c9 : 3 = k
      · rw [if_pos c9]; exact g3 c9.symm
      · rw [if_neg c9]; exact f3
