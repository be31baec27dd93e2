/-- the ';' behind a number or a choice -/
theorem sim_end {n c t : Nat} {pos : Nat → Nat} {A0 B0 : Nat → Nat → Int32} {L0 : Nat → Nat → Int64} {I J : Nat → Int32} {A B : Nat → Nat → Int32} {L : Nat → Nat → Int64} (hE : ENV n c pos A0 B0 L0) (hH : HAND n c pos A0 I A t) (i10 : (I 10).toInt = 0) (i6 : (I 6).toInt = 6) (j4 : (J 4).toInt = (t : Int)) (j6 : (J 6).toInt = 0) (j11 : J 11 = I 9) (hB : Md MB B0 B) : ∃ J' : Nat → Int32, fM12_must J B L 4 = (0, J', B, L) ∧ ((FLT I A J' ∧ Md MJ J J') ∨ (t ≠ 400 ∧ J' = upd J 4 (J 4 + 1) ∧ (J' 4).toInt = ((t + 1 : Nat) : Int) ∧ ∃ I2 : Nat → Int32, Red I A I2 A ∧ Md [1, 2, 3, 4, 5] (upd I 6 0) I2 ∧ HAND n c pos A0 I2 A (t + 1) ∧ (I 2).toInt < (I2 2).toInt)) := by
  have hk := hand_K hE hH
  have hB2 : B 2 = B0 2 := hB 2 rfl
  have hB3 : B 3 = B0 3 := hB 3 rfl
  have hm : fX5_mayStand I A = if (B0 2 t).toInt = 4 then 1 else 0 := by
    unfold fX5_mayStand
    rw [if_neg (by omega), if_neg (by omega), if_neg (by omega), if_neg (by omega), if_neg (by omega), if_neg (by omega)]
    have k3 := hk.1.2.2.1
    by_cases h : (B0 2 t).toInt = 4
    · rw [if_pos h, if_neg (fun h9 => h9 (k3.mp h))]
    · rw [if_neg h, if_pos (fun h9 => h (k3.mpr h9))]
  by_cases c4 : (B0 2 t).toInt = 4
  · rw [m_must_go (z := 4) j6 j4 (by rw [hB2]; exact c4)]
    rw [if_pos c4] at hm
    exact sim_go (J := J) (L := L) hE hH i10 (by omega) j4 j6 j11 hB3 hm (fun h9 => by
      unfold fX5_hasRoom
      rw [if_pos h9, if_neg (by omega), if_neg (by omega), if_neg (by omega), if_neg (by omega)]) (by
      unfold fX5_accept
      rw [if_neg (by omega), if_neg (by omega), if_neg (by omega), if_neg (by omega), if_neg (by omega), if_neg (by omega), if_pos i6]) rfl rfl rfl rfl (Md.up Md.rf rfl) Md.rf
  · rw [m_must0 j6 j4, hB2, if_neg (show ¬ (B0 2 t).toInt = (4 : Int32).toInt from c4)]
    rw [if_neg c4] at hm
    refine ⟨_, rfl, Or.inl ⟨flt_fail (by decide) (by rw [hB3]; exact hk.2.1) j11 (xf_syntax i10 ?_), failJ_md⟩⟩
    by_cases c0 : (B0 2 t).toInt = 0
    · exact Or.inl ⟨hk.1.1.mp c0, by omega⟩
    · exact Or.inr ⟨fun h9 => c0 (hk.1.1.mpr h9), hm⟩
def loY (y : Int32) : Int := if y.toInt = 3 then 1 else 0
def hiY (y : Int32) : Int := if y.toInt = 3 then 99 else 15
theorem x_allows {I : Nat → Int32} {A : Nat → Nat → Int32} {y v : Int32} (hy : y.toInt = 0 ∨ y.toInt = 3) : fX7_allows I A y v = if loY y ≤ v.toInt ∧ v.toInt ≤ hiY y then 1 else 0 := by
  unfold fX7_allows loY hiY
  rcases hy with hy | hy
  · rw [if_neg (by omega), if_neg (by omega), if_pos hy, if_neg (show ¬ y.toInt = 3 by omega), if_neg (show ¬ y.toInt = 3 by omega)]
    by_cases c1 : v.toInt < 0
    · rw [if_pos c1, if_neg (by omega)]
    · rw [if_neg c1]
      by_cases c2 : 15 < v.toInt
      · rw [if_pos c2, if_neg (by omega)]
      · rw [if_neg c2, if_pos (by omega)]
  · rw [if_neg (by omega), if_neg (by omega), if_neg (by omega), if_neg (by omega), if_neg (by omega), if_pos hy, if_pos hy, if_pos hy]
    by_cases c1 : v.toInt < 1
    · rw [if_pos c1, if_neg (by omega)]
    · rw [if_neg c1]
      by_cases c2 : 99 < v.toInt
      · rw [if_pos c2, if_neg (by omega)]
      · rw [if_neg c2, if_pos (by omega)]
theorem x_put {I : Nat → Int32} {A : Nat → Nat → Int32} {y v : Int32} (h0 : 0 ≤ y.toInt) (h4 : y.toInt < 4) : fX7_put I A y v = (0, I, up3 A 2 y.toNatClampNeg v) := by
  unfold fX7_put
  rw [if_neg (by omega), if_neg (by omega)]
def mnI (I : Nat → Int32) : Nat → Int32 := if loY (I 7) ≤ (I 3).toInt ∧ (I 3).toInt ≤ hiY (I 7) then I else markI I 5
theorem mnI_md {I : Nat → Int32} : Md [11, 12, 13] I (mnI I) := by
  unfold mnI
  by_cases c : loY (I 7) ≤ (I 3).toInt ∧ (I 3).toInt ≤ hiY (I 7)
  · rw [if_pos c]; exact Md.rf
  · rw [if_neg c]; exact markI_md
theorem x_number {I : Nat → Int32} {A : Nat → Nat → Int32} (hy : (I 7).toInt = 0 ∨ (I 7).toInt = 3) : fX5_acceptNumber I A = (0, upd (mnI I) 6 6, up3 A 2 (I 7).toNatClampNeg (I 3)) := by
  unfold fX5_acceptNumber mnI
  rw [x_allows hy]
  by_cases c : loY (I 7) ≤ (I 3).toInt ∧ (I 3).toInt ≤ hiY (I 7)
  · rw [if_pos c, if_neg (by decide), if_pos c, x_put (by omega) (by omega)]; rfl
  · rw [if_neg c, if_pos rfl, if_neg c, x_mark]
    show f_bdX (fX7_put (markI I 5) A (I 7) (I 3)) (fun _ I2 A2 => (0, upd I2 6 6, A2)) = _
    rw [x_put (by omega) (by omega)]; rfl
/-- what stands behind a TELL of a number or of a choice -/
def PT (n c : Nat) (pos : Nat → Nat) (A0 : Nat → Nat → Int32) (I : Nat → Int32) (A1 : Nat → Nat → Int32) (J I2 J2 : Nat → Int32) (t2 : Nat) (ok : Prop) : Prop :=
  HAND n c pos A0 I2 A1 t2 ∧ (J2 4).toInt = (t2 : Int) ∧ (J2 6).toInt = 0 ∧ Md [4, 8, 9, 13] J J2 ∧ WRK I2 J2 (I2 2).toInt ∧ (I2 10).toInt = 0 ∧ (I2 6).toInt = 0 ∧ I2 8 = I 8 ∧ I2 9 = I 9 ∧ I2 14 = I 14 ∧ I2 16 = I 16 ∧ ((I2 11).toInt = 0 → (I 11).toInt = 0 ∧ ok)
theorem m_boundF {J : Nat → Int32} {B : Nat → Nat → Int32} {L : Nat → Nat → Int64} {z w : Int32} (h : 0 < (J 6).toInt) : fM12_bounded J B L z w = (z, J, B, L) := by
  unfold fM12_bounded
  rw [if_pos h, m_failF h]; rfl
theorem sim_num {n c t : Nat} {pos : Nat → Nat} {A0 B0 : Nat → Nat → Int32} {L0 : Nat → Nat → Int64} {I J : Nat → Int32} {A B : Nat → Nat → Int32} {L : Nat → Nat → Int64} {lo hi : Int32} (hE : ENV n c pos A0 B0 L0) (hH : HAND n c pos A0 I A t) (i10 : (I 10).toInt = 0) (i6 : (I 6).toInt = 4) (hy : (I 7).toInt = 0 ∨ (I 7).toInt = 3) (hlo : lo.toInt = loY (I 7)) (hhi : hi.toInt = hiY (I 7)) (j4 : (J 4).toInt = (t : Int)) (j6 : (J 6).toInt = 0) (j11 : J 11 = I 9) (hB : Md MB B0 B) (hW : WRK I J (I 2).toInt) : ∃ (v : Int32) (J' : Nat → Int32), f_bdM (fM12_bounded J B L lo hi) (fun y J1 B1 L1 => f_bdM (fM12_must J1 B1 L1 4) (fun _ J2 B2 L2 => (y, J2, B2, L2))) = (v, J', B, L) ∧ ((FLT I A J' ∧ Md MJ J J') ∨ ∃ (I2 : Nat → Int32) (t2 : Nat), t < t2 ∧ Red I A I2 (up3 A 2 (I 7).toNatClampNeg v) ∧ PT n c pos A0 I (up3 A 2 (I 7).toNatClampNeg v) J I2 J' t2 (loY (I 7) ≤ v.toInt ∧ v.toInt ≤ hiY (I 7))) := by
  have hk := hand_K hE hH
  have hB2 : B 2 = B0 2 := hB 2 rfl
  have hB3 : B 3 = B0 3 := hB 3 rfl
  have hB4 : B 4 = B0 4 := hB 4 rfl
  have hm : fX5_mayStand I A = if (B0 2 t).toInt = 2 then 1 else 0 := by
    unfold fX5_mayStand
    rw [if_neg (by omega), if_neg (by omega), if_neg (by omega), if_neg (by omega), if_pos i6]
    have k3 := hk.1.2.1
    by_cases h : (B0 2 t).toInt = 2
    · rw [if_pos h, if_neg (fun h9 => h9 (k3.mp h))]
    · rw [if_neg h, if_pos (fun h9 => h (k3.mpr h9))]
  by_cases c2 : (B0 2 t).toInt = 2
  · rw [if_pos c2] at hm
    obtain ⟨v1, v2, v3⟩ := hk.2.2.1 c2
    have hr : (I 4).toInt ≤ 400 → fX5_hasRoom I A = 1 := fun h9 => by
      unfold fX5_hasRoom
      rw [if_pos h9, if_neg (by omega), if_neg (by omega), if_neg (by omega), if_neg (by omega)]
    have ha : fX5_accept I A = (0, upd (mnI I) 6 6, up3 A 2 (I 7).toNatClampNeg (I 3)) := by
      unfold fX5_accept
      rw [if_neg (by omega), if_neg (by omega), if_neg (by omega), if_neg (by omega), if_pos i6, x_number hy]; rfl
    have M0 : Md [6, 11, 12, 13] I (upd (mnI I) 6 6) := Md.up (Md.tr Md.rf mnI_md rfl) rfl
    have hM : ∀ J1 : Nat → Int32, Md [8, 9, 13] J J1 → WRK (mnI I) J1 ((I 2).toInt + 1) → ∃ (v : Int32) (J' : Nat → Int32), f_bdM (fM12_goesOn J1 B L) (fun _ J2 B2 L2 => f_bdM (fM12_must J2 B2 L2 4) (fun _ J3 B3 L3 => (I 3, J3, B3, L3))) = (v, J', B, L) ∧ ((FLT I A J' ∧ Md MJ J J') ∨ ∃ (I2 : Nat → Int32) (t2 : Nat), t < t2 ∧ Red I A I2 (up3 A 2 (I 7).toNatClampNeg v) ∧ PT n c pos A0 I (up3 A 2 (I 7).toNatClampNeg v) J I2 J' t2 (loY (I 7) ≤ v.toInt ∧ v.toInt ≤ hiY (I 7))) := by
      intro J1 g1 g2
      obtain ⟨J2, b1, b2⟩ := sim_go (J := J1) (L := L) hE hH i10 (by omega) (by rw [g1 4 rfl]; exact j4) (by rw [g1 6 rfl]; exact j6) (by rw [g1 11 rfl]; exact j11) hB3 hm hr ha (M0 0 rfl) (M0 4 rfl) (M0 5 rfl) rfl (Md.tr Md.rf M0 rfl) (Md.up3 Md.rf rfl)
      rw [b1, bdM_mk]
      rcases b2 with ⟨b2, b2m⟩ | ⟨c4, e1, b3, I2, b4, b5, b6, b7⟩
      · rw [m_mustF b2.1]
        exact ⟨I 3, J2, rfl, Or.inl ⟨b2, Md.tr (Md.tr Md.rf g1 rfl) b2m rfl⟩⟩
      · have k6 : (J2 6).toInt = 0 := by rw [e1]; show (J1 6).toInt = 0; rw [g1 6 rfl]; exact j6
        have k11 : J2 11 = I2 9 := by
          rw [e1, b5 9 rfl, M0 9 rfl]
          show J1 11 = I 9
          rw [g1 11 rfl]; exact j11
        have e11 : I2 11 = mnI I 11 := b5 11 rfl
        have e12 : I2 12 = mnI I 12 := b5 12 rfl
        have e13 : I2 13 = mnI I 13 := b5 13 rfl
        have hW2 : WRK I2 J2 (I2 2).toInt := by rw [e1]; exact WRK.mv g2 e11 e12 e13 rfl rfl rfl (by omega)
        obtain ⟨J3, d1, d2⟩ := sim_end (J := J2) (L := L) hE b6 (by rw [b5 10 rfl, M0 10 rfl]; exact i10) (by rw [b5 6 rfl]; rfl) b3 k6 k11 hB
        rw [d1]
        have mJ2 : Md [4, 8, 9, 13] J J2 := by rw [e1]; exact Md.up (Md.tr Md.rf g1 rfl) rfl
        refine ⟨I 3, J3, rfl, ?_⟩
        rcases d2 with ⟨d2, d2m⟩ | ⟨c4', e2, d3, I3, d4, d5, d6, d7⟩
        · exact Or.inl ⟨FLT.red b4 d2, Md.tr (Md.tr Md.rf mJ2 rfl) d2m rfl⟩
        · refine Or.inr ⟨I3, t + 1 + 1, by omega, b4.tr d4, d6, d3, by rw [e2]; exact k6, by rw [e2]; exact Md.up mJ2 rfl, ?_, ?_, ?_, ?_, ?_, ?_, ?_, ?_⟩
          · rw [e2]; exact WRK.mv hW2 (d5 11 rfl) (d5 12 rfl) (d5 13 rfl) rfl rfl rfl (by omega)
          · rw [d5 10 rfl]; show (I2 10).toInt = 0; rw [b5 10 rfl, M0 10 rfl]; exact i10
          · rw [d5 6 rfl]; rfl
          · rw [d5 8 rfl]; show I2 8 = I 8; rw [b5 8 rfl, M0 8 rfl]
          · rw [d5 9 rfl]; show I2 9 = I 9; rw [b5 9 rfl, M0 9 rfl]
          · rw [d5 14 rfl]; show I2 14 = I 14; rw [b5 14 rfl, M0 14 rfl]
          · rw [d5 16 rfl]; show I2 16 = I 16; rw [b5 16 rfl, M0 16 rfl]
          · rw [d5 11 rfl]
            show (I2 11).toInt = 0 → _
            rw [e11]
            unfold mnI
            by_cases c9 : loY (I 7) ≤ (I 3).toInt ∧ (I 3).toInt ≤ hiY (I 7)
            · rw [if_pos c9]; exact fun h9 => ⟨h9, c9⟩
            · rw [if_neg c9]
              unfold markI
              by_cases c8 : (I 11).toInt ≠ 0
              · rw [if_pos c8]; exact fun h9 => absurd h9 c8
              · rw [if_neg c8]
                exact fun h9 => absurd (show (5 : Int32).toInt = 0 from h9) (by decide)
    unfold fM12_bounded
    rw [if_neg (by omega), m_is0 j6 j4, hB2, if_pos (show (B0 2 t).toInt = (2 : Int32).toInt from c2), if_neg (by decide), clN j4, hB4, v1]
    have bad : ¬ (loY (I 7) ≤ (I 3).toInt ∧ (I 3).toInt ≤ hiY (I 7)) → ∃ (v : Int32) (J' : Nat → Int32), f_bdM (f_bdM (fM12_wrong J B L 5 (J 4)) (fun _ J1 B1 L1 => f_bdM (fM12_goesOn J1 B1 L1) (fun _ J2 B2 L2 => (I 3, J2, B2, L2)))) (fun y J1 B1 L1 => f_bdM (fM12_must J1 B1 L1 4) (fun _ J2 B2 L2 => (y, J2, B2, L2))) = (v, J', B, L) ∧ ((FLT I A J' ∧ Md MJ J J') ∨ ∃ (I2 : Nat → Int32) (t2 : Nat), t < t2 ∧ Red I A I2 (up3 A 2 (I 7).toNatClampNeg v) ∧ PT n c pos A0 I (up3 A 2 (I 7).toNatClampNeg v) J I2 J' t2 (loY (I 7) ≤ v.toInt ∧ v.toInt ≤ hiY (I 7))) := fun hb => by
      obtain ⟨J1, d1, d2, d3⟩ := m_wrong (B := B) (L := L) (k := 5) (z := J 4) hW (by omega) (fun h9 h8 => by have := (hW.2.2.2 h9).2.2; omega) j6 j11 (by rw [clN j4, hB3]; exact hk.2.1) (by decide)
      rw [d1]
      exact hM J1 d2 (by unfold mnI; rw [if_neg hb]; exact d3)
    by_cases c1 : (I 3).toInt < lo.toInt
    · rw [if_pos c1]
      exact bad (by omega)
    · rw [if_neg c1]
      by_cases c3 : (I 3).toInt ≤ hi.toInt
      · rw [if_pos c3]
        exact hM J Md.rf (by unfold mnI; rw [if_pos (by omega)]; exact WRK.mv hW rfl rfl rfl rfl rfl rfl (by omega))
      · rw [if_neg c3]
        exact bad (by omega)
  · rw [if_neg c2] at hm
    have e9 : fM12_bounded J B L lo hi = (lo, failJ J B t 1, B, L) := by
      unfold fM12_bounded
      rw [if_neg (by omega), m_is0 j6 j4, hB2, if_neg (show ¬ (B0 2 t).toInt = (2 : Int32).toInt from c2), if_pos rfl, m_fail0 j6 j4]; rfl
    rw [e9, bdM_mk, m_mustF (show 0 < (failJ J B t 1 6).toInt from (by decide : 0 < (1 : Int32).toInt))]
    refine ⟨lo, _, rfl, Or.inl ⟨flt_fail (by decide) (by rw [hB3]; exact hk.2.1) j11 (xf_syntax i10 ?_), failJ_md⟩⟩
    by_cases c0 : (B0 2 t).toInt = 0
    · exact Or.inl ⟨hk.1.1.mp c0, by omega⟩
    · exact Or.inr ⟨fun h9 => c0 (hk.1.1.mpr h9), hm⟩
