/-- the first word of a TELL -/
theorem sim_begin {n c t : Nat} {pos : Nat → Nat} {A0 B0 : Nat → Nat → Int32} {L0 : Nat → Nat → Int64} {I I1 J : Nat → Int32} {A B : Nat → Nat → Int32} {L : Nat → Nat → Int64} {y : Int32} (hE : ENV n c pos A0 B0 L0) (hH : HAND n c pos A0 I A t) (i10 : (I 10).toInt = 0) (i6 : (I 6).toInt = 0) (hK : (B0 2 t).toInt ≠ 0) (hy : tellX (B0 2 t).toInt = y) (y0 : 0 ≤ y.toInt) (hr : ¬ (y.toInt = 5 ∧ 5 ≤ (I 16).toInt)) (j4 : (J 4).toInt = (t : Int)) (j6 : (J 6).toInt = 0) (j11 : J 11 = I 9) (hB : Md MB B0 B) (hb : fX5_beginTell I A = (0, I1, A)) (M1 : Md [6, 7, 9] I I1) : ∃ J' : Nat → Int32, fM12_goesOn J B L = (0, J', B, L) ∧ ((FLT I A J' ∧ Md MJ J J') ∨ (t ≠ 400 ∧ J' = upd J 4 (J 4 + 1) ∧ (J' 4).toInt = ((t + 1 : Nat) : Int) ∧ ∃ I2 : Nat → Int32, Red I A I2 A ∧ Md [1, 2, 3, 4, 5] I1 I2 ∧ HAND n c pos A0 I2 A (t + 1) ∧ (I 2).toInt < (I2 2).toInt)) := by
  have hk := hand_K hE hH
  obtain ⟨h1, h2, h3⟩ := a_tell hk.1 i6 hy y0
  exact sim_go (J := J) (L := L) hE hH i10 hK j4 j6 j11 (hB 3 rfl) h1 (fun h9 => by rw [h2 h9, if_neg hr]) (by rw [h3, hb]; rfl) (M1 0 rfl) (M1 4 rfl) (M1 5 rfl) rfl (Md.tr Md.rf M1 rfl) Md.rf
def SOKk (k : Nat) (v : Int32) : Prop := (k = 0 → 0 ≤ v.toInt ∧ v.toInt ≤ 15) ∧ (k = 1 → 0 ≤ v.toInt ∧ v.toInt ≤ 3) ∧ (k = 2 → 0 ≤ v.toInt ∧ v.toInt ≤ 1) ∧ (k = 3 → 1 ≤ v.toInt ∧ v.toInt ≤ 99)
/-- a setting is told -/
theorem fin_set {n c t : Nat} {pos : Nat → Nat} {A0 B0 : Nat → Nat → Int32} {L0 : Nat → Nat → Int64} {J0 : Nat → Int32} {σ nq k : Nat} {I J J' : Nat → Int32} {A B : Nat → Nat → Int32} {L : Nat → Nat → Int64} {v : Int32} (hS : ST0 n c pos A0 B0 L0 J0 σ nq I A J B L t) (hk : k < 4) (h : (FLT I A J' ∧ Md MJ J J') ∨ ∃ (I2 : Nat → Int32) (t2 : Nat), t < t2 ∧ Red I A I2 (up3 A 2 k v) ∧ PT n c pos A0 I (up3 A 2 k v) J I2 J' t2 (SOKk k v)) : RES n c pos A0 B0 L0 J0 σ I A t (0, J', up3 B (13 + k) σ v, L) := by
  obtain ⟨⟨hH, mJ, mB, mL, fr, j4, j6, i10, js, hσ⟩, hW, hD, hQ, i6, i9, j11, i8, i16⟩ := hS
  have mB' : Md MB B0 (up3 B (13 + k) σ v) := by
    have hc : k = 0 ∨ k = 1 ∨ k = 2 ∨ k = 3 := by omega
    rcases hc with e | e | e | e <;> subst e <;> exact Md.up3 mB rfl
  have fr' : FRM σ B0 (up3 B (13 + k) σ v) := fr.up (by omega) (by omega) (by omega)
  rcases h with ⟨h1, h2⟩ | ⟨I2, t2, h1, h2, p1, p2, p3, p4, p5, p6, p7, p8, p9, p10, p11, p12⟩
  · exact ⟨_, _, _, rfl, Md.tr mJ h2 rfl, mB', mL, fr', Or.inl h1⟩
  · have mJ' : Md MJ J0 J' := Md.tr mJ p4 rfl
    refine ⟨_, _, _, rfl, mJ', mB', mL, fr', Or.inr ⟨I2, _, t2, nq, h1, h2, ⟨p1, mJ', mB', mL, fr', p2, p3, p6, js, hσ⟩, p5, hD.set hk p10 p12, ?_, p7, by rw [p9, i9], by rw [p4 11 rfl, j11], by rw [p8]; exact i8, by rw [p11]; exact i16⟩⟩
    exact QRS.mv (I := I2) (A := A) (J := J) (B := B) (L := L) (hQ.weak (fun h9 => (p12 h9).1)) rfl (p4 17 rfl) rfl rfl rfl rfl (up3_o (by omega)) (up3_o (by omega)) (up3_o (by omega)) rfl
theorem PT.tr {n c t2 : Nat} {pos : Nat → Nat} {A0 A1 : Nat → Nat → Int32} {I I1 J J1 I2 J2 : Nat → Int32} {ok ok2 : Prop} (h : PT n c pos A0 I1 A1 J1 I2 J2 t2 ok) (mJ : Md [4, 8, 9, 13] J J1) (e8 : I1 8 = I 8) (e9 : I1 9 = I 9) (e14 : I1 14 = I 14) (e16 : I1 16 = I 16) (e11 : I1 11 = I 11) (hok : ok → ok2) : PT n c pos A0 I A1 J I2 J2 t2 ok2 := by
  obtain ⟨p1, p2, p3, p4, p5, p6, p7, p8, p9, p10, p11, p12⟩ := h
  exact ⟨p1, p2, p3, Md.tr mJ p4 rfl, p5, p6, p7, p8.trans e8, p9.trans e9, p10.trans e14, p11.trans e16, fun h9 => ⟨by rw [← e11]; exact (p12 h9).1, hok (p12 h9).2⟩⟩
/-- a TELL of a number -/
theorem sim_setN {n c t : Nat} {pos : Nat → Nat} {A0 B0 : Nat → Nat → Int32} {L0 : Nat → Nat → Int64} {J0 : Nat → Int32} {σ nq k : Nat} {I J : Nat → Int32} {A B : Nat → Nat → Int32} {L : Nat → Nat → Int64} {lo hi y : Int32} (hE : ENV n c pos A0 B0 L0) (hS : ST0 n c pos A0 B0 L0 J0 σ nq I A J B L t) (hK : (B0 2 t).toInt ≠ 0) (hy : tellX (B0 2 t).toInt = y) (hk : y.toInt = (k : Int) ∧ (k = 0 ∨ k = 3)) (hlo : lo.toInt = loY y) (hhi : hi.toInt = hiY y) : RES n c pos A0 B0 L0 J0 σ I A t (f_bdM (fM12_toldInt J B L lo hi) (fun v J1 B1 L1 => (0, J1, up3 B1 (13 + k) σ v, L1))) := by
  have hS' := hS
  obtain ⟨⟨hH, mJ, mB, mL, fr, j4, j6, i10, js, hσ⟩, hW, hD, hQ, i6, i9, j11, i8, i16⟩ := hS'
  have hkk := hand_K hE hH
  have hb : fX5_beginTell I A = (0, upd (upd I 7 y) 6 4, A) := by
    rw [a_begin hkk.1 hy]
    rcases hk.2 with e | e
    · rw [if_pos (by omega)]
    · rw [if_neg (by omega), if_neg (by omega), if_neg (by omega), if_pos (by omega)]
  obtain ⟨J1, b1, b2⟩ := sim_begin (L := L) hE hH i10 i6 hK hy (by omega) (by omega) j4 j6 (by rw [j11, i9]) mB hb (Md.up (Md.up Md.rf rfl) rfl)
  have key : ∃ (v : Int32) (J' : Nat → Int32), fM12_toldInt J B L lo hi = (v, J', B, L) ∧ ((FLT I A J' ∧ Md MJ J J') ∨ ∃ (I2 : Nat → Int32) (t2 : Nat), t < t2 ∧ Red I A I2 (up3 A 2 k v) ∧ PT n c pos A0 I (up3 A 2 k v) J I2 J' t2 (SOKk k v)) := by
    unfold fM12_toldInt
    rw [b1, bdM_mk]
    rcases b2 with ⟨b2, b2m⟩ | ⟨c4, e1, b3, I2, b4, b5, b6, b7⟩
    · rw [m_boundF b2.1, bdM_mk, m_mustF b2.1]
      exact ⟨lo, J1, rfl, Or.inl ⟨b2, b2m⟩⟩
    · have e7 : I2 7 = y := b5 7 rfl
      obtain ⟨v, J', d1, d2⟩ := sim_num (J := J1) (L := L) (lo := lo) (hi := hi) hE b6 (by rw [b5 10 rfl]; exact i10) (by rw [b5 6 rfl]; rfl) (by rw [e7]; omega) (by rw [e7]; exact hlo) (by rw [e7]; exact hhi) b3 (by rw [e1]; exact j6) (by rw [e1, b5 9 rfl]; show J 11 = I 9; rw [j11, i9]) mB (by rw [e1]; exact WRK.mv hW (b5 11 rfl) (b5 12 rfl) (b5 13 rfl) rfl rfl rfl (by omega))
      rw [d1]
      have mJ1 : Md [4, 8, 9, 13] J J1 := by rw [e1]; exact Md.up Md.rf rfl
      rw [e7, clN hk.1] at d2
      refine ⟨v, J', rfl, ?_⟩
      rcases d2 with ⟨d2, d2m⟩ | ⟨I3, t2, d3, d4, d5⟩
      · exact Or.inl ⟨FLT.red b4 d2, Md.tr (Md.tr Md.rf mJ1 rfl) d2m rfl⟩
      · refine Or.inr ⟨I3, t2, by omega, b4.tr d4, d5.tr mJ1 (b5 8 rfl) (b5 9 rfl) (b5 14 rfl) (b5 16 rfl) (b5 11 rfl) (fun h9 => ?_)⟩
        unfold loY hiY at h9
        rcases hk.2 with e | e
        · rw [if_neg (by omega), if_neg (by omega)] at h9
          exact ⟨fun _ => h9, fun h8 => by omega, fun h8 => by omega, fun h8 => by omega⟩
        · rw [if_pos (by omega), if_pos (by omega)] at h9
          exact ⟨fun h8 => by omega, fun h8 => by omega, fun h8 => by omega, fun _ => h9⟩
  obtain ⟨v, J', e1, e2⟩ := key
  rw [e1]
  exact fin_set hS (by omega) e2
/-- a TELL of a choice -/
theorem sim_setC {n c t : Nat} {pos : Nat → Nat} {A0 B0 : Nat → Nat → Int32} {L0 : Nat → Nat → Int64} {J0 : Nat → Int32} {σ nq k : Nat} {I J : Nat → Int32} {A B : Nat → Nat → Int32} {L : Nat → Nat → Int64} {z1 z2 y : Int32} (hE : ENV n c pos A0 B0 L0) (hS : ST0 n c pos A0 B0 L0 J0 σ nq I A J B L t) (hK : (B0 2 t).toInt ≠ 0) (hy : tellX (B0 2 t).toInt = y) (hk : y.toInt = (k : Int) ∧ ((k = 1 ∧ z1.toInt = 27 ∧ z2.toInt = 4) ∨ (k = 2 ∧ z1.toInt = 31 ∧ z2.toInt = 2))) : RES n c pos A0 B0 L0 J0 σ I A t (f_bdM (fM12_toldWord J B L z1 z2) (fun v J1 B1 L1 => (0, J1, up3 B1 (13 + k) σ v, L1))) := by
  have hS' := hS
  obtain ⟨⟨hH, mJ, mB, mL, fr, j4, j6, i10, js, hσ⟩, hW, hD, hQ, i6, i9, j11, i8, i16⟩ := hS'
  have hkk := hand_K hE hH
  have hb : fX5_beginTell I A = (0, upd (upd I 7 y) 6 5, A) := by
    rw [a_begin hkk.1 hy]
    rcases hk.2 with e | e
    · rw [if_neg (by omega), if_pos (by omega)]
    · rw [if_neg (by omega), if_neg (by omega), if_pos (by omega)]
  obtain ⟨J1, b1, b2⟩ := sim_begin (L := L) hE hH i10 i6 hK hy (by omega) (by omega) j4 j6 (by rw [j11, i9]) mB hb (Md.up (Md.up Md.rf rfl) rfl)
  have key : ∃ (v : Int32) (J' : Nat → Int32), fM12_toldWord J B L z1 z2 = (v, J', B, L) ∧ ((FLT I A J' ∧ Md MJ J J') ∨ ∃ (I2 : Nat → Int32) (t2 : Nat), t < t2 ∧ Red I A I2 (up3 A 2 k v) ∧ PT n c pos A0 I (up3 A 2 k v) J I2 J' t2 (SOKk k v)) := by
    unfold fM12_toldWord
    rw [b1, bdM_mk]
    dsimp only [f_lt]
    rcases b2 with ⟨b2, b2m⟩ | ⟨c4, e1, b3, I2, b4, b5, b6, b7⟩
    · have h6 := b2.1
      rw [if_neg (by omega), m_failF h6, bdM_mk, if_pos (by omega), m_mustF h6]
      exact ⟨-1, J1, rfl, Or.inl ⟨b2, b2m⟩⟩
    · have e7 : I2 7 = y := b5 7 rfl
      have k6 : (J1 6).toInt = 0 := by rw [e1]; exact j6
      have mJ1 : Md [4, 8, 9, 13] J J1 := by rw [e1]; exact Md.up Md.rf rfl
      obtain ⟨d1, d2⟩ := sim_cho (J := J1) (L := L) (z1 := z1) (z2 := z2) hE b6 (by rw [b5 10 rfl]; exact i10) (by rw [b5 6 rfl]; rfl) (by rw [e7]; omega) b3 k6 (by rw [e1, b5 9 rfl]; show J 11 = I 9; rw [j11, i9]) mB (by rw [e1]; exact WRK.mv hW (b5 11 rfl) (b5 12 rfl) (b5 13 rfl) rfl rfl rfl (by omega))
      rw [e7, clN hk.1] at d1
      rw [if_pos (by omega), clN b3, m_fail0 k6 b3]
      have bad : FLT I2 A (failJ J1 B (t + 1) 1) → ∀ v : Int32, ∃ (v2 : Int32) (J' : Nat → Int32), f_bdM ((0 : Int32), failJ J1 B (t + 1) 1, B, L) (fun _ J3 B3 L3 => if (J3 6).toInt ≠ 0 then f_bdM (fM12_must J3 B3 L3 4) (fun _ J4 B4 L4 => (v, J4, B4, L4)) else f_bdM (fM12_goesOn J3 B3 L3) (fun _ J4 B4 L4 => f_bdM (fM12_must J4 B4 L4 4) (fun _ J5 B5 L5 => (v, J5, B5, L5)))) = (v2, J', B, L) ∧ ((FLT I A J' ∧ Md MJ J J') ∨ ∃ (I2 : Nat → Int32) (t2 : Nat), t < t2 ∧ Red I A I2 (up3 A 2 k v2) ∧ PT n c pos A0 I (up3 A 2 k v2) J I2 J' t2 (SOKk k v2)) := fun hf v => by
        have h6 := hf.1
        rw [bdM_mk, if_pos (by omega), m_mustF h6]
        exact ⟨v, _, rfl, Or.inl ⟨FLT.red b4 hf, Md.tr (Md.tr Md.rf mJ1 rfl) failJ_md rfl⟩⟩
      by_cases c1 : (B 2 (t + 1) - z1).toInt < 0
      · rw [if_pos c1]
        exact bad (d2 (Or.inl c1)) _
      · rw [if_neg c1]
        by_cases c2 : (B 2 (t + 1) - z1).toInt < z2.toInt
        · rw [if_pos c2]
          obtain ⟨J', g1, g2⟩ := d1 c1 c2
          rw [g1]
          refine ⟨_, J', rfl, ?_⟩
          rcases g2 with ⟨g2, g2m⟩ | ⟨I3, t2, g3, g4, g5⟩
          · exact Or.inl ⟨FLT.red b4 g2, Md.tr (Md.tr Md.rf mJ1 rfl) g2m rfl⟩
          · refine Or.inr ⟨I3, t2, by omega, b4.tr g4, g5.tr mJ1 (b5 8 rfl) (b5 9 rfl) (b5 14 rfl) (b5 16 rfl) (b5 11 rfl) (fun h9 => ?_)⟩
            rcases hk.2 with e | e
            · exact ⟨fun h8 => by omega, fun _ => by omega, fun h8 => by omega, fun h8 => by omega⟩
            · exact ⟨fun h8 => by omega, fun h8 => by omega, fun _ => by omega, fun h8 => by omega⟩
        · rw [if_neg c2]
          exact bad (d2 (Or.inr c2)) _
  obtain ⟨v, J', e1, e2⟩ := key
  rw [e1]
  exact fin_set hS (by omega) e2
