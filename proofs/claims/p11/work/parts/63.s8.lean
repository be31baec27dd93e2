theorem tq_eq {J : Nat → Int32} {B : Nat → Nat → Int32} {L : Nat → Nat → Int64} {σ : Nat} (h : (J 16).toInt = (σ : Int)) (hσ : σ ≤ 1) : fM12_tellQuery J B L = f_bdM (fM12_must (upd J 11 0) B L 1) (fun _ J1 B1 L1 => itr_iIAL dfM (bN σ J B ((if σ = 0 then (0 : Int32) else 5) + B 10 σ) J1) FU 0 J1 B1 L1) := by
  unfold fM12_tellQuery bN
  have hc : σ = 0 ∨ σ = 1 := by omega
  rcases hc with e | e
  · subst e
    have e0 : (J 16).toInt = 0 := h
    simp only [e0, ↓reduceIte, f_lt]
  · subst e
    have e0 : (J 16).toInt = 1 := h
    have e1 : ¬ ((1 : Nat) = 0) := by decide
    have e2 : ¬ ((1 : Int) = 0) := by decide
    simp only [e0, e1, e2, ↓reduceIte, f_lt]
theorem QRS.nam {n : Nat} {A0 : Nat → Nat → Int32} {σ nq : Nat} {I J : Nat → Int32} {A B : Nat → Nat → Int32} {L : Nat → Nat → Int64} {a b : Int32} (h : QRS n A0 σ nq I A J B L) : QRS n A0 σ nq I (up3 (up3 (up3 A 5 nq a) 6 nq b) 4 nq 0) J (up3 B 11 (5 * σ + nq) 0) L := by
  obtain ⟨x1, x2, x3, d⟩ := h
  refine ⟨by rw [up3_o (by decide)]; exact x1, x2, x3, fun q hq => ?_⟩
  obtain ⟨⟨e1, e2, e3, e4⟩, e5, r, l, e6⟩ := d q hq
  have f4 : up3 (up3 (up3 A 5 nq a) 6 nq b) 4 nq 0 4 q = A 4 q := by rw [up3_ne (by omega), up3_o (by decide), up3_o (by decide)]
  have f3 : up3 (up3 (up3 A 5 nq a) 6 nq b) 4 nq 0 3 = A 3 := by rw [up3_o (by decide), up3_o (by decide), up3_o (by decide)]
  have f5 : up3 (up3 (up3 A 5 nq a) 6 nq b) 4 nq 0 5 q = A 5 q := by rw [up3_o (by decide), up3_o (by decide), up3_ne (by omega)]
  have f6 : up3 (up3 (up3 A 5 nq a) 6 nq b) 4 nq 0 6 q = A 6 q := by rw [up3_o (by decide), up3_ne (by omega), up3_o (by decide)]
  refine ⟨?_, by rw [f4]; exact e5, r, l, by rw [f5, f6]; exact e6⟩
  unfold QRY
  rw [f4, f3, up3_ne (show 5 * σ + q ≠ 5 * σ + nq by omega), up3_o (show (12 : Nat) ≠ 11 by decide)]
  exact ⟨e1, e2, e3, e4⟩
theorem sim_tellQuery {n c t : Nat} {pos : Nat → Nat} {A0 B0 : Nat → Nat → Int32} {L0 : Nat → Nat → Int64} {J0 : Nat → Int32} {σ nq : Nat} {I J : Nat → Int32} {A B : Nat → Nat → Int32} {L : Nat → Nat → Int64} (hE : ENV n c pos A0 B0 L0) (hB : BASE n c pos A0 B0 L0 J0 σ I A J B L t) (hW : WRK I J (I 2).toInt) (hD : DRF σ I A B) (hQ : QRS n A0 σ nq I A J B L) (hnq : nq ≤ 4) (i6 : (I 6).toInt = 2) (i9 : I 9 = 0) (i8 : (I 8).toInt = 0) (i16 : (I 16).toInt = (nq : Int)) : RES n c pos A0 B0 L0 J0 σ I A t (fM12_tellQuery J B L) := by
  obtain ⟨hH, mJ, mB, mL, fr, j4, j6, i10, js, hσ⟩ := hB
  have hk := hand_K hE hH
  have hB2 : B 2 = B0 2 := mB 2 rfl
  have hB3 : B 3 = B0 3 := mB 3 rfl
  have h16 : (J 16).toInt = (σ : Int) := by rw [mJ 16 rfl]; exact js
  rw [tq_eq h16 hσ]
  obtain ⟨y, hy⟩ : ∃ y, y = (if σ = 0 then (0 : Int32) else 5) + B 10 σ := ⟨_, rfl⟩
  have hyt : y.toInt = 5 * (σ : Int) + nq := by
    have e5 : (if σ = 0 then (0 : Int32) else 5).toInt = 5 * (σ : Int) := by
      have hc : σ = 0 ∨ σ = 1 := by omega
      rcases hc with e | e <;> rw [e] <;> rfl
    rw [hy, i32_add rfl e5 hQ.1 (by omega) (by omega)]
  have hyc : y.toNatClampNeg = 5 * σ + nq := clN (by omega)
  rw [← hy]
  have k6 : (upd J 11 0 6).toInt = 0 := j6
  have k4 : (upd J 11 0 4).toInt = (t : Int) := j4
  have ht4 : t ≤ 400 := hH.2.2.2.2.1
  have fr1 : FRM σ B0 (up3 B 11 (5 * σ + nq) 0) := fr.upQ hσ hnq
  -- with a fault nothing goes on
  have flt : ∀ J1 : Nat → Int32, FLT I A J1 → Md MJ J J1 → RES n c pos A0 B0 L0 J0 σ I A t (itr_iIAL dfM (bN σ J B y J1) FU 0 J1 B L) := fun J1 hf m1 => by
    have h6 := hf.1
    have e : itr_iIAL dfM (bN σ J B y J1) FU 0 J1 B L = (0, J1, up3 B 11 (5 * σ + nq) 0, L) := by
      show bN σ J B y J1 (itr_iIAL dfM (bN σ J B y J1) 9999999999) 0 J1 B L = _
      rw [names_body, query_F h6 (by have := FU_eq; omega), hyc]
      by_cases c9 : (J 17).toInt ≤ (0 : Int32).toInt
      · rw [if_pos c9]
      · rw [if_neg c9, if_pos (by omega)]
    rw [e]
    exact ⟨_, _, _, rfl, Md.tr mJ m1 rfl, Md.up3 mB rfl, mL, fr1, Or.inl hf⟩
  have hm : fX5_mayStand I A = if (B0 2 t).toInt = 1 then 1 else 0 := by
    unfold fX5_mayStand
    rw [if_neg (by omega), if_neg (by omega), if_pos i6, x_isName hk.1]
    by_cases h : (B0 2 t).toInt = 1
    · rw [if_pos h]; rfl
    · rw [if_neg h]; rfl
  by_cases c1 : (B0 2 t).toInt = 1
  · rw [if_pos c1] at hm
    rw [m_must_go (J := upd J 11 0) (z := 1) k6 k4 (by rw [hB2]; exact c1)]
    obtain ⟨s, k, n1, n2, n3, n4, n5, n6⟩ := hand_N hE hH c1
    have eL5 : L 5 = L0 5 := mL 5 rfl
    have hx := x_names (I := I) (A := A) (A0 := A0) (f7 := L 7) (w := L 5 t) (n := n) (nq := nq) (s := s) (k := k) hH.1 hH.2.1 hE.1 n1 n2 n4 n5 (by rw [eL5]; exact n6) i16 hnq (fun q hq => (hQ.2.2.2 q hq).2.2) FU 0 0 rfl (by omega) (by have := FU_eq; omega)
    obtain ⟨D, hD9⟩ : ∃ D, D = dupN (L 7) (L 5 t) nq := ⟨_, rfl⟩
    rw [← hD9] at hx
    have ha : fX5_accept I A = (0, upd (upd (nmI I D) 16 (I 16 + 1)) 6 3, up3 (up3 (up3 A 5 nq (I 2)) 6 nq (I 5 - I 2)) 4 nq 0) := by
      unfold fX5_accept
      rw [if_neg (by omega), if_neg (by omega), if_pos i6]
      have e : fX5_acceptName I A = (0, upd (upd (nmI I D) 16 (I 16 + 1)) 6 3, up3 (up3 (up3 A 5 nq (I 2)) 6 nq (I 5 - I 2)) 4 nq 0) := hx
      rw [e]; rfl
    have M0 : Md [6, 11, 12, 13, 16] I (upd (upd (nmI I D) 16 (I 16 + 1)) 6 3) := Md.up (Md.up (Md.tr Md.rf nmI_md rfl) rfl) rfl
    have MA : Md [4, 5, 6] A (up3 (up3 (up3 A 5 nq (I 2)) 6 nq (I 5 - I 2)) 4 nq 0) := Md.up3 (Md.up3 (Md.up3 Md.rf rfl) rfl) rfl
    obtain ⟨J1, b1, b2⟩ := sim_go (J := upd J 11 0) (L := L) hE hH i10 (by omega) k4 k6 (by rw [i9]; rfl) hB3 hm (fun h9 => by
      unfold fX5_hasRoom
      rw [if_pos h9, if_neg (by omega), if_neg (by omega), if_pos i6]) ha (M0 0 rfl) (M0 4 rfl) (M0 5 rfl) (MA 0 rfl) (Md.tr Md.rf M0 rfl) (Md.tr Md.rf MA rfl)
    rw [b1, bdM_mk]
    rcases b2 with ⟨b2, b2m⟩ | ⟨c4, e1, b3, I2, b4, b5, b6, b7⟩
    · exact flt J1 b2 (Md.tr (Md.up Md.rf rfl) b2m rfl)
    · have q6 : (J1 6).toInt = 0 := by rw [e1]; exact j6
      have mJ1 : Md MJ J0 J1 := by rw [e1]; exact Md.up (Md.up mJ rfl) rfl
      obtain ⟨J3, g1, g2, g3⟩ := m_names (J1 := J1) (Jr := J) (I := I) (B := B) (Br := B) (L := L) (σ := σ) (nq := nq) (tq := t) (y := y) (p := (I 2).toInt) hQ.2.1 (by omega) j4 q6 (by rw [hB3]; exact hk.2.1) (by rw [e1]; exact WRK.mv hW rfl rfl rfl rfl rfl rfl (Int.le_refl _)) (Int.le_refl _) (by rw [e1, i9]; rfl) FU 0 0 J1 rfl (by omega) (by have := FU_eq; omega) Md.rf (by
        show WRK (nmI I false) J1 ((I 2).toInt + 1)
        rw [e1]
        exact WRK.mv hW rfl rfl rfl rfl rfl rfl (by omega))
      rw [g1, hyc]
      rw [← hD9] at g3
      have e11 : I2 11 = nmI I D 11 := b5 11 rfl
      have w11 : (I2 11).toInt = 0 → (I 11).toInt = 0 := fun h9 => by rw [e11] at h9; exact nmI_11 h9
      have a4 : up3 (up3 (up3 A 5 nq (I 2)) 6 nq (I 5 - I 2)) 4 nq 0 4 nq = 0 := up3_at rfl
      refine RES.red b4 (Nat.le_succ t) (sim_query (tq := t) hE h16 hQ.2.1 j4 hQ.1 hyt hnq FU I2 _ J3 _ L (t + 1) ⟨b6, Md.tr mJ1 g2 rfl, Md.up3 mB rfl, mL, fr1, by rw [g2 4 rfl]; exact b3, by rw [g2 6 rfl]; exact q6, by rw [b5 10 rfl, M0 10 rfl]; exact i10, js, hσ⟩ ?_ ?_ ?_ (by rw [b5 6 rfl]; rfl) (by rw [b5 8 rfl, M0 8 rfl]; exact i8) ?_ ?_ ?_ ?_ ?_ (by have := FU_eq; omega))
      · exact WRK.mv g3 e11 (b5 12 rfl) (b5 13 rfl) rfl rfl rfl (by omega)
      · exact DRF.mv (I := I2) (A := A) (B := B) (hD.weak (by rw [b5 14 rfl, M0 14 rfl]) w11) rfl rfl (MA 1 rfl) (MA 2 rfl) rfl rfl rfl rfl rfl rfl
      · exact QRS.mv (I := I2) (J := J) (L := L) ((hQ.weak w11).nam (a := I 2) (b := I 5 - I 2)) rfl (by rw [g2 17 rfl, e1]; rfl) rfl rfl rfl rfl rfl rfl rfl rfl
      · rw [g2 11 rfl, e1, b5 9 rfl, M0 9 rfl, i9]; rfl
      · rw [b5 16 rfl]
        show (I 16 + 1).toInt = _
        rw [i32_inc (by omega), i16]
      · rw [b5 9 rfl, M0 9 rfl, i9, a4]
      · unfold QRY
        rw [a4, up3_at rfl]
        exact ⟨rfl, Int.le_refl _, (by decide : (0 : Int32).toInt ≤ 16), fun i hi => absurd (show (i : Int) < (0 : Int32).toInt from hi) (by have : (0 : Int32).toInt = 0 := rfl; omega)⟩
      · refine ⟨s, k, ?_, ?_, n3, n4, n5, n6⟩
        · rw [up3_o (by decide), up3_o (by decide), up3_at rfl]; exact n1
        · rw [up3_o (by decide), up3_at rfl]; exact n2
  · rw [if_neg c1] at hm
    rw [m_must0 k6 k4, hB2, if_neg (show ¬ (B0 2 t).toInt = (1 : Int32).toInt from c1), bdM_mk]
    refine flt _ (flt_fail (by decide) (by rw [hB3]; exact hk.2.1) (by rw [i9]; rfl) (xf_syntax i10 ?_)) (Md.tr (Md.up Md.rf rfl) failJ_md rfl)
    by_cases c0 : (B0 2 t).toInt = 0
    · exact Or.inl ⟨hk.1.1.mp c0, by omega⟩
    · exact Or.inr ⟨fun h9 => c0 (hk.1.1.mpr h9), hm⟩
/-- one TELL -/
theorem sim_tellOne {n c t : Nat} {pos : Nat → Nat} {A0 B0 : Nat → Nat → Int32} {L0 : Nat → Nat → Int64} {J0 : Nat → Int32} {σ nq : Nat} {I J : Nat → Int32} {A B : Nat → Nat → Int32} {L : Nat → Nat → Int64} (hE : ENV n c pos A0 B0 L0) (hS : ST0 n c pos A0 B0 L0 J0 σ nq I A J B L t) (hK : (B0 2 t).toInt ≠ 0) : RES n c pos A0 B0 L0 J0 σ I A t (fM12_tellOne J B L) := by
  have hS' := hS
  obtain ⟨⟨hH, mJ, mB, mL, fr, j4, j6, i10, js, hσ⟩, hW, hD, hQ, i6, i9, j11, i8, i16⟩ := hS'
  have hk := hand_K hE hH
  have hB2 : B 2 = B0 2 := mB 2 rfl
  have hB3 : B 3 = B0 3 := mB 3 rfl
  have h16 : (J 16).toInt = (σ : Int) := by rw [mJ 16 rfl]; exact js
  have hc : σ = 0 ∨ σ = 1 := by omega
  have j9 : J 11 = I 9 := by rw [j11, i9]
  have hnq := hQ.2.2.1
  unfold fM12_tellOne
  rw [clN j4, hB2]
  by_cases c20 : (B0 2 t).toInt = 20
  · rw [if_pos c20]
    have hy : tellX (B0 2 t).toInt = 4 := by rw [c20]; rfl
    obtain ⟨J1, b1, b2⟩ := sim_begin (I1 := upd (upd (upd I 7 4) 6 1) 9 0) (L := L) hE hH i10 i6 hK hy (by decide) (fun h9 => absurd h9.1 (by decide)) j4 j6 j9 mB (by rw [a_begin hk.1 hy]; rfl) (Md.up (Md.up (Md.up Md.rf rfl) rfl) rfl)
    rw [b1, bdM_mk]
    rcases b2 with ⟨b2, b2m⟩ | ⟨c4, e1, b3, I2, b4, b5, b6, b7⟩
    · rw [if_pos (by have := b2.1; omega)]
      exact ⟨_, _, _, rfl, Md.tr mJ b2m rfl, mB, mL, fr, Or.inl b2⟩
    · have q6 : (J1 6).toInt = 0 := by rw [e1]; exact j6
      rw [if_neg (by omega)]
      have mJ1 : Md MJ J0 (upd J1 11 0) := by rw [e1]; exact Md.up (Md.up mJ rfl) rfl
      have hs := RES.red b4 (Nat.le_succ t) (sim_series (Jr := upd J1 11 0) (σ := σ) (nq := nq) (J0 := J0) hE (by rw [e1]; exact h16) FU I2 A (upd J1 11 0) B L (t + 1) ⟨b6, mJ1, mB, mL, fr, b3, q6, by rw [b5 10 rfl]; exact i10, js, hσ⟩ (by rw [e1]; exact WRK.mv hW (b5 11 rfl) (b5 12 rfl) (b5 13 rfl) rfl rfl rfl (by omega)) (hD.mv (b5 11 rfl) (b5 14 rfl) rfl rfl rfl rfl rfl rfl rfl rfl) (hQ.mv (b5 11 rfl) (by rw [e1]; rfl) rfl rfl rfl rfl rfl rfl rfl rfl) (by rw [b5 6 rfl]; rfl) (by rw [b5 8 rfl]; exact i8) (by rw [b5 9 rfl]; rfl) (by rw [b5 16 rfl]; exact i16) (by have := FU_eq; omega))
      have e9 : fM12_tellSeries J1 B L = itr_IAL dfM (bM12_tellSeries_5 (upd J1 11 0)) FU (upd J1 11 0) B L := rfl
      rw [e9]
      obtain ⟨J', B', L', r1, r2⟩ := hs
      rw [r1]
      exact ⟨J', B', L', rfl, r2⟩
  rw [if_neg c20]
  by_cases c21 : (B0 2 t).toInt = 21
  · rw [if_pos c21]
    have hy : tellX (B0 2 t).toInt = 5 := by rw [c21]; rfl
    -- both sides alike
    have main : RES n c pos A0 B0 L0 J0 σ I A t (if (B 10 σ).toInt ≠ 5 then f_bdM (fM12_goesOn J B L) (fun _ J1 B1 L1 => if (J1 6).toInt ≠ 0 then (0, J1, B1, L1) else f_bdM (fM12_tellQuery J1 B1 L1) (fun _ J2 B2 L2 => (0, J2, B2, L2))) else (0, failJ J B t 2, B, L)) := by
      by_cases c5 : (B 10 σ).toInt = 5
      · rw [if_neg (fun h9 => h9 c5)]
        obtain ⟨h1, h2, h3⟩ := a_tell hk.1 i6 hy (by decide)
        have n5 := hQ.1
        exact ⟨_, _, _, rfl, Md.tr mJ failJ_md rfl, mB, mL, fr, Or.inl (flt_fail (by decide) (by rw [hB3]; exact hk.2.1) j9 (xf_room i10 (fun h8 => hK (hk.1.1.mpr h8)) h1 (x_room0 (fun h8 => by rw [h2 h8, if_pos ⟨rfl, by omega⟩]))))⟩
      · rw [if_pos c5]
        have n5 := hQ.1
        obtain ⟨J1, b1, b2⟩ := sim_begin (I1 := upd (upd (upd I 7 5) 6 2) 9 0) (L := L) hE hH i10 i6 hK hy (by decide) (fun h9 => by omega) j4 j6 j9 mB (by rw [a_begin hk.1 hy]; rfl) (Md.up (Md.up (Md.up Md.rf rfl) rfl) rfl)
        rw [b1, bdM_mk]
        rcases b2 with ⟨b2, b2m⟩ | ⟨c4, e1, b3, I2, b4, b5, b6, b7⟩
        · rw [if_pos (by have := b2.1; omega)]
          exact ⟨_, _, _, rfl, Md.tr mJ b2m rfl, mB, mL, fr, Or.inl b2⟩
        · have q6 : (J1 6).toInt = 0 := by rw [e1]; exact j6
          rw [if_neg (by omega)]
          have mJ1 : Md MJ J0 J1 := by rw [e1]; exact Md.up mJ rfl
          have hs := RES.red b4 (Nat.le_succ t) (sim_tellQuery (σ := σ) (nq := nq) (J0 := J0) (I := I2) (J := J1) (A := A) (B := B) (L := L) hE ⟨b6, mJ1, mB, mL, fr, b3, q6, by rw [b5 10 rfl]; exact i10, js, hσ⟩ (by rw [e1]; exact WRK.mv hW (b5 11 rfl) (b5 12 rfl) (b5 13 rfl) rfl rfl rfl (by omega)) (hD.mv (b5 11 rfl) (b5 14 rfl) rfl rfl rfl rfl rfl rfl rfl rfl) (hQ.mv (b5 11 rfl) (by rw [e1]; rfl) rfl rfl rfl rfl rfl rfl rfl rfl) (by omega) (by rw [b5 6 rfl]; rfl) (by rw [b5 9 rfl]; rfl) (by rw [b5 8 rfl]; exact i8) (by rw [b5 16 rfl]; exact i16))
          obtain ⟨J', B', L', r1, r2⟩ := hs
          rw [r1]
          exact ⟨J', B', L', rfl, r2⟩
    have ef : (failJ J B t 2 6).toInt = 2 := rfl
    rcases hc with e | e
    · subst e
      have e0 : (J 16).toInt = 0 := h16
      simp only [m_fail0 j6 j4, bdM_mk, ef, j6, e0, ↓reduceIte] at main ⊢
      exact main
    · subst e
      have e0 : (J 16).toInt = 1 := h16
      simp only [m_fail0 j6 j4, bdM_mk, ef, j6, e0, ↓reduceIte] at main ⊢
      exact main
  rw [if_neg c21]
  by_cases c22 : (B0 2 t).toInt = 22
  · rw [if_pos c22]
    have main := sim_setN (k := 0) (lo := 0) (hi := 15) (y := 0) hE hS hK (by rw [c22]; rfl) ⟨rfl, Or.inl rfl⟩ rfl rfl
    rcases hc with e | e
    · subst e
      rw [if_pos (show (J 16).toInt = 0 from h16)]; exact main
    · subst e
      rw [if_neg (show ¬ (J 16).toInt = 0 by omega), if_pos (show (J 16).toInt = 1 from h16)]; exact main
  rw [if_neg c22]
  by_cases c23 : (B0 2 t).toInt = 23
  · rw [if_pos c23]
    have main := sim_setC (k := 1) (z1 := 27) (z2 := 4) (y := 1) hE hS hK (by rw [c23]; rfl) ⟨rfl, Or.inl ⟨rfl, rfl, rfl⟩⟩
    rcases hc with e | e
    · subst e
      rw [if_pos (show (J 16).toInt = 0 from h16)]; exact main
    · subst e
      rw [if_neg (show ¬ (J 16).toInt = 0 by omega), if_pos (show (J 16).toInt = 1 from h16)]; exact main
  rw [if_neg c23]
  by_cases c24 : (B0 2 t).toInt = 24
  · rw [if_pos c24]
    have main := sim_setC (k := 2) (z1 := 31) (z2 := 2) (y := 2) hE hS hK (by rw [c24]; rfl) ⟨rfl, Or.inr ⟨rfl, rfl, rfl⟩⟩
    rcases hc with e | e
    · subst e
      rw [if_pos (show (J 16).toInt = 0 from h16)]; exact main
    · subst e
      rw [if_neg (show ¬ (J 16).toInt = 0 by omega), if_pos (show (J 16).toInt = 1 from h16)]; exact main
  rw [if_neg c24]
  by_cases c25 : (B0 2 t).toInt = 25
  · rw [if_pos c25]
    have main := sim_setN (k := 3) (lo := 1) (hi := 99) (y := 3) hE hS hK (by rw [c25]; rfl) ⟨rfl, Or.inr rfl⟩ rfl rfl
    rcases hc with e | e
    · subst e
      rw [if_pos (show (J 16).toInt = 0 from h16)]; exact main
    · subst e
      rw [if_neg (show ¬ (J 16).toInt = 0 by omega), if_pos (show (J 16).toInt = 1 from h16)]; exact main
  rw [if_neg c25, m_fail0 j6 j4, bdM_mk]
  exact ⟨_, _, _, rfl, Md.tr mJ failJ_md rfl, mB, mL, fr, Or.inl (flt_fail (by decide) (by rw [hB3]; exact hk.2.1) j9 (xf_syntax i10 (Or.inr ⟨fun h9 => hK (hk.1.1.mpr h9), a_tell_no hk.1 i6 (by omega)⟩)))⟩
