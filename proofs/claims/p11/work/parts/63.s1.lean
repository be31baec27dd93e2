noncomputable def SBR (σ : Nat) (G : (Nat → Int32) → (Nat → Nat → Int32) → (Nat → Nat → Int64) → (Int32 × (Nat → Int32) × (Nat → Nat → Int32) × (Nat → Nat → Int64))) (J : Nat → Int32) (B : Nat → Nat → Int32) (L : Nat → Nat → Int64) (t : Nat) (i0 : Int32) : Int32 × (Nat → Int32) × (Nat → Nat → Int32) × (Nat → Nat → Int64) :=
  if (B 8 σ).toInt ≠ 160 then (if fM12_is J B L 26 = 0 then f_bdM (fM12_readingTold J B L) (fun y J1 B1 L1 => if (J1 6).toInt ≤ 0 then G (upd J1 11 (J 11 + 1)) (up3 (up3 B1 9 (i0 + B 8 σ).toNatClampNeg y) 8 σ (B 8 σ + 1)) L1 else (0, J1, up3 B1 9 (i0 + B 8 σ).toNatClampNeg y, L1)) else f_bdM (fM12_goesOn J B L) (fun _ J1 B1 L1 => if (J1 6).toInt ≤ 0 then G (upd J1 11 (J 11 + 1)) (up3 (up3 B1 9 (i0 + B 8 σ).toNatClampNeg 100000) 8 σ (B 8 σ + 1)) L1 else (0, J1, up3 B1 9 (i0 + B 8 σ).toNatClampNeg 100000, L1))) else (0, failJ J B t 2, B, L)
theorem series_body {G : (Nat → Int32) → (Nat → Nat → Int32) → (Nat → Nat → Int64) → (Int32 × (Nat → Int32) × (Nat → Nat → Int32) × (Nat → Nat → Int64))} {J Jr : Nat → Int32} {B : Nat → Nat → Int32} {L : Nat → Nat → Int64} {t σ : Nat} (h16 : (Jr 16).toInt = (σ : Int)) (hσ : σ ≤ 1) (h6 : (J 6).toInt = 0) (h4 : (J 4).toInt = (t : Int)) : bM12_tellSeries_5 Jr G J B L = if fM12_isReading J B L = 0 then (if fM12_is J B L 26 = 0 then f_bdM (fM12_must J B L 4) (fun _ J1 B1 L1 => if (J1 6).toInt ≠ 0 then (0, J1, B1, L1) else (0, upd J1 11 (-2), B1, L1)) else SBR σ G J B L t (if σ = 0 then 0 else 160)) else SBR σ G J B L t (if σ = 0 then 0 else 160) := by
  have ef : (failJ J B t 2 6).toInt = 2 := rfl
  have hc : σ = 0 ∨ σ = 1 := by omega
  unfold bM12_tellSeries_5 SBR
  rw [m_fail0 h6 h4]
  rcases hc with e | e
  · subst e
    have e0 : (Jr 16).toInt = 0 := h16
    simp only [f_lt, bdM_mk, ef, h6, e0, ↓reduceIte]
    rfl
  · subst e
    have e0 : (Jr 16).toInt = 1 := h16
    simp only [f_lt, bdM_mk, ef, h6, e0, ↓reduceIte]
    rfl
theorem m_must_go {J : Nat → Int32} {B : Nat → Nat → Int32} {L : Nat → Nat → Int64} {z : Int32} {t : Nat} (h6 : (J 6).toInt = 0) (h4 : (J 4).toInt = (t : Int)) (hK : (B 2 t).toInt = z.toInt) : fM12_must J B L z = fM12_goesOn J B L := by
  rw [m_must0 h6 h4, m_goes h6 h4, if_pos hK]
theorem m_isRd {J : Nat → Int32} {B : Nat → Nat → Int32} {L : Nat → Nat → Int64} {t : Nat} (h6 : (J 6).toInt = 0) (h4 : (J 4).toInt = (t : Int)) : fM12_isReading J B L = if (B 2 t).toInt = 2 ∨ (B 2 t).toInt = 9 then 1 else 0 := by
  unfold fM12_isReading
  rw [m_is0 h6 h4, m_is0 h6 h4]
  by_cases c9 : (B 2 t).toInt = 9
  · rw [if_pos (show (B 2 t).toInt = (9 : Int32).toInt from c9), if_neg (by decide), if_pos (Or.inr c9)]
  · rw [if_neg (show ¬ (B 2 t).toInt = (9 : Int32).toInt from c9), if_pos rfl]
    by_cases c2 : (B 2 t).toInt = 2
    · rw [if_pos (show (B 2 t).toInt = (2 : Int32).toInt from c2), if_neg (by decide), if_pos (Or.inl c2)]
    · rw [if_neg (show ¬ (B 2 t).toInt = (2 : Int32).toInt from c2), if_pos rfl, if_neg (by omega)]
theorem FRM.up {σ : Nat} {B0 B : Nat → Nat → Int32} {a i : Nat} {v : Int32} (h : FRM σ B0 B) (h10 : a ≠ 10) (h11 : a ≠ 11) (h12 : a ≠ 12) : FRM σ B0 (up3 B a i v) := by
  unfold FRM
  rw [up3_o (by omega), up3_o (by omega), up3_o (by omega)]; exact h
theorem x_room0 {I : Nat → Int32} {A : Nat → Nat → Int32} (h : (I 4).toInt ≤ 400 → fX5_hasRoom I A = 0) : fX5_hasRoom I A = 0 := by
  by_cases c : (I 4).toInt ≤ 400
  · exact h c
  · unfold fX5_hasRoom
    rw [if_neg c]
/-- one more place in the draft -/
theorem DRF.add {σ : Nat} {I I2 : Nat → Int32} {A B : Nat → Nat → Int32} {y w i0 : Int32} (h : DRF σ I A B) (h14 : (I 14).toInt < 160) (e14 : I2 14 = I 14 + 1) (h11 : (I2 11).toInt = 0 → (I 11).toInt = 0) (hi : i0.toInt = 160 * (σ : Int)) (hσ : σ ≤ 1) (hv : CV (I2 11) y w) : DRF σ I2 (up3 A 1 (I 14).toNatClampNeg y) (up3 (up3 B 9 (i0 + B 8 σ).toNatClampNeg w) 8 σ (B 8 σ + 1)) := by
  obtain ⟨a, b, c, d, e, f⟩ := h
  have e1 : (I 14 + 1).toInt = (I 14).toInt + 1 := i32_inc (by omega)
  have ei : (i0 + B 8 σ).toInt = 160 * (σ : Int) + (I 14).toInt := by rw [a, i32_add rfl hi rfl (by omega) (by omega)]
  have hc := cl_int (y := i0 + B 8 σ) (by omega)
  have hc2 := cl_int (y := I 14) b
  refine ⟨?_, by rw [e14]; omega, by rw [e14]; omega, fun j hj => ?_, ?_, fun h9 => ?_⟩
  · rw [e14, up3_at rfl, a]
  · rw [e14] at hj
    rw [up3_o (show (9 : Nat) ≠ 8 by decide)]
    by_cases c9 : (j : Int) = (I 14).toInt
    · rw [up3_at (by omega), up3_at (by omega)]; exact hv
    · rw [up3_ne (by omega), up3_ne (by omega)]
      rcases d j (by omega) with h9 | h9
      · exact Or.inl h9
      · exact Or.inr ⟨h9.1, fun h8 => h9.2 (h11 h8)⟩
  · rw [up3_o (show (13 : Nat) ≠ 8 by decide), up3_o (show (13 : Nat) ≠ 9 by decide), up3_o (show (14 : Nat) ≠ 8 by decide), up3_o (show (14 : Nat) ≠ 9 by decide), up3_o (show (15 : Nat) ≠ 8 by decide), up3_o (show (15 : Nat) ≠ 9 by decide), up3_o (show (16 : Nat) ≠ 8 by decide), up3_o (show (16 : Nat) ≠ 9 by decide), up3_o (show (2 : Nat) ≠ 1 by decide)]; exact e
  · unfold SOK
    rw [up3_o (show (2 : Nat) ≠ 1 by decide)]; exact f (h11 h9)
theorem sim_series {n c : Nat} {pos : Nat → Nat} {A0 B0 : Nat → Nat → Int32} {L0 : Nat → Nat → Int64} {J0 Jr : Nat → Int32} {σ nq : Nat} (hE : ENV n c pos A0 B0 L0) (h16 : (Jr 16).toInt = (σ : Int)) :
    ∀ (m : Nat) (I : Nat → Int32) (A : Nat → Nat → Int32) (J : Nat → Int32) (B : Nat → Nat → Int32) (L : Nat → Nat → Int64) (t : Nat), BASE n c pos A0 B0 L0 J0 σ I A J B L t → WRK I J (I 2).toInt → DRF σ I A B → QRS n A0 σ nq I A J B L → (I 6).toInt = 1 → (I 8).toInt = 0 → J 11 = I 9 → (I 16).toInt = (nq : Int) → 402 - t < m → RES n c pos A0 B0 L0 J0 σ I A t (itr_IAL dfM (bM12_tellSeries_5 Jr) m J B L) := by
  intro m
  induction m with
  | zero => intro I A J B L t _ _ _ _ _ _ _ _ h; omega
  | succ m ih =>
    intro I A J B L t hB hW hD hQ i6 i8 j11 i16 hm
    show RES n c pos A0 B0 L0 J0 σ I A t (bM12_tellSeries_5 Jr (itr_IAL dfM (bM12_tellSeries_5 Jr) m) J B L)
    obtain ⟨G, hG⟩ : ∃ G, G = itr_IAL dfM (bM12_tellSeries_5 Jr) m := ⟨_, rfl⟩
    rw [← hG] at ih ⊢
    obtain ⟨hH, mJ, mB, mL, fr, j4, j6, i10, js, hσ⟩ := hB
    have hk := hand_K hE hH
    have hB2 : B 2 = B0 2 := mB 2 rfl
    have hB3 : B 3 = B0 3 := mB 3 rfl
    have hrow := a_row hk.1 (Or.inl i6)
    have ht4 : t ≤ 400 := hH.2.2.2.2.1
    have hi0 : (if σ = 0 then (0 : Int32) else 160).toInt = 160 * (σ : Int) := by
      have hc : σ = 0 ∨ σ = 1 := by omega
      rcases hc with e | e <;> rw [e] <;> rfl
    rw [series_body h16 hσ j6 j4, m_isRd j6 j4, m_is0 j6 j4, hB2]
    have d14 := hD.1
    have d0 := hD.2.1
    -- no room
    have noroom : ((B0 2 t).toInt = 2 ∨ (B0 2 t).toInt = 9 ∨ (B0 2 t).toInt = 26) → (I 14).toInt = 160 → RES n c pos A0 B0 L0 J0 σ I A t (0, failJ J B t 2, B, L) := fun hK h9 => by
      refine ⟨_, _, _, rfl, Md.tr mJ failJ_md rfl, mB, mL, fr, Or.inl (flt_fail (by decide) (by rw [hB3]; exact hk.2.1) j11 (xf_room i10 (fun h8 => by have := hk.1.1.mpr h8; omega) ?_ ?_))⟩
      · rw [hrow.1, if_pos]
        rcases hK with h8 | h8 | h8
        · exact Or.inl (Or.inl h8)
        · exact Or.inl (Or.inr ⟨i8, Or.inl h8⟩)
        · exact Or.inr ⟨i6, i8, h8⟩
      · exact x_room0 (fun h8 => by rw [hrow.2.1 h8, if_neg (by omega)])
    by_cases cR : (B0 2 t).toInt = 2 ∨ (B0 2 t).toInt = 9
    · rw [if_pos cR, if_neg (by decide)]
      unfold SBR
      rw [d14, m_is0 j6 j4, hB2, if_neg (show ¬ (B0 2 t).toInt = (26 : Int32).toInt from by have : (26 : Int32).toInt = 26 := rfl; omega)]
      by_cases c160 : (I 14).toInt = 160
      · rw [if_neg (fun h9 => h9 c160)]
        exact noroom (by omega) c160
      · rw [if_pos c160, if_pos rfl]
        have hD2 := hD.2.2.1
        obtain ⟨y, J', b1, b2⟩ := sim_reading (L := L) hE hH i10 cR j4 j6 j11 i8 mB hW (Or.inl ⟨i6, d0, by omega⟩)
        rw [b1, bdM_mk]
        rcases b2 with ⟨b2, b2m⟩ | ⟨I2, t2, b3, b4, p1, p2, p3, p4, p5, p6, p7, p8, p9, p10, p11, p12⟩
        · rw [if_neg (by have := b2.1; omega)]
          exact ⟨_, _, _, rfl, Md.tr mJ b2m rfl, Md.up3 mB rfl, mL, fr.up (by decide) (by decide) (by decide), Or.inl b2⟩
        · rw [if_pos (by omega)]
          have eA : kpA I A y = up3 A 1 (I 14).toNatClampNeg y := by unfold kpA; rw [if_pos i6]
          rw [eA] at b4 p1
          rw [if_pos i6] at p10
          refine RES.red b4 (Nat.le_of_lt b3) (ih I2 _ _ _ _ t2 ⟨p1, Md.up (Md.tr mJ p4 rfl) rfl, Md.up3 (Md.up3 mB rfl) rfl, mL, (fr.up (by decide) (by decide) (by decide)).up (by decide) (by decide) (by decide), p2, p3, p6, js, hσ⟩ ?_ ?_ ?_ (by rw [p7]; exact i6) p8 ?_ (by rw [p11]; exact i16) (by omega))
          · exact WRK.mv p5 rfl rfl rfl rfl rfl rfl (Int.le_refl _)
          · have hx := hD.add (w := y) (by omega) p10 (fun h9 => (p12 h9).1) hi0 hσ (Or.inr ⟨rfl, fun h9 => (p12 h9).2⟩)
            rw [d14] at hx
            exact hx
          · refine QRS.mv (I := I2) (A := A) (J := J) (B := B) (L := L) (hQ.weak (fun h9 => (p12 h9).1)) rfl ?_ rfl rfl rfl rfl rfl rfl rfl rfl
            exact p4 17 rfl
          · show J 11 + 1 = I2 9
            rw [p9, j11]
    · rw [if_neg cR, if_pos rfl]
      by_cases c26 : (B0 2 t).toInt = 26
      · rw [if_pos (show (B0 2 t).toInt = (26 : Int32).toInt from c26), if_neg (by decide)]
        unfold SBR
        rw [d14, m_is0 j6 j4, hB2, if_pos (show (B0 2 t).toInt = (26 : Int32).toInt from c26)]
        by_cases c160 : (I 14).toInt = 160
        · rw [if_neg (fun h9 => h9 c160)]
          exact noroom (by omega) c160
        · rw [if_pos c160, if_neg (by decide)]
          have hD2 := hD.2.2.1
          have i1 : (I 1).toInt = 1 := hk.1.2.2.2.2.1.mp (Or.inr (by omega))
          have eA : kpA I A (-1000) = up3 A 1 (I 14).toNatClampNeg (-1000) := by unfold kpA; rw [if_pos i6]
          have ha : fX5_accept I A = (0, kpI I, up3 A 1 (I 14).toNatClampNeg (-1000)) := by
            rw [hrow.2.2, x_gap i1 i6 ⟨d0, by omega⟩, ← eA]; rfl
          obtain ⟨J', b1, b2⟩ := sim_go (J := J) (L := L) hE hH i10 (by omega) j4 j6 j11 hB3 (by rw [hrow.1, if_pos (Or.inr ⟨i6, i8, c26⟩)]) (fun h9 => by rw [hrow.2.1 h9, if_pos (Or.inr (Or.inl ⟨i6, by omega⟩))]) ha (kpI_md 0 rfl) (kpI_md 4 rfl) (kpI_md 5 rfl) rfl (Md.tr Md.rf kpI_md rfl) (Md.up3 Md.rf rfl)
          rw [b1, bdM_mk]
          rcases b2 with ⟨b2, b2m⟩ | ⟨c4, e1, b3, I2, b4, b5, b6, b7⟩
          · rw [if_neg (by have := b2.1; omega)]
            exact ⟨_, _, _, rfl, Md.tr mJ b2m rfl, Md.up3 mB rfl, mL, fr.up (by decide) (by decide) (by decide), Or.inl b2⟩
          · have j6' : (J' 6).toInt = 0 := by rw [e1]; exact j6
            rw [if_pos (by omega)]
            have g14 : I2 14 = I 14 + 1 := by rw [b5 14 rfl, kpI_at.2.2, if_pos i6]
            have g11 : I2 11 = I 11 := (b5 11 rfl).trans (kpI_md 11 rfl)
            refine RES.red b4 (Nat.le_succ t) (ih I2 _ _ _ _ (t + 1) ⟨b6, ?_, Md.up3 (Md.up3 mB rfl) rfl, mL, (fr.up (by decide) (by decide) (by decide)).up (by decide) (by decide) (by decide), b3, j6', ?_, js, hσ⟩ ?_ ?_ ?_ ?_ ?_ ?_ ?_ (by omega))
            · rw [e1]; exact Md.up (Md.up mJ rfl) rfl
            · rw [b5 10 rfl, kpI_md 10 rfl]; exact i10
            · rw [e1]; exact WRK.mv hW g11 ((b5 12 rfl).trans (kpI_md 12 rfl)) ((b5 13 rfl).trans (kpI_md 13 rfl)) rfl rfl rfl (by omega)
            · have hx := hD.add (w := 100000) (by omega) g14 (fun h9 => by rw [g11] at h9; exact h9) hi0 hσ (Or.inl ⟨rfl, rfl⟩)
              rw [d14] at hx
              exact hx
            · refine QRS.mv (I := I) (A := A) (J := J) (B := B) (L := L) hQ g11 ?_ rfl rfl rfl rfl rfl rfl rfl rfl
              rw [e1]; rfl
            · rw [b5 6 rfl, kpI_md 6 rfl]; exact i6
            · rw [b5 8 rfl, kpI_at.1]; rfl
            · show J 11 + 1 = I2 9
              rw [b5 9 rfl, kpI_at.2.1, j11]
            · rw [b5 16 rfl, kpI_md 16 rfl]; exact i16
      · rw [if_neg (show ¬ (B0 2 t).toInt = (26 : Int32).toInt from c26), if_pos rfl]
        by_cases c4 : (B0 2 t).toInt = 4
        · rw [m_must_go (z := 4) j6 j4 (by rw [hB2]; exact c4)]
          have i1 : (I 1).toInt = 3 := hk.1.2.2.1.mp c4
          have ha : fX5_accept I A = (0, upd (upd I 6 0) 9 (-2), A) := by
            rw [hrow.2.2, x_semi i1, if_neg (by omega)]; rfl
          obtain ⟨J', b1, b2⟩ := sim_go (J := J) (L := L) hE hH i10 (by omega) j4 j6 j11 hB3 (by rw [hrow.1, if_pos (Or.inl (Or.inr ⟨i8, Or.inr c4⟩))]) (fun h9 => by rw [hrow.2.1 h9, if_pos (Or.inl c4)]) ha rfl rfl rfl rfl (Md.up (Md.up Md.rf rfl) rfl) Md.rf
          rw [b1, bdM_mk]
          rcases b2 with ⟨b2, b2m⟩ | ⟨c4, e1, b3, I2, b4, b5, b6, b7⟩
          · rw [if_pos (by have := b2.1; omega)]
            exact ⟨_, _, _, rfl, Md.tr mJ b2m rfl, mB, mL, fr, Or.inl b2⟩
          · have j6' : (J' 6).toInt = 0 := by rw [e1]; exact j6
            rw [if_neg (by omega)]
            have mJ' : Md MJ J0 (upd J' 11 (-2)) := by rw [e1]; exact Md.up (Md.up mJ rfl) rfl
            refine ⟨_, _, _, rfl, mJ', mB, mL, fr, Or.inr ⟨I2, A, t + 1, nq, by omega, b4, ⟨b6, mJ', mB, mL, fr, b3, j6', ?_, js, hσ⟩, ?_, ?_, ?_, ?_, ?_, rfl, ?_, ?_⟩⟩
            · rw [b5 10 rfl]; exact i10
            · rw [e1]; exact WRK.mv hW (b5 11 rfl) (b5 12 rfl) (b5 13 rfl) rfl rfl rfl (by omega)
            · exact hD.mv (b5 11 rfl) (b5 14 rfl) rfl rfl rfl rfl rfl rfl rfl rfl
            · exact hQ.mv (b5 11 rfl) (by rw [e1]; rfl) rfl rfl rfl rfl rfl rfl rfl rfl
            · rw [b5 6 rfl]; rfl
            · rw [b5 9 rfl]; rfl
            · rw [b5 8 rfl]; exact i8
            · rw [b5 16 rfl]; exact i16
        · rw [m_must0 j6 j4, hB2, if_neg (show ¬ (B0 2 t).toInt = (4 : Int32).toInt from c4), bdM_mk, if_pos (show (failJ J B t 1 6).toInt ≠ 0 from (by decide : (1 : Int32).toInt ≠ 0))]
          refine ⟨_, _, _, rfl, Md.tr mJ failJ_md rfl, mB, mL, fr, Or.inl (flt_fail (by decide) (by rw [hB3]; exact hk.2.1) j11 (xf_syntax i10 ?_))⟩
          by_cases c0 : (B0 2 t).toInt = 0
          · exact Or.inl ⟨hk.1.1.mp c0, by omega⟩
          · refine Or.inr ⟨fun h9 => c0 (hk.1.1.mpr h9), ?_⟩
            rw [hrow.1, if_neg]
            intro h9
            rcases h9 with (h9 | h9) | h9
            · exact cR (Or.inl h9)
            · rcases h9.2 with h8 | h8
              · exact cR (Or.inr h8)
              · exact c4 h8
            · exact c26 h9.2.2
