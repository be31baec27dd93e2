theorem up3L_o {A : Nat → Nat → Int64} {a b i : Nat} {v : Int64} (h : b ≠ a) : up3L A a i v b = A b := by
  show (if b = a then vp_updL (A a) i v else A b) = _
  rw [if_neg h]
/-- a QUERY is told whole -/
theorem QRS.one {n : Nat} {A0 : Nat → Nat → Int32} {σ nq : Nat} {I I2 J J2 : Nat → Int32} {A B : Nat → Nat → Int32} {L : Nat → Nat → Int64} {w : Int64} {x : Int32} (h : QRS n A0 σ nq I A J B L) (hq : nq ≤ 4) (hQ : QRY σ nq I A B) (hN : NAM n nq A0 A w) (h11 : (I2 11).toInt = 0 → (I 11).toInt = 0 ∧ 2 ≤ (A 4 nq).toInt) (j17 : (J2 17).toInt = (nq : Int) + 1) (hx : x.toInt = (nq : Int) + 1) : QRS n A0 σ (nq + 1) I2 A J2 (up3 B 10 σ x) (up3L L 7 nq w) := by
  obtain ⟨a, b, c, d⟩ := h
  refine ⟨by rw [up3_at rfl]; omega, by omega, by omega, fun q hq2 => ?_⟩
  have wk : ∀ q, QRY σ q I A B → QRY σ q I2 A (up3 B 10 σ x) := fun q h9 => by
    obtain ⟨e1, e2, e3, e4⟩ := h9
    unfold QRY
    rw [up3_o (show (11 : Nat) ≠ 10 by decide), up3_o (show (12 : Nat) ≠ 10 by decide)]
    exact ⟨e1, e2, e3, fun i hi => ⟨(e4 i hi).1, fun h8 => (e4 i hi).2 (h11 h8).1⟩⟩
  by_cases c9 : q = nq
  · rw [c9, up3L_at rfl]
    exact ⟨wk nq hQ, fun h9 => (h11 h9).2, hN⟩
  · obtain ⟨e1, e2, e3⟩ := d q (by omega)
    rw [up3L_ne c9]
    exact ⟨wk q e1, fun h9 => e2 (h11 h9).1, e3⟩
theorem sim_query {n c : Nat} {pos : Nat → Nat} {A0 B0 : Nat → Nat → Int32} {L0 : Nat → Nat → Int64} {J0 Jr : Nat → Int32} {Br : Nat → Nat → Int32} {y : Int32} {σ nq tq : Nat} (hE : ENV n c pos A0 B0 L0) (h16 : (Jr 16).toInt = (σ : Int)) (h17 : (Jr 17).toInt = (nq : Int)) (hr4 : (Jr 4).toInt = (tq : Int)) (hr10 : (Br 10 σ).toInt = (nq : Int)) (hy : y.toInt = 5 * (σ : Int) + nq) (hnq : nq ≤ 4) :
    ∀ (m : Nat) (I : Nat → Int32) (A : Nat → Nat → Int32) (J : Nat → Int32) (B : Nat → Nat → Int32) (L : Nat → Nat → Int64) (t : Nat), BASE n c pos A0 B0 L0 J0 σ I A J B L t → WRK I J (I 2).toInt → DRF σ I A B → QRS n A0 σ nq I A J B L → (I 6).toInt = 3 → (I 8).toInt = 0 → J 11 = I 9 → (I 16).toInt = (nq : Int) + 1 → I 9 = A 4 nq → QRY σ nq I A B → NAM n nq A0 A (L0 5 tq) → 402 - t < m → RES n c pos A0 B0 L0 J0 σ I A t (itr_IAL dfM (bQ σ Jr Br y) m J B L) := by
  intro m
  induction m with
  | zero => intro I A J B L t _ _ _ _ _ _ _ _ _ _ _ h; omega
  | succ m ih =>
    intro I A J B L t hB hW hD hQ i6 i8 j11 i16 i9 hq hN hm
    show RES n c pos A0 B0 L0 J0 σ I A t (bQ σ Jr Br y (itr_IAL dfM (bQ σ Jr Br y) m) J B L)
    obtain ⟨G, hG⟩ : ∃ G, G = itr_IAL dfM (bQ σ Jr Br y) m := ⟨_, rfl⟩
    rw [← hG] at ih ⊢
    obtain ⟨hH, mJ, mB, mL, fr, j4, j6, i10, js, hσ⟩ := hB
    have hk := hand_K hE hH
    have hB2 : B 2 = B0 2 := mB 2 rfl
    have hB3 : B 3 = B0 3 := mB 3 rfl
    have hrow := a_row hk.1 (Or.inr i6)
    have ht4 : t ≤ 400 := hH.2.2.2.2.1
    have hyc : y.toNatClampNeg = 5 * σ + nq := clN (by omega)
    obtain ⟨q1, q2, q3, q4⟩ := hq
    rw [query_body h16 hσ j6 j4, m_isRd j6 j4, m_is0 j6 j4, hB2, hyc, ← q1]
    by_cases cR : (B0 2 t).toInt = 2 ∨ (B0 2 t).toInt = 9
    · rw [if_pos cR, if_neg (by decide)]
      by_cases c16 : (A 4 nq).toInt = 16
      · rw [if_neg (fun h9 => h9 c16)]
        refine ⟨_, _, _, rfl, Md.tr mJ failJ_md rfl, mB, mL, fr, Or.inl (flt_fail (by decide) (by rw [hB3]; exact hk.2.1) j11 (xf_room i10 (fun h8 => by have := hk.1.1.mpr h8; omega) ?_ ?_))⟩
        · rw [hrow.1, if_pos]
          rcases cR with h8 | h8
          · exact Or.inl (Or.inl h8)
          · exact Or.inl (Or.inr ⟨i8, Or.inl h8⟩)
        · exact x_room0 (fun h8 => by rw [hrow.2.1 h8, i9, if_neg (by omega)])
      · rw [if_pos c16]
        have e16 : (I 16 - 1).toInt = (nq : Int) := by rw [i32_sub rfl i16 (show (1 : Int32).toInt = 1 from rfl) (by omega) (by omega)]; omega
        obtain ⟨v, J', b1, b2⟩ := sim_reading (L := L) hE hH i10 cR j4 j6 j11 i8 mB hW (Or.inr ⟨i6, by rw [i9]; omega, by omega, by omega, by rw [clN e16]; omega⟩)
        rw [b1, bdM_mk]
        have e80 : (16 * y + A 4 nq).toInt = 80 * (σ : Int) + 16 * nq + (A 4 nq).toInt := by
          have e3 : (16 * y).toInt = 16 * y.toInt := i32_mul (x := 16) (a := 16) rfl rfl rfl (by omega) (by omega)
          rw [i32_add rfl e3 rfl (by omega) (by omega)]; omega
        have c80 := cl_int (y := 16 * y + A 4 nq) (by omega)
        have fr2 : FRM σ B0 (up3 B 12 (16 * y + A 4 nq).toNatClampNeg v) := fr.upR hσ (by omega) (by omega)
        rcases b2 with ⟨b2, b2m⟩ | ⟨I2, t2, b3, b4, p1, p2, p3, p4, p5, p6, p7, p8, p9, p10, p11, p12⟩
        · rw [if_neg (by have := b2.1; omega)]
          exact ⟨_, _, _, rfl, Md.tr mJ b2m rfl, Md.up3 mB rfl, mL, fr2, Or.inl b2⟩
        · rw [if_pos (by omega)]
          have eA : kpA I A v = up3 (up3 A 3 ((I 16 - 1) * 16 + A 4 nq).toNatClampNeg v) 4 nq (A 4 nq + 1) := by
            unfold kpA
            rw [if_neg (by omega), clN e16]
          have e16b : ((I 16 - 1) * 16).toInt = 16 * (nq : Int) := by rw [i32_mul rfl e16 (show (16 : Int32).toInt = 16 from rfl) (by omega) (by omega)]; omega
          have e48 : ((I 16 - 1) * 16 + A 4 nq).toInt = 16 * (nq : Int) + (A 4 nq).toInt := i32_add rfl e16b rfl (by omega) (by omega)
          have c48 := cl_int (y := (I 16 - 1) * 16 + A 4 nq) (by omega)
          rw [eA] at b4 p1
          rw [if_neg (by omega)] at p10
          have hqa := QRY.add (I2 := I2) (v := v) (a := (I 16 - 1) * 16) (b := y) (show QRY σ nq I A B from ⟨q1, q2, q3, q4⟩) hnq hσ (by omega) p12 e16b hy
          rw [← q1] at hqa
          refine RES.red b4 (Nat.le_of_lt b3) (ih I2 _ _ _ _ t2 ⟨p1, Md.up (Md.tr mJ p4 rfl) rfl, Md.up3 (Md.up3 mB rfl) rfl, mL, fr2.upQ hσ hnq, p2, p3, p6, js, hσ⟩ ?_ ?_ ?_ (by rw [p7]; exact i6) p8 ?_ (by rw [p11]; exact i16) ?_ hqa hN (by omega))
          · exact WRK.mv p5 rfl rfl rfl rfl rfl rfl (Int.le_refl _)
          · exact DRF.mv (I := I2) (A := A) (B := B) (hD.weak p10 (fun h9 => (p12 h9).1)) rfl rfl rfl rfl rfl rfl rfl rfl rfl rfl
          · refine QRS.mv (I := I2) (J := J) (L := L) ((hQ.weak (fun h9 => (p12 h9).1)).oth (i := ((I 16 - 1) * 16 + A 4 nq).toNatClampNeg) (j := (16 * y + A 4 nq).toNatClampNeg) (v := v) (u := v) (w := A 4 nq + 1) (x := A 4 nq + 1) (by omega) (by omega)) rfl (p4 17 rfl) rfl rfl rfl rfl rfl rfl rfl rfl
          · show J 11 + 1 = I2 9
            rw [p9, j11]
          · rw [p9, i9, up3_at rfl]
    · rw [if_neg cR, if_pos rfl]
      -- the end of the QUERY
      have fin : ∀ (J1 I1 I2 : Nat → Int32), Md [8, 9, 13] J J1 → Md [6, 9, 11, 12, 13] I I1 → Md [1, 2, 3, 4, 5] I1 I2 → HAND n c pos A0 I2 A (t + 1) → t ≠ 400 → ((upd J1 4 (J1 4 + 1)) 4).toInt = ((t + 1 : Nat) : Int) → Red I A I2 A → (I1 6).toInt = 0 → I1 9 = -2 → WRK I2 (upd J1 4 (J1 4 + 1)) (I2 2).toInt → ((I1 11).toInt = 0 → (I 11).toInt = 0 ∧ 2 ≤ (A 4 nq).toInt) → RES n c pos A0 B0 L0 J0 σ I A t (QE σ Jr Br (0, upd J1 4 (J1 4 + 1), B, L)) := by
        intro J1 I1 I2 g1 g2 g3 g4 g5 g6 g7 g8 g9 g10 g11
        unfold QE
        rw [bdM_mk, if_pos (show (upd J1 4 (J1 4 + 1) 6).toInt ≤ 0 from by show (J1 6).toInt ≤ 0; rw [g1 6 rfl]; omega), clN h17, clN hr4]
        have eL : L 5 tq = L0 5 tq := by rw [mL 5 rfl]
        have mJ' : Md MJ J0 (upd (upd (upd J1 4 (J1 4 + 1)) 11 (-2)) 17 (Jr 17 + 1)) := Md.up (Md.up (Md.up (Md.tr mJ g1 rfl) rfl) rfl) rfl
        have e17 : (Jr 17 + 1).toInt = (nq : Int) + 1 := by rw [i32_inc (by omega), h17]
        have e10 : (Br 10 σ + 1).toInt = (nq : Int) + 1 := by rw [i32_inc (by omega), hr10]
        refine ⟨_, _, _, rfl, mJ', Md.up3 mB rfl, Md.up3L mL rfl, fr.upN hσ, Or.inr ⟨I2, A, t + 1, nq + 1, by omega, g7, ⟨g4, mJ', Md.up3 mB rfl, Md.up3L mL rfl, fr.upN hσ, g6, ?_, ?_, js, hσ⟩, ?_, ?_, ?_, ?_, ?_, rfl, ?_, ?_⟩⟩
        · show (J1 6).toInt = 0
          rw [g1 6 rfl]; exact j6
        · rw [g3 10 rfl, g2 10 rfl]; exact i10
        · exact WRK.mv g10 rfl rfl rfl rfl rfl rfl (Int.le_refl _)
        · exact DRF.mv (I := I2) (A := A) (B := B) (hD.weak (by rw [g3 14 rfl, g2 14 rfl]) (fun h9 => by rw [g3 11 rfl] at h9; exact (g11 h9).1)) rfl rfl rfl rfl rfl rfl rfl rfl rfl rfl
        · rw [eL]
          exact hQ.one hnq ⟨q1, q2, q3, q4⟩ hN (fun h9 => by rw [g3 11 rfl] at h9; exact g11 h9) e17 e10
        · rw [g3 6 rfl]; exact g8
        · rw [g3 9 rfl]; exact g9
        · rw [g3 8 rfl, g2 8 rfl]; exact i8
        · rw [g3 16 rfl, g2 16 rfl, i16]; omega
      by_cases c4 : (B0 2 t).toInt = 4
      · rw [if_pos (show (B0 2 t).toInt = (4 : Int32).toInt from c4), if_neg (by decide)]
        have i1 : (I 1).toInt = 3 := hk.1.2.2.1.mp c4
        have hm1 : fX5_mayStand I A = 1 := by rw [hrow.1, if_pos (Or.inl (Or.inr ⟨i8, Or.inr c4⟩))]
        have hr1 : (I 4).toInt ≤ 400 → fX5_hasRoom I A = 1 := fun h9 => by rw [hrow.2.1 h9, if_pos (Or.inl c4)]
        by_cases c2 : 2 ≤ (A 4 nq).toInt
        · rw [if_pos c2, m_must_go (z := 4) j6 j4 (by rw [hB2]; exact c4)]
          have ha : fX5_accept I A = (0, upd (upd I 6 0) 9 (-2), A) := by
            rw [hrow.2.2, x_semi i1, if_neg (by rw [i9]; omega)]; rfl
          obtain ⟨J', b1, b2⟩ := sim_go (J := J) (L := L) hE hH i10 (by omega) j4 j6 j11 hB3 hm1 hr1 ha rfl rfl rfl rfl (Md.up (Md.up Md.rf rfl) rfl) Md.rf
          rw [b1]
          rcases b2 with ⟨b2, b2m⟩ | ⟨c4', e1, b3, I2, b4, b5, b6, b7⟩
          · unfold QE
            rw [bdM_mk, if_neg (by have := b2.1; omega)]
            exact ⟨_, _, _, rfl, Md.tr mJ b2m rfl, mB, mL, fr, Or.inl b2⟩
          · rw [e1] at b3 ⊢
            exact fin J (upd (upd I 6 0) 9 (-2)) I2 Md.rf (Md.up (Md.up Md.rf rfl) rfl) b5 b6 c4' b3 b4 rfl rfl (WRK.mv hW (b5 11 rfl) (b5 12 rfl) (b5 13 rfl) rfl rfl rfl (by omega)) (fun h9 => ⟨h9, c2⟩)
        · rw [if_neg c2]
          obtain ⟨J1, d1, d2, d3⟩ := m_wrong (B := B) (L := L) (k := 6) (z := J 4) hW (by omega) (fun h9 h8 => by have := (hW.2.2.2 h9).2.2; omega) j6 j11 (by rw [clN j4, hB3]; exact hk.2.1) (by decide)
          rw [d1, bdM_mk, m_must_go (J := J1) (z := 4) (by rw [d2 6 rfl]; exact j6) (by rw [d2 4 rfl]; exact j4) (by rw [hB2]; exact c4)]
          have ha : fX5_accept I A = (0, upd (upd (markI I 6) 6 0) 9 (-2), A) := by
            rw [hrow.2.2, x_semi i1, if_pos ⟨i6, by rw [i9]; omega⟩]; rfl
          have M0 : Md [6, 9, 11, 12, 13] I (upd (upd (markI I 6) 6 0) 9 (-2)) := Md.up (Md.up (Md.tr Md.rf markI_md rfl) rfl) rfl
          obtain ⟨J', b1, b2⟩ := sim_go (J := J1) (L := L) hE hH i10 (by omega) (by rw [d2 4 rfl]; exact j4) (by rw [d2 6 rfl]; exact j6) (by rw [d2 11 rfl]; exact j11) hB3 hm1 hr1 ha (M0 0 rfl) (M0 4 rfl) (M0 5 rfl) rfl (Md.tr Md.rf M0 rfl) Md.rf
          rw [b1]
          rcases b2 with ⟨b2, b2m⟩ | ⟨c4', e1, b3, I2, b4, b5, b6, b7⟩
          · unfold QE
            rw [bdM_mk, if_neg (by have := b2.1; omega)]
            exact ⟨_, _, _, rfl, Md.tr (Md.tr mJ d2 rfl) b2m rfl, mB, mL, fr, Or.inl b2⟩
          · rw [e1] at b3 ⊢
            refine fin J1 (upd (upd (markI I 6) 6 0) 9 (-2)) I2 d2 M0 b5 b6 c4' b3 b4 rfl rfl (WRK.mv d3 (b5 11 rfl) (b5 12 rfl) (b5 13 rfl) rfl rfl rfl (by omega)) (fun h9 => ?_)
            have h8 : (markI I 6 11).toInt = 0 := h9
            unfold markI at h8
            by_cases c9 : (I 11).toInt ≠ 0
            · rw [if_pos c9] at h8; exact absurd h8 c9
            · rw [if_neg c9] at h8
              exact absurd (show (6 : Int32).toInt = 0 from h8) (by decide)
      · rw [if_neg (show ¬ (B0 2 t).toInt = (4 : Int32).toInt from c4), if_pos rfl, m_must0 j6 j4, hB2, if_neg (show ¬ (B0 2 t).toInt = (4 : Int32).toInt from c4)]
        unfold QE
        rw [bdM_mk, if_neg (show ¬ (failJ J B t 1 6).toInt ≤ 0 from (by decide : ¬ (1 : Int32).toInt ≤ 0))]
        refine ⟨_, _, _, rfl, Md.tr mJ failJ_md rfl, mB, mL, fr, Or.inl (flt_fail (by decide) (by rw [hB3]; exact hk.2.1) j11 (xf_syntax i10 ?_))⟩
        by_cases c0 : (B0 2 t).toInt = 0
        · exact Or.inl ⟨hk.1.1.mp c0, by omega⟩
        · refine Or.inr ⟨fun h9 => c0 (hk.1.1.mpr h9), ?_⟩
          rw [hrow.1, if_neg]
          intro h9
          rcases h9 with (h9 | h9) | h9
          · exact cR (Or.inl h9)
          · rcases h9.2 with h8 | h8
            · exact cR (Or.inr h8)
            · exact c4 h8
          · omega
