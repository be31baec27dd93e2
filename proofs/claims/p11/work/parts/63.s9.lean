/-- the text is read without a fault -/
noncomputable def SUC (σ : Nat) (J : Nat → Int32) (B : Nat → Nat → Int32) (L : Nat → Nat → Int64) : Int32 × (Nat → Int32) × (Nat → Nat → Int32) × (Nat → Nat → Int64) := if σ = 1 then f_bdM (fM12_begins (upd (upd (upd J 10 (-1)) 14 (-1)) 15 1) B L) (fun _ J1 B1 L1 => f_bdM (fM12_keepsRow J1 B1 L1) (fun _ J2 B2 L2 => itr_iIAL dfM (bM12_read_224) FU 0 (upd J2 22 0) B2 L2)) else f_bdM (fM12_begins (upd (upd (upd J 10 (-1)) 14 (-1)) 15 0) B L) (fun _ J1 B1 L1 => f_bdM (fM12_keepsRow J1 B1 L1) (fun _ J2 B2 L2 => itr_iIAL dfM (bM12_read_224x) FU 0 (upd J2 22 0) B2 L2))
noncomputable def bR (σ : Nat) := if σ = 1 then bM12_read_89 else bM12_read_89x
theorem read_body {G : (Nat → Int32) → (Nat → Nat → Int32) → (Nat → Nat → Int64) → (Int32 × (Nat → Int32) × (Nat → Nat → Int32) × (Nat → Nat → Int64))} {J : Nat → Int32} {B : Nat → Nat → Int32} {L : Nat → Nat → Int64} {σ : Nat} : bR σ G J B L = if (J 6).toInt ≠ 0 then (J 6, upd (upd J 10 (J 7)) 14 (J 12), B, L) else if fM12_is J B L 0 = 0 then f_bdM (fM12_tellOne J B L) (fun _ J1 B1 L1 => G J1 B1 L1) else if (J 8).toInt ≤ 0 then SUC σ J B L else (J 8, upd (upd J 10 (J 9)) 14 (J 13), B, L) := by
  unfold bR SUC
  by_cases c : σ = 1
  · rw [if_pos c, if_pos c]
    unfold bM12_read_89
    rfl
  · rw [if_neg c, if_neg c]
    unfold bM12_read_89x
    rfl
def OUT (n c : Nat) (pos : Nat → Nat) (A0 B0 : Nat → Nat → Int32) (L0 : Nat → Nat → Int64) (J0 : Nat → Int32) (σ : Nat) (I : Nat → Int32) (A : Nat → Nat → Int32) (R : Int32 × (Nat → Int32) × (Nat → Nat → Int32) × (Nat → Nat → Int64)) : Prop :=
  (∃ (k pl ca : Int32) (J' : Nat → Int32) (B' : Nat → Nat → Int32) (L' : Nat → Nat → Int64), R = (k, upd (upd J' 10 pl) 14 ca, B', L') ∧ k.toInt ≠ 0 ∧ XF I A k pl ca ∧ Md MJ J0 J' ∧ Md MB B0 B' ∧ Md [7] L0 L' ∧ FRM σ B0 B') ∨
  (∃ (I' : Nat → Int32) (A' : Nat → Nat → Int32) (J' : Nat → Int32) (B' : Nat → Nat → Int32) (L' : Nat → Nat → Int64) (t nq : Nat), R = SUC σ J' B' L' ∧ Ev I A (0, I', A') ∧ Md SX I I' ∧ Md SXA A A' ∧ ST0 n c pos A0 B0 L0 J0 σ nq I' A' J' B' L' t ∧ (I' 11).toInt = 0)
theorem OUT.red {n c : Nat} {pos : Nat → Nat} {A0 B0 : Nat → Nat → Int32} {L0 : Nat → Nat → Int64} {J0 : Nat → Int32} {σ : Nat} {I I1 : Nat → Int32} {A A1 : Nat → Nat → Int32} {R : Int32 × (Nat → Int32) × (Nat → Nat → Int32) × (Nat → Nat → Int64)} (h : Red I A I1 A1) (h2 : OUT n c pos A0 B0 L0 J0 σ I1 A1 R) : OUT n c pos A0 B0 L0 J0 σ I A R := by
  rcases h2 with ⟨k, pl, ca, J', B', L', a1, a2, a3, a4⟩ | ⟨I', A', J', B', L', t, nq, a1, a2, a3, a4, a5⟩
  · exact Or.inl ⟨k, pl, ca, J', B', L', a1, a2, XF.red h a3, a4⟩
  · exact Or.inr ⟨I', A', J', B', L', t, nq, a1, h.1 _ a2, Md.tr h.2.1 a3 rfl, Md.tr h.2.2 a4 rfl, a5⟩
theorem sim_all {n c : Nat} {pos : Nat → Nat} {A0 B0 : Nat → Nat → Int32} {L0 : Nat → Nat → Int64} {J0 : Nat → Int32} {σ : Nat} (hE : ENV n c pos A0 B0 L0) :
    ∀ (m : Nat) (I : Nat → Int32) (A : Nat → Nat → Int32) (J : Nat → Int32) (B : Nat → Nat → Int32) (L : Nat → Nat → Int64) (t nq : Nat), ST0 n c pos A0 B0 L0 J0 σ nq I A J B L t → 403 - t < m → OUT n c pos A0 B0 L0 J0 σ I A (itr_IAL dfM (bR σ) m J B L) := by
  intro m
  induction m with
  | zero => intro I A J B L t nq _ h; omega
  | succ m ih =>
    intro I A J B L t nq hS hm
    show OUT n c pos A0 B0 L0 J0 σ I A (bR σ (itr_IAL dfM (bR σ) m) J B L)
    obtain ⟨G, hG⟩ : ∃ G, G = itr_IAL dfM (bR σ) m := ⟨_, rfl⟩
    rw [← hG] at ih ⊢
    have hS' := hS
    obtain ⟨⟨hH, mJ, mB, mL, fr, j4, j6, i10, js, hσ⟩, hW, hD, hQ, i6, i9, j11, i8, i16⟩ := hS'
    have hk := hand_K hE hH
    have ht4 : t ≤ 400 := hH.2.2.2.2.1
    rw [read_body, if_neg (fun h9 => h9 j6), m_is0 j6 j4, mB 2 rfl]
    by_cases c0 : (B0 2 t).toInt = 0
    · rw [if_pos (show (B0 2 t).toInt = (0 : Int32).toInt from c0), if_neg (by decide)]
      have i1 : (I 1).toInt = 0 := hk.1.1.mp c0
      have hev := ev_end (A := A) i10 i1 i6
      obtain ⟨w1, w2, w3, w4⟩ := hW
      by_cases c8 : (J 8).toInt ≤ 0
      · rw [if_pos c8]
        have z11 : (I 11).toInt = 0 := by rw [w1] at c8; omega
        have e0 : I 11 = 0 := Int32.toInt_inj.mp z11
        rw [e0] at hev
        exact Or.inr ⟨I, A, J, B, L, t, nq, rfl, hev, Md.rf, Md.rf, hS, z11⟩
      · rw [if_neg c8]
        have z11 : (I 11).toInt ≠ 0 := by rw [w1] at c8; omega
        obtain ⟨x1, x2, x3⟩ := w4 z11
        exact Or.inl ⟨J 8, J 9, J 13, J, B, L, rfl, by rw [w1]; exact z11, ⟨I, A, by rw [w1]; exact hev, x1.symm, x2.symm, Md.rf, Md.rf⟩, mJ, mB, mL, fr⟩
    · rw [if_neg (show ¬ (B0 2 t).toInt = (0 : Int32).toInt from c0), if_pos rfl]
      obtain ⟨J', B', L', r1, r2, r3, r4, r5, r6⟩ := sim_tellOne hE hS c0
      rw [r1, bdM_mk]
      rcases r6 with hf | ⟨I2, A2, t2, nq2, s1, s2, s3⟩
      · -- the next round of the reference's loop ends
        have h6 := hf.1
        have e : G J' B' L' = (J' 6, upd (upd J' 10 (J' 7)) 14 (J' 12), B', L') := by
          rw [hG]
          cases m with
          | zero => omega
          | succ m =>
            show bR σ (itr_IAL dfM (bR σ) m) J' B' L' = _
            rw [read_body, if_pos (by omega)]
        rw [e]
        exact Or.inl ⟨J' 6, J' 7, J' 12, J', B', L', rfl, by omega, hf.2, r2, r3, r4, r5⟩
      · exact OUT.red s2 (ih I2 A2 J' B' L' t2 nq2 s3 (by omega))
/-- the class begins to read -/
theorem x_clear7 {I : Nat → Int32} {A : Nat → Nat → Int32} : fX7_clear I A = (0, I, up3 (up3 (up3 (up3 A 2 0 2) 2 1 0) 2 2 0) 2 3 8) := by
  have e : ∀ (m : Nat) (x : Int32) (A : Nat → Nat → Int32), itr_iIA dfX bX7_clear_2 (m + 1) x I A = bX7_clear_2 (itr_iIA dfX bX7_clear_2 m) x I A := fun _ _ _ => rfl
  obtain ⟨m, hm⟩ : ∃ m, FU = m + 1 + 1 + 1 + 1 + 1 := ⟨FU - 5, by have := FU_eq; omega⟩
  unfold fX7_clear
  rw [hm, e]
  generalize hG : itr_iIA dfX bX7_clear_2 (m + 1 + 1 + 1 + 1) = G
  show G 1 I (up3 A 2 0 2) = _
  rw [← hG, e]
  generalize hG2 : itr_iIA dfX bX7_clear_2 (m + 1 + 1 + 1) = G2
  show G2 2 I (up3 (up3 A 2 0 2) 2 1 0) = _
  rw [← hG2, e]
  generalize hG3 : itr_iIA dfX bX7_clear_2 (m + 1 + 1) = G3
  show G3 3 I (up3 (up3 (up3 A 2 0 2) 2 1 0) 2 2 0) = _
  rw [← hG3, e]
  generalize hG4 : itr_iIA dfX bX7_clear_2 (m + 1) = G4
  show G4 4 I (up3 (up3 (up3 (up3 A 2 0 2) 2 1 0) 2 2 0) 2 3 8) = _
  rw [← hG4, e]
  generalize itr_iIA dfX bX7_clear_2 m = G5
  rfl
