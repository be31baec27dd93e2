/-- what the class's reading leaves alone behind a text without FAULT (a state that can't be has I 30 = 0) -/
def QP (a b : Int32) (I : Nat → Int32) : Prop := I 30 = 0 ∨ (I 12 = a ∧ I 13 = b)
theorem QP.up {a b : Int32} {I : Nat → Int32} {k : Nat} {v : Int32} (h : QP a b I) (h1 : k ≠ 12) (h2 : k ≠ 13) (h3 : k ≠ 30) : QP a b (upd I k v) := by
  unfold QP
  rw [upd_ne (by omega), upd_ne (by omega), upd_ne (by omega)]; exact h
theorem QP.df {a b : Int32} : QP a b dfX.2.1 := Or.inl rfl
theorem q_itr {a b : Int32} {B : (Int32 → (Nat → Int32) → (Nat → Nat → Int32) → (Int32 × (Nat → Int32) × (Nat → Nat → Int32))) → Int32 → (Nat → Int32) → (Nat → Nat → Int32) → (Int32 × (Nat → Int32) × (Nat → Nat → Int32))} (hB : ∀ G, (∀ x I A, QP a b I → QP a b (G x I A).2.1) → ∀ x I A, QP a b I → QP a b (B G x I A).2.1) : ∀ (m : Nat) (x : Int32) (I : Nat → Int32) (A : Nat → Nat → Int32), QP a b I → QP a b (itr_iIA dfX B m x I A).2.1 := by
  intro m
  induction m with
  | zero => intro x I A _; exact QP.df
  | succ m ih =>
    intro x I A h
    show QP a b (B (itr_iIA dfX B m) x I A).2.1
    exact hB _ ih x I A h
theorem q_app2 {I : Nat → Int32} {A : Nat → Nat → Int32} {v : Int32} : (fX4_append_2 I A v).2.1 = I := by
  unfold fX4_append_2
  dsimp only [f_lt]
  split
  · rfl
  · split
    · rfl
    · rfl
theorem q_open2 {a b : Int32} {I : Nat → Int32} {A : Nat → Nat → Int32} (h : QP a b I) : QP a b (fX4_open_2 I A).2.1 := by
  unfold fX4_open_2
  dsimp only [f_lt]
  split
  · exact h
  · split
    · exact h
    · exact h.up (by decide) (by decide) (by decide)
theorem q_take4 {a b : Int32} {I : Nat → Int32} {A : Nat → Nat → Int32} (h : QP a b I) : QP a b (fX4_takeFrom I A).2.1 := by
  unfold fX4_takeFrom
  refine q_itr (fun G hG x I1 A1 h1 => ?_) FU 0 _ _ (h.up (by decide) (by decide) (by decide))
  unfold bX4_takeFrom_7
  split
  · exact h1
  · show QP a b (itr_iIA dfX (bX4_takeFrom_21 x G) FU 0 (fX4_open_2 I1 A1).2.1 (fX4_open_2 I1 A1).2.2).2.1
    refine q_itr (fun G2 hG2 x2 I2 A2 h2 => ?_) FU 0 _ _ (q_open2 h1)
    unfold bX4_takeFrom_21
    dsimp only [f_lt]
    split
    · exact hG _ _ _ h2
    · split
      · exact hG _ _ _ h2
      · show QP a b (G2 _ (fX4_append_2 I2 A2 _).2.1 (fX4_append_2 I2 A2 _).2.2).2.1
        refine hG2 _ _ _ ?_
        rw [q_app2]; exact h2
theorem q_app6 {a b : Int32} {I : Nat → Int32} {A : Nat → Nat → Int32} {v : Int32} (h : QP a b I) : QP a b (fX6_append I A v).2.1 := by
  unfold fX6_append
  dsimp only [f_lt]
  split
  · first
      | exact h
      | exact h.up (by decide) (by decide) (by decide)
  · first
      | exact h
      | exact h.up (by decide) (by decide) (by decide)
theorem q_take6 {a b : Int32} {I : Nat → Int32} {A : Nat → Nat → Int32} (h : QP a b I) : QP a b (fX6_takeFrom I A).2.1 := by
  unfold fX6_takeFrom
  refine q_itr (fun G hG x I1 A1 h1 => ?_) FU 0 _ _ ((h.up (by decide) (by decide) (by decide)).up (by decide) (by decide) (by decide))
  unfold bX6_takeFrom_12
  dsimp only [f_lt]
  split
  · exact h1
  · show QP a b (G _ (fX6_append I1 A1 _).2.1 (fX6_append I1 A1 _).2.2).2.1
    exact hG _ _ _ (q_app6 h1)
theorem q_take7 {a b : Int32} {I : Nat → Int32} {A : Nat → Nat → Int32} (h : QP a b I) : QP a b (fX7_takeFrom I A).2.1 := by
  unfold fX7_takeFrom
  refine q_itr (fun G hG x I1 A1 h1 => ?_) FU 0 _ _ h
  unfold bX7_takeFrom_2
  dsimp only [f_lt]
  split
  · exact h1
  · exact hG _ _ _ h1
theorem q_go {a b : Int32} {I : Nat → Int32} {A : Nat → Nat → Int32} (h : QP a b I) : QP a b (fX11_goOnFrom I A).2.1 := by
  show QP a b (upd (fX7_takeFrom (fX6_takeFrom I A).2.1 (fX6_takeFrom I A).2.2).2.1 21 0)
  exact (q_take7 (q_take6 h)).up (by decide) (by decide) (by decide)
theorem q_47 {a b y : Int32} {I : Nat → Int32} {A : Nat → Nat → Int32} (h : QP a b I) : QP a b (itr_iIA dfX (bX11_read_47 y) FU 0 I A).2.1 := by
  refine q_itr (fun G hG x I1 A1 h1 => ?_) FU 0 _ _ h
  unfold bX11_read_47
  split
  · exact h1
  · split
    · exact hG _ _ _ (h1.up (by decide) (by decide) (by decide))
    · split
      · exact hG _ _ _ (h1.up (by decide) (by decide) (by decide))
      · split
        · exact hG _ _ _ (h1.up (by decide) (by decide) (by decide))
        · exact QP.df
theorem m_suc2 {J : Nat → Int32} {B : Nat → Nat → Int32} {L : Nat → Nat → Int64} {σ : Nat} (hσ : σ ≤ 1) (h8 : (B 8 σ).toInt ≤ 160) : ∃ (J2 : Nat → Int32) (B2 : Nat → Nat → Int32), SUC σ J B L = (0, J2, B2, L) ∧ J2 10 = -1 ∧ J2 14 = -1 := by
  unfold SUC
  have hc : σ = 0 ∨ σ = 1 := by omega
  rcases hc with e | e
  · subst e
    rw [if_neg (by decide)]
    obtain ⟨B1, b1⟩ := m_begins (J := upd (upd (upd J 10 (-1)) 14 (-1)) 15 0) (B := B) (L := L) (σ := 0) rfl (by decide) h8
    rw [b1, bdM_mk]
    unfold fM12_keepsRow
    rw [bdM_mk, m_224x]
    obtain ⟨B2, b2⟩ := m_224 (J := upd (upd (upd (upd J 10 (-1)) 14 (-1)) 15 0) 22 0) (L := L) FU 0 _ (by decide) (by decide) (by have := FU_eq; have : (0 : Int32).toInt = 0 := rfl; omega)
    exact ⟨_, B2, b2, rfl, rfl⟩
  · subst e
    rw [if_pos rfl]
    obtain ⟨B1, b1⟩ := m_begins (J := upd (upd (upd J 10 (-1)) 14 (-1)) 15 1) (B := B) (L := L) (σ := 1) rfl (by decide) h8
    rw [b1, bdM_mk]
    unfold fM12_keepsRow
    rw [bdM_mk]
    obtain ⟨B2, b2⟩ := m_224 (J := upd (upd (upd (upd J 10 (-1)) 14 (-1)) 15 1) 22 0) (L := L) FU 0 _ (by decide) (by decide) (by have := FU_eq; have : (0 : Int32).toInt = 0 := rfl; omega)
    exact ⟨_, B2, b2, rfl, rfl⟩
/-- a whole text: number, place and cause alike -/
theorem read_pc {I I' J J' : Nat → Int32} {A A' B B' : Nat → Nat → Int32} {M M' : Nat → Nat → Int64} {v w : Int32} (h : RT I A J B M) (hI : IvX I A) (hJ : IvM J B) (eX : FE (fX11_read I A) (v, I', A')) (eM : FE (fM12_read J B M) (w, J', B', M')) (hI2 : IvX I' A') : I' 12 = J' 10 ∧ I' 13 = J' 14 := by
  obtain ⟨hT, hL⟩ := h
  have h0 := IvX_f0 hI
  have h15 := IvM_f15 hJ
  have eX2 : fX11_read I A = (v, I', A') := eX
  have eM2 : fM12_read J B M = (w, J', B', M') := eM
  have hc0 := cl_int (y := I 0) h0.1
  obtain ⟨n, hn⟩ : ∃ n : Nat, n = (I 0).toNatClampNeg := ⟨_, rfl⟩
  have hnI : (I 0).toInt = (n : Int) := by omega
  have hnJ : (J 1).toInt = (n : Int) := by rw [← hT.1]; exact hnI
  have hn2 : n ≤ 2000 := by omega
  -- the sides
  obtain ⟨σ, s, hs⟩ : ∃ (σ : Nat) (s : Int32), ((J 15).toInt = 0 ∧ σ = 1 ∧ s = 1) ∨ ((J 15).toInt = 1 ∧ σ = 0 ∧ s = 0) := by
    by_cases c : (J 15).toInt = 0
    · exact ⟨1, 1, Or.inl ⟨c, rfl, rfl⟩⟩
    · exact ⟨0, 0, Or.inr ⟨by omega, rfl, rfl⟩⟩
  have hσ : σ ≤ 1 := by rcases hs with h | h <;> omega
  have hss : s.toInt = (σ : Int) := by rcases hs with ⟨_, a, b⟩ | ⟨_, a, b⟩ <;> rw [a, b] <;> rfl
  -- the reference: copy and cut
  obtain ⟨B2, mB2, hB2, e1⟩ := m_copy (J := J) (B := B) (M := M) (σ := σ) (s := s) hnJ hn2 hs FU 0 0 B rfl (by omega) (by have := FU_eq; omega) Md.rf (fun j hj => by omega)
  have e2 : fM12_read J B M = RDM σ s J B2 M := e1
  have hf : ∀ j, j < n → (B2 1 j &&& 255).toInt = bt A j := fun j hj => by
    rw [hB2 j hj, ← hT.2 j (by omega)]; rfl
  obtain ⟨J3, B3, L3, c, pos, k1, k2, k3, k4, k5, k6, k7, k8, k9, k10⟩ := m_cut (J := upd (upd J 2 (J 1)) 1 0) (B := B2) (L := M) (f := bt A) (n := n) hnJ hn2 hf FU 0 (upd (upd (upd J 2 (J 1)) 1 0) 3 0) B2 M 0 0 0 (fun _ => 0) rfl (by omega) rfl (by omega) (Md.up Md.rf rfl) Md.rf Md.rf rfl rfl (fun _ _ => Nat.zero_le n) (Nat.le_refl _) (fun j a b => by omega) (fun t ht => by omega) (by have := FU_eq; omega)
  have e3 : fM12_cut (upd (upd J 2 (J 1)) 1 0) B2 M = (0, J3, B3, L3) := k1
  unfold RDM at e2
  rw [e3, bdM_mk] at e2
  have lk3 : LK L3 := fun k hk => by rw [k4 6 rfl]; exact hL k hk
  have hE : ENV n c pos A (bin B3 σ) L3 := by
    refine ⟨hn2, fun j hj => ?_, lk3, k8, fun u hu => ?_, k10, k6⟩
    · rw [hT.2 j (by omega)]
      exact (i32_mask 8 rfl (by decide) (by decide)).1
    · obtain ⟨s9, cl9, h9⟩ := k9 u hu
      exact ⟨s9, cl9, h9.cg rfl rfl rfl⟩
  -- the class begins
  obtain ⟨Ac, hAc⟩ : ∃ Ac, Ac = up3 (up3 (up3 (up3 A 2 0 2) 2 1 0) 2 2 0) 2 3 8 := ⟨_, rfl⟩
  obtain ⟨Ib, hIb⟩ : ∃ Ib, Ib = upd (upd (upd (upd (upd (upd (upd (upd (upd (upd (upd I 14 0) 16 0) 6 0) 8 0) 9 (-2)) 10 0) 11 0) 12 (-1)) 13 (-1)) 5 0) 4 0 := ⟨_, rfl⟩
  have hA0 : Ac 0 = A 0 := by rw [hAc]; rfl
  obtain ⟨I1, s1, e1', c1, n1, n2, n3, n4⟩ := x_next (I := Ib) (A := Ac) (n := n) (p := pos 0) (by rw [hIb]; exact hnI) hn2 (fun j hj => by rw [hA0]; exact hE.2.1 j hj) (by rw [hIb, k7]; rfl) (by rw [k7]; omega)
  have eb : fX5_begin I A = (0, I1, Ac) := by
    have e8 : fX8_clear I A = (0, upd I 14 0, Ac) := by
      unfold fX8_clear
      rw [x_clear7, ← hAc]; rfl
    rw [hIb] at n1
    have e9 : fX10_toFirstToken (upd (upd (upd (upd (upd (upd (upd (upd (upd I 14 0) 16 0) 6 0) 8 0) 9 (-2)) 10 0) 11 0) 12 (-1)) 13 (-1)) Ac = (0, I1, Ac) := by
      unfold fX10_toFirstToken
      rw [n1]; rfl
    unfold fX5_begin
    rw [e8, bdX_mk, e9]; rfl
  have hc1 : 0 < c := by
    rcases k10 with h9 | ⟨u, h9, -⟩ <;> omega
  have hH : HAND n c pos A I1 Ac 0 := ⟨hA0, by rw [n2 0 rfl, hIb]; exact hnI, by rw [n3, hIb]; rfl, hc1, by omega, s1, e1', c1, n4⟩
  have i2 : 0 ≤ (I1 2).toInt := by rw [n4.2.2.1]; omega
  have g : ∀ k, [1, 2, 3, 4, 5].contains k = false → I1 k = Ib k := n2
  have hS : ST0 n c pos A (bin B3 σ) L3 (jin J3 s) σ 0 I1 Ac (jin J3 s) (bin B3 σ) L3 0 := by
    refine ⟨⟨hH, Md.rf, Md.rf, Md.rf, ⟨rfl, fun _ _ => rfl, fun _ _ => rfl⟩, rfl, rfl, by rw [g 10 rfl, hIb]; rfl, hss, hσ⟩, ?_, ?_, ?_, by rw [g 6 rfl, hIb]; rfl, by rw [g 9 rfl, hIb]; rfl, rfl, by rw [g 8 rfl, hIb]; rfl, by rw [g 16 rfl, hIb]; rfl⟩
    · have z11 : I1 11 = 0 := by rw [g 11 rfl, hIb]; rfl
      refine ⟨by rw [z11]; rfl, by rw [z11]; decide, fun _ => ⟨by rw [g 12 rfl, hIb]; rfl, by rw [g 13 rfl, hIb]; rfl⟩, fun h9 => absurd (show (I1 11).toInt = 0 by rw [z11]; rfl) h9⟩
    · have z14 : I1 14 = 0 := by rw [g 14 rfl, hIb]; rfl
      refine ⟨?_, by rw [z14]; decide, by rw [z14]; decide, fun j hj => absurd (show (j : Int) < (0 : Int32).toInt by rw [← z14]; exact hj) (by have : (0 : Int32).toInt = 0 := rfl; omega), ?_, fun _ => ?_⟩
      · rw [z14]
        unfold bin
        rw [up3_o (by decide), up3_o (by decide), up3_o (by decide), up3_o (by decide), up3_o (by decide)]; exact up3_at rfl
      · rw [hAc]
        unfold bin
        refine ⟨?_, ?_, ?_, ?_⟩
        · rw [up3_o (by decide), up3_o (by decide), up3_o (by decide), up3_at rfl]; rfl
        · rw [up3_o (by decide), up3_o (by decide), up3_at rfl]; rfl
        · rw [up3_o (by decide), up3_at rfl]; rfl
        · rw [up3_at rfl]; rfl
      · rw [hAc]
        exact ⟨⟨(by decide : 0 ≤ (2 : Int32).toInt), (by decide : (2 : Int32).toInt ≤ 15)⟩, ⟨(by decide : 0 ≤ (0 : Int32).toInt), (by decide : (0 : Int32).toInt ≤ 3)⟩, ⟨(by decide : 0 ≤ (0 : Int32).toInt), (by decide : (0 : Int32).toInt ≤ 1)⟩, ⟨(by decide : 1 ≤ (8 : Int32).toInt), (by decide : (8 : Int32).toInt ≤ 99)⟩⟩
    · refine ⟨?_, rfl, by omega, fun q hq => by omega⟩
      unfold bin
      rw [up3_o (by decide), up3_o (by decide), up3_o (by decide), up3_o (by decide), up3_at rfl]; rfl
  have hO := sim_all hE FU I1 Ac (jin J3 s) (bin B3 σ) L3 0 0 hS (by have := FU_eq; omega)
  rw [← e2, eM2] at hO
  have i14 : I1 4 = 1 := by rw [n3, hIb]; rfl
  have run : ∀ (k : Int32) (If : Nat → Int32) (Af : Nat → Nat → Int32), Ev I1 Ac (k, If, Af) → fX5_readText I A = (k, If, Af) := fun k If Af hev => by
    unfold fX5_readText
    rw [eb, bdX_mk]
    exact hev FU 0 (by rw [i14]; rfl) (by decide) (by have := FU_eq; have : (0 : Int32).toInt = 0 := rfl; omega)
  unfold fX11_read at eX2
  rcases hO with ⟨k, pl, ca, Jf, Bf, Lf, o1, o2, ⟨If, Af, o3, u1, u2, -⟩, o4, o5, o6, -⟩ | ⟨If, Af, Jf, Bf, Lf, t9, nq9, o1, o3, -, -, o7, o8⟩
  · rw [run k If Af o3, bdX_mk, if_pos o2] at eX2
    cases eX2; cases o1
    exact ⟨u1, u2⟩
  · rw [run 0 If Af o3, bdX_mk, if_neg (by decide)] at eX2
    have h8 : (Bf 8 σ).toInt ≤ 160 := by rw [o7.2.2.1.1]; exact o7.2.2.1.2.2.1
    obtain ⟨J9, B9, m9, w1, w2⟩ := m_suc2 (J := Jf) (B := Bf) (L := Lf) hσ h8
    rw [m9] at o1
    have hq : QP (-1) (-1) I' := by
      have e9 : I' = (v, I', A').2.1 := rfl
      rw [e9, ← eX2]
      show QP (-1) (-1) (itr_iIA dfX (bX11_read_47 0) FU 0 (fX11_goOnFrom (fX4_takeFrom (upd If 0 0) Af).2.1 (fX4_takeFrom (upd If 0 0) Af).2.2).2.1 (fX11_goOnFrom (fX4_takeFrom (upd If 0 0) Af).2.1 (fX4_takeFrom (upd If 0 0) Af).2.2).2.2).2.1
      exact q_47 (q_go (q_take4 (QP.up (Or.inr (o7.2.1.2.2.1 o8)) (by decide) (by decide) (by decide))))
    have h30 := IvX_f30 hI2
    cases o1
    rcases hq with h9 | ⟨h9, h10⟩
    · rw [h9] at h30
      exact absurd h30.1 (by decide)
    · exact ⟨h9.trans w1.symm, h10.trans w2.symm⟩
/-- tapes, keys, place and cause alike -/
def RTp (I : Nat → Int32) (A : Nat → Nat → Int32) (J : Nat → Int32) (B : Nat → Nat → Int32) (M : Nat → Nat → Int64) : Prop := RT I A J B M ∧ I 12 = J 10 ∧ I 13 = J 14
