/-- the series, what is set and what can be undone are alike -/
def HS (I : Nat → Int32) (A : Nat → Nat → Int32) (J : Nat → Int32) (B : Nat → Nat → Int32) : Prop := ∃ (fs : Int) (u nx : Nat), (I 17).toInt = fs % 256 ∧ (I 21).toInt = (u : Int) ∧ (J 22).toInt = (u : Int) ∧ u ≤ 40 ∧ (I 20).toInt = (nx : Int) ∧ nx < 40 ∧ Rep fs (I 18).toInt (A 7) (A 10) (B 17) ∧ XP (A 11) (A 12) (A 13) (rwB B) u fs (I 18).toInt (A 7) (A 10) nx
theorem HS.keep {I I' J J' : Nat → Int32} {A A' B B' : Nat → Nat → Int32} (h : HS I A J B) (i17 : I' 17 = I 17) (i18 : I' 18 = I 18) (i20 : I' 20 = I 20) (i21 : I' 21 = I 21) (a7 : A' 7 = A 7) (a10 : A' 10 = A 10) (a11 : A' 11 = A 11) (a12 : A' 12 = A 12) (a13 : A' 13 = A 13) (j22 : J' 22 = J 22) (b17 : B' 17 = B 17) (b22 : B' 22 = B 22) : HS I' A' J' B' := by
  unfold HS rwB at *
  rw [i17, i18, i20, i21, a7, a10, a11, a12, a13, j22, b17, b22]; exact h
/-- a step: noted here, its row kept there -/
theorem HS.step {I I1 I' J J1 J' : Nat → Int32} {A A1 A' B B1 B' : Nat → Nat → Int32} {L L' : Nat → Nat → Int64} {fs fs' : Int} {u nx : Nat} {k f s a b : Int32}
    (h21 : (I 21).toInt = (u : Int)) (h22 : (J 22).toInt = (u : Int)) (hu : u ≤ 40) (h20 : (I 20).toInt = (nx : Int)) (hx : nx < 40)
    (hR : Rep fs (I 18).toInt (A 7) (A 10) (B 17)) (hX : XP (A 11) (A 12) (A 13) (rwB B) u fs (I 18).toInt (A 7) (A 10) nx)
    (i20 : I1 20 = I 20) (i21 : I1 21 = I 21) (a11 : A1 11 = A 11) (a12 : A1 12 = A 12) (a13 : A1 13 = A 13) (j22 : J1 22 = J 22) (b17 : B1 17 = B 17) (b22 : B1 22 = B 22)
    (i17 : (I1 17).toInt = fs' % 256) (hR1 : Rep fs' (I1 18).toInt (A1 7) (A1 10) (B1 18))
    (hQ : ∀ (K' F' S' : Nat → Int32) (rw' : Nat → Nat → Int32) (u0 : Nat), u0 ≤ 39 → XP K' F' S' rw' u0 fs (I 18).toInt (A 7) (A 10) nx → Rep fs (I 18).toInt (A 7) (A 10) (rw' u0) → XP1 (fun fs2 n2 rg2 st2 => Rep fs2 n2 rg2 st2 (rw' u0) ∧ XP K' F' S' rw' u0 fs2 n2 rg2 st2 nx) k f s fs' (I1 18).toInt (A1 7) (A1 10))
    (eN : fX3_note I1 A1 k f s = (a, I', A')) (eR : fM12_records J1 B1 L = (b, J', B', L')) : HS I' A' J' B' ∧ Md [20, 21] I1 I' ∧ Md [22] J1 J' ∧ Md [17, 22] B1 B' ∧ (∀ k, k < 165 → B' 17 k = B1 18 k) ∧ L' = L := by
  obtain ⟨I9, n1, n2, n3, n4⟩ := x_note (I := I1) (A := A1) (k := k) (f := f) (s := s) (nx := nx) (u := u) (by rw [i20]; exact h20) hx (by rw [i21]; exact h21) hu
  obtain ⟨J9, B9, u0, sh, m1, m2, m3, m4, m5, m6, m7, m8, m9, m10⟩ := m_records (J := J1) (B := B1) (L := L) (u := u) (by rw [j22]; exact h22) hu
  rw [n1] at eN
  rw [m1] at eR
  cases eN; cases eR
  have hr0 : ∀ k, k < 165 → rwB B' u0 k = B 17 k := fun k hk => by rw [m10 k hk, b17]
  have hrw : ∀ j, j < u0 → ∀ k, k < 165 → rwB B' j k = rwB B (j + sh) k := fun j hj k hk => by
    rw [m9 j hj k hk]
    unfold rwB
    rw [b22]
  refine ⟨⟨fs', u0 + 1, nxN nx, ?_, ?_, ?_, by omega, n3, ?_, ?_, ?_⟩, n2, m2, m7, m8, rfl⟩
  · rw [n2 17 rfl]; exact i17
  · rw [n4, ← m6]; rfl
  · rw [m3]; rfl
  · unfold nxN
    by_cases c : nx = 39
    · rw [if_pos c]; omega
    · rw [if_neg c]; omega
  · rw [n2 18 rfl]
    show Rep fs' (I1 18).toInt (A1 7) (A1 10) (B' 17)
    exact hR1.cg m8
  · rw [n2 18 rfl]
    show XP (upd (A1 11) nx k) (upd (A1 12) nx f) (upd (A1 13) nx s) (rwB B') (u0 + 1) fs' (I1 18).toInt (A1 7) (A1 10) (nxN nx)
    rw [a11, a12, a13]
    rw [m5] at hX
    exact XP.put hx (hQ _ _ _ _ u0 m4 (hX.old m4 hx hrw) (hR.cg hr0))
theorem HS.append {I I' J J' : Nat → Int32} {A A' B B' : Nat → Nat → Int32} {M M' : Nat → Nat → Int64} {v w a b : Int32} (h : HS I A J B) (hv : RdE v w) (eX : fX11_appendPlace I A v = (a, I', A')) (eM : fM12_comes J B M w = (b, J', B', M')) : HS I' A' J' B' ∧ a = b := by
  obtain ⟨fs, u, nx, h17, h21, h22, hu, h20, hx, hR, hX⟩ := h
  have hR2 := hR
  obtain ⟨r0, r1, r2, r3, r4⟩ := hR2
  by_cases c : (I 18).toInt < 160
  · have e18 : (I 18 + 1).toInt = (I 18).toInt + 1 := i32_inc (by omega)
    have eA : fX6_append I A v = (1, upd I 18 (I 18 + 1), up3 A 7 (ri (fs + (I 18).toInt)) v) := by
      unfold fX6_append
      dsimp only [f_lt]
      rw [if_pos c, ri_and h17]
    unfold fX11_appendPlace at eX
    rw [eA, bdX_mk, if_pos (by decide)] at eX
    obtain ⟨I9, n1, n2, n3, n4⟩ := x_note (I := upd I 18 (I 18 + 1)) (A := up3 A 7 (ri (fs + (I 18).toInt)) v) (k := 0) (f := 0) (s := 0) (nx := nx) (u := u) h20 hx h21 hu
    rw [n1, bdX_mk] at eX
    unfold fM12_comes at eM
    rw [if_pos (by omega)] at eM
    unfold fM12_copies at eM
    rw [bdM_mk] at eM
    dsimp only [f_lt] at eM
    have z0 : (up2 B 18 (cpo (B 17) (B 18) 0 165)) 18 0 = B 17 0 := by
      show cpo (B 17) (B 18) 0 165 0 = B 17 0
      rw [cpo_in (by omega) (by omega)]
    rw [z0] at eM
    have e0 : (1 + B 17 0).toInt = ((1 + (I 18).toInt.toNat : Nat) : Int) := by
      have := i32_add (x := 1) (y := B 17 0) (a := 1) rfl rfl r0 (by omega) (by omega)
      omega
    have e1 : (B 17 0 + 1).toInt = (I 18).toInt + 1 := by rw [i32_inc (by omega), r0]
    rw [clN e0] at eM
    obtain ⟨B1, hB1⟩ : ∃ B1, B1 = up3 (up3 (up2 B 18 (cpo (B 17) (B 18) 0 165)) 18 (1 + (I 18).toInt.toNat) w) 18 0 (B 17 0 + 1) := ⟨_, rfl⟩
    rw [← hB1] at eM
    obtain ⟨J9, B9, u0, sh, m1, -⟩ := m_records (J := J) (B := B1) (L := M) (u := u) h22 hu
    have k0 : B1 18 0 = B 17 0 + 1 := by rw [hB1]; exact up3_at rfl
    have k1 : ∀ i : Nat, i < 165 → i ≠ 0 → i ≠ 1 + (I 18).toInt.toNat → B1 18 i = B 17 i := fun i hi h1 h2 => by
      rw [hB1, up3_ne h1, up3_ne h2]
      show cpo (B 17) (B 18) 0 165 i = B 17 i
      rw [cpo_in (by omega) (by omega)]; rfl
    have k2 : B1 18 (1 + (I 18).toInt.toNat) = w := by rw [hB1, up3_ne (by omega)]; exact up3_at rfl
    have st := HS.step (I := I) (I1 := upd I 18 (I 18 + 1)) (A := A) (A1 := up3 A 7 (ri (fs + (I 18).toInt)) v) (J := J) (J1 := J) (B := B) (B1 := B1) (L := M) (fs := fs) (fs' := fs) (k := 0) (f := 0) (s := 0) h21 h22 hu h20 hx hR hX rfl rfl rfl rfl rfl rfl (by rw [hB1]; rfl) (by rw [hB1]; rfl) h17
      (by
        show Rep fs (I 18 + 1).toInt (upd (A 7) (ri (fs + (I 18).toInt)) v) (A 10) (B1 18)
        rw [e18]
        refine ⟨by rw [k0]; exact e1, by omega, by omega, fun i hi => ?_, ?_⟩
        · by_cases ci : (i : Int) = (I 18).toInt
          · rw [ci, show upd (A 7) (ri (fs + (I 18).toInt)) v (ri (fs + (I 18).toInt)) = v from if_pos rfl, show i = (I 18).toInt.toNat by omega, k2]
            exact hv
          · rw [upd_ne (ri_ne (by omega) (by omega)), k1 (1 + i) (by omega) (by omega) (by omega)]
            exact r3 i (by omega)
        · unfold StE at *
          rw [k1 161 (by omega) (by omega) (by omega), k1 162 (by omega) (by omega) (by omega), k1 163 (by omega) (by omega) (by omega), k1 164 (by omega) (by omega) (by omega)]
          exact r4)
      (by
        intro K' F' S' rw' u0 hu0 x1 x2
        refine Or.inl ⟨rfl, ?_, ?_, ?_⟩
        · show 1 ≤ (I 18 + 1).toInt
          omega
        · show Rep fs ((I 18 + 1).toInt - 1) (upd (A 7) (ri (fs + (I 18).toInt)) v) (A 10) (rw' u0)
          rw [show (I 18 + 1).toInt - 1 = (I 18).toInt by omega]
          exact x2.ring (by omega) (by omega)
        · show XP K' F' S' rw' u0 fs ((I 18 + 1).toInt - 1) (upd (A 7) (ri (fs + (I 18).toInt)) v) (A 10) nx
          rw [show (I 18 + 1).toInt - 1 = (I 18).toInt by omega]
          exact XP.ring u0 _ _ _ _ _ (by omega) (by omega) (by omega) x1)
      n1 m1
    rw [m1, bdM_mk] at eM
    cases eX; cases eM
    refine ⟨st.1, ?_⟩
    rw [st.2.2.2.2.1 0 (by omega), k0]
    apply Int32.toInt_inj.mp
    rw [e1]; exact e18
  · have eA : fX6_append I A v = (0, I, A) := by
      unfold fX6_append
      rw [if_neg c]
    unfold fX11_appendPlace at eX
    rw [eA, bdX_mk, if_neg (by decide)] at eX
    unfold fM12_comes at eM
    rw [if_neg (by omega)] at eM
    cases eX; cases eM
    exact ⟨⟨fs, u, nx, h17, h21, h22, hu, h20, hx, hR, hX⟩, rfl⟩
theorem HS.push {I I' J J' : Nat → Int32} {A A' B B' : Nat → Nat → Int32} {M M' : Nat → Nat → Int64} {z a b : Int32} (h : HS I A J B) (eX : FE (fX11_push I A z) (a, I', A')) (eM : FE (fM12_push J B M z) (b, J', B', M')) : HS I' A' J' B' ∧ a = b := by
  have eX2 : fX11_push I A z = (a, I', A') := eX
  have eM2 : fM12_push J B M z = (b, J', B', M') := eM
  unfold fX11_push at eX2
  unfold fM12_push at eM2
  rw [m_in, if10] at eM2
  have e1 : (-999 : Int32).toInt = -999 := rfl
  have e2 : (999 : Int32).toInt = 999 := rfl
  by_cases c1 : z.toInt < -999
  · rw [if_pos c1] at eX2
    rw [if_neg (by omega)] at eM2
    cases eX2; cases eM2
    exact ⟨h, rfl⟩
  · rw [if_neg c1] at eX2
    by_cases c2 : z.toInt ≤ 999
    · rw [if_pos c2] at eX2
      rw [if_pos (by omega)] at eM2
      obtain ⟨a1, I1, A1, g1⟩ : ∃ a1 I1 A1, fX11_appendPlace I A z = (a1, I1, A1) := ⟨_, _, _, rfl⟩
      obtain ⟨b1, J1, B1, M1, g2⟩ : ∃ b1 J1 B1 M1, fM12_comes J B M z = (b1, J1, B1, M1) := ⟨_, _, _, _, rfl⟩
      rw [g1, bdX_mk] at eX2
      rw [g2, bdM_mk] at eM2
      have := h.append (Or.inr ⟨rfl, by omega, c2⟩) g1 g2
      cases eX2; cases eM2
      exact this
    · rw [if_neg c2] at eX2
      rw [if_neg (by omega)] at eM2
      cases eX2; cases eM2
      exact ⟨h, rfl⟩
theorem HS.gap {I I' J J' : Nat → Int32} {A A' B B' : Nat → Nat → Int32} {M M' : Nat → Nat → Int64} {a b : Int32} (h : HS I A J B) (eX : FE (fX11_gap I A) (a, I', A')) (eM : FE (fM12_gap J B M) (b, J', B', M')) : HS I' A' J' B' ∧ a = b := by
  have eX2 : fX11_gap I A = (a, I', A') := eX
  have eM2 : fM12_gap J B M = (b, J', B', M') := eM
  unfold fX11_gap at eX2
  unfold fM12_gap at eM2
  obtain ⟨a1, I1, A1, g1⟩ : ∃ a1 I1 A1, fX11_appendPlace I A (-1000) = (a1, I1, A1) := ⟨_, _, _, rfl⟩
  obtain ⟨b1, J1, B1, M1, g2⟩ : ∃ b1 J1 B1 M1, fM12_comes J B M 100000 = (b1, J1, B1, M1) := ⟨_, _, _, _, rfl⟩
  rw [g1, bdX_mk] at eX2
  rw [g2, bdM_mk] at eM2
  have := h.append (Or.inl ⟨rfl, rfl⟩) g1 g2
  cases eX2; cases eM2
  exact this
