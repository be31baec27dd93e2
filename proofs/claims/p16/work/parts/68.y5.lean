theorem lvl_b {r : Nat → Int32} {n : Nat} {g : Nat → Int} (h : raw n g) : ∀ i, i < n → -1998 ≤ lvl r n g i ∧ lvl r n g i ≤ 1998 := fun _ hi => lvS_b h hi
theorem x_str {I : Nat → Int32} {A : Nat → Nat → Int32} {z : Int32} : fX11_isStretch I A z = if 2 ≤ z.toInt ∧ z.toInt ≤ 16 then 1 else 0 := by
  unfold fX11_isStretch
  by_cases c : z.toInt < 2
  · rw [if_pos c, if_neg (by omega)]
  · rw [if_neg c]
    by_cases d : 16 < z.toInt
    · rw [if_pos d, if_neg (by omega)]
    · rw [if_neg d, if_pos (by omega)]
theorem m_cp {B : Nat → Nat → Int32} : ∀ k, k < 165 → (up2 B 18 (cpo (B 17) (B 18) 0 165)) 18 k = B 17 k := fun k hk => by
  show cpo (B 17) (B 18) 0 165 k = B 17 k
  rw [cpo_in (by omega) (by omega)]; rfl
theorem MW.cp {J : Nat → Int32} {B : Nat → Nat → Int32} {σ N nq : Nat} {ql : Nat → Nat} {qv : Nat → Nat → Int} (h : MW J B σ N nq ql qv) : MW J (up2 B 18 (cpo (B 17) (B 18) 0 165)) σ N nq ql qv := h.mv rfl rfl rfl rfl rfl
section ANS2
variable {I I' J J' : Nat → Int32} {A A' B B' : Nat → Nat → Int32} {M M' : Nat → Nat → Int64} {z z1 z2 z3 v w : Int32}
theorem ans_level (h : RA I A J B M) (_ : IvX I A) (_ : IvM J B) (eX : FE (fX11_level I A z1 z2 z3) (v, I', A')) (eM : FE (fM12_level J B M z1 z2 z3) (w, J', B', M')) : v = w := by
  have eX2 : fX11_level I A z1 z2 z3 = (v, I', A') := eX
  have eM2 : fM12_level J B M z1 z2 z3 = (w, J', B', M') := eM
  obtain ⟨σ, N, nq, ql, qv, hx, hm⟩ := h.xm
  have hs := hx.2.2.2.2.n
  have t2 : (2 : Int32).toInt = 2 := rfl
  have t16 : (16 : Int32).toInt = 16 := rfl
  have t0 : (0 : Int32).toInt = 0 := rfl
  unfold fX11_level at eX2
  unfold fM12_level at eM2
  rw [x_str, if10] at eX2
  rw [m_in, if10] at eM2
  by_cases cn : 2 ≤ z2.toInt ∧ z2.toInt ≤ 16
  · rw [if_pos cn] at eX2
    rw [if_pos (by omega)] at eM2
    have d := i32_sub (x := z2) (y := 1) (b := 1) rfl rfl rfl (by omega) (by omega)
    rw [f_lt_eq, m_in, if10] at eM2
    rcases win_eq (J := J) (L := M) hx.1 z1 z2 with ⟨a, b⟩ | ⟨a, b, s, n, hs1, hs2, hw⟩
    · rw [b, if_pos rfl] at eM2
      rw [a, if_pos rfl] at eX2
      cases eM2
      by_cases c1 : z3.toInt < 0
      · rw [if_pos c1] at eX2; cases eX2; rfl
      · rw [if_neg c1] at eX2
        by_cases c2 : z2.toInt ≤ z3.toInt
        · rw [if_pos c2] at eX2; cases eX2; rfl
        · rw [if_neg c2] at eX2; cases eX2; rfl
    · rw [b, if_neg (by decide)] at eM2
      rw [a, if_neg (show ¬ (1 : Int32) = 0 by decide)] at eX2
      by_cases c1 : z3.toInt < 0
      · rw [if_pos c1] at eX2
        rw [if_neg (by omega)] at eM2
        cases eX2; cases eM2; rfl
      · rw [if_neg c1] at eX2
        by_cases c2 : z2.toInt ≤ z3.toInt
        · rw [if_pos c2] at eX2
          rw [if_neg (by omega)] at eM2
          cases eX2; cases eM2; rfl
        · rw [if_neg c2] at eX2
          rw [if_pos (by omega)] at eM2
          obtain ⟨I2, A2, e1, -, -, e2⟩ := x_openW hx hs1 hs2 (by omega) hw
          rw [e1, bdX_mk] at eX2
          unfold fM12_copies at eM2
          rw [bdM_mk] at eM2
          obtain ⟨B2, e3, -, e4⟩ := m_laysW (J := J) (B := up2 B 18 (cpo (B 17) (B 18) 0 165)) (L := M) hm.1 m_cp hs.2.2.2.2.2.2.1 hs.2.2.2.2.2.2.2.1 hs1 hs2 (by omega) hw
          rw [e3, bdM_mk] at eM2
          cases eX2; cases eM2
          obtain ⟨i, hi⟩ : ∃ i : Nat, z3.toInt = (i : Int) := ⟨z3.toInt.toNat, by omega⟩
          rw [clN hi]
          apply Int32.toInt_inj.mp
          rw [e2.2.2.2.2 i (by omega), e4 i (by omega)]
  · rw [if_neg cn] at eX2
    rw [if_neg (by omega)] at eM2
    cases eX2; cases eM2; rfl
end ANS2
/-- a QUERY and a WINDOW of it -/
theorem both_eq {I J : Nat → Int32} {A B : Nat → Nat → Int32} {L : Nat → Nat → Int64} {r : Nat → Int32} {σ N nq : Nat} {ql : Nat → Nat} {qv : Nat → Nat → Int} (hx : XW I A r N nq ql qv) (hm : MW J B σ N nq ql qv) (hr : ∀ k, k < 161 → B 17 k = r k) (z1 z2 : Int32) : (fX0_hasBoth I A z1 z2 = 0 ∧ fM12_isOf J B L z1 z2 = 0) ∨ (fX0_hasBoth I A z1 z2 = 1 ∧ fM12_isOf J B L z1 z2 = 1 ∧ ∃ q s : Nat, z1.toInt = (q : Int) ∧ z2.toInt = (s : Int) ∧ q < nq ∧ wnR r N s (ql q)) := by
  have wr : ∀ s k, wnR (B 17) N s k → wnR r N s k := fun s k hw => ⟨hw.1, hw.2.1, fun j hj => by
    have := hw.2.2 j hj
    rw [hr (1 + (s + j)) (by have := hw.2.1; have := hx.1.1.2.1; omega)] at this
    exact this⟩
  have wr' : ∀ s k, wnR r N s k → wnR (B 17) N s k := fun s k hw => ⟨hw.1, hw.2.1, fun j hj => by
    rw [hr (1 + (s + j)) (by have := hw.2.1; have := hx.1.1.2.1; omega)]
    exact hw.2.2 j hj⟩
  unfold fX0_hasBoth fM12_isOf
  simp only [f_lt_eq]
  rw [m_isQuery hm.2.1 hm.2.2.1 hm.2.2.2.1 hm.2.2.2.2.1, x_hasQ hx.2.1 hx.2.2.1, if10, if10]
  by_cases c : 0 ≤ z1.toInt ∧ z1.toInt < (nq : Int)
  · obtain ⟨q, hq⟩ : ∃ q : Nat, z1.toInt = (q : Int) := ⟨z1.toInt.toNat, by omega⟩
    rw [if_pos c, if_pos c, x_len2 hx.2.1 hx.2.2.1 hq (by omega), ifp, clN (i_5 hm.2.1 hm.2.2.1 hq (by have := hm.2.2.2.2.1; omega))]
    obtain ⟨l1, l2, l3, -⟩ := hx.2.2.2.1 q (by omega)
    obtain ⟨k1, -⟩ := hm.2.2.2.2.2 q (by omega)
    have e9 : B 11 (5 * σ + q) = A 9 q := Int32.toInt_inj.mp (by omega)
    rw [e9]
    show ((if fX6_hasWindow I A z2 (A 9 q) = 0 then (0 : Int32) else 1) = 0 ∧ _) ∨ ((if fX6_hasWindow I A z2 (A 9 q) = 0 then (0 : Int32) else 1) = 1 ∧ _)
    rcases x_win hx.1 (z1 := z2) (z2 := A 9 q) with ⟨a, b⟩ | ⟨a, s, k, b, b2, d⟩
    · rw [a, if_pos rfl]
      rcases m_win (J := J) (L := L) hm.1 (z1 := z2) (z2 := A 9 q) with ⟨a2, -⟩ | ⟨a2, s2, k2, b2, c2, d2⟩
      · rw [a2, if_pos rfl]; exact Or.inl ⟨rfl, rfl⟩
      · exact absurd (wr s2 k2 d2) (b s2 k2 b2 c2)
    · rw [a, if_neg (by decide)]
      rcases m_win (J := J) (L := L) hm.1 (z1 := z2) (z2 := A 9 q) with ⟨a2, b2'⟩ | ⟨a2, -⟩
      · exact absurd (wr' s k d) (b2' s k b b2)
      · rw [a2, if_neg (by decide)]
        refine Or.inr ⟨rfl, rfl, q, s, hq, b, by omega, ?_⟩
        rw [show ql q = k by omega]; exact d
  · rw [if_neg c, if_neg c]; exact Or.inl ⟨rfl, rfl⟩
/-- the DISTANCE of a QUERY's WINDOW within a band -/
def dQ (r : Nat → Int32) (ql : Nat → Nat) (qv : Nat → Nat → Int) (b : Int) (q s : Nat) : Int := dT b (cC (r 163).toInt (lvl r (ql q) (qv q)) (lvl r (ql q) (gW r s))) (ql q)
section DIST
variable {I J : Nat → Int32} {A B : Nat → Nat → Int32} {L : Nat → Nat → Int64} {r : Nat → Int32} {σ N nq : Nat} {ql : Nat → Nat} {qv : Nat → Nat → Int}
theorem XW.qraw (hx : XW I A r N nq ql qv) {q : Nat} (hq : q < nq) : raw (ql q) (qv q) := fun i hi => ((hx.2.2.2.1 q hq).2.2.2 i hi).2
theorem x_TB (hx : XW I A r N nq ql qv) {q s : Nat} {b : Int} (hq : q < nq) (hw : wnR r N s (ql q)) (hb : 0 ≤ b ∧ b ≤ 1000) (hL : FL I A (ql q) b (r 163).toInt (lvl r (ql q) (qv q))) (hR : FR A (ql q) (lvl r (ql q) (gW r s))) : TB I A (ql q) b (r 163).toInt (lvl r (ql q) (qv q)) (lvl r (ql q) (gW r s)) := by
  obtain ⟨-, l2, l3, -⟩ := hx.2.2.2.1 q hq
  exact ⟨⟨by omega, l3⟩, ⟨hL.2.1, hL.2.2.1, hL.2.2.2.1⟩, hb, ⟨hL.2.2.2.2, hR⟩, lvl_b (hx.qraw hq), lvl_b (gW_raw hx.1.1 hw)⟩
theorem x_openB (hx : XW I A r N nq ql qv) {z1 z2 : Int32} {q s : Nat} (h1 : z1.toInt = (q : Int)) (h2 : z2.toInt = (s : Int)) (hq : q < nq) (hw : wnR r N s (ql q)) (h0 : fX0_hasBoth I A z1 z2 = 1) : ∃ (I' : Nat → Int32) (A' : Nat → Nat → Int32), fX0_openBoth I A z1 z2 = (1, I', A') ∧ Md [28, 30, 31, 32] I I' ∧ Md [21, 22] A A' ∧ TB I' A' (ql q) (r 161).toInt (r 163).toInt (lvl r (ql q) (qv q)) (lvl r (ql q) (gW r s)) := by
  have hs := hx.2.2.2.2.n
  obtain ⟨-, l2, l3, -⟩ := hx.2.2.2.1 q hq
  obtain ⟨I1, A1, a1, a2, a3, a4⟩ := x_openQ hx (z2 := A 10 0) (b := (r 161).toInt) h1 hq hs.1 hs.2.2.2.2.1
  have hx1 := hx.mv (I' := I1) (A' := A1) (a2 17 rfl) (a2 18 rfl) (a2 19 rfl) (a3 7 rfl) (a3 8 rfl) (a3 9 rfl) (a3 10 rfl)
  obtain ⟨A2, b1, b2, b3⟩ := x_secW hx1 h2 a4.1 a4.2.1 l3 hw
  unfold fX0_openBoth
  rw [h0, if_neg (by decide), f_lt_eq, x_vOf (z := 0) (k := 0) rfl (by omega), a1, bdX_mk, b1, bdX_mk]
  refine ⟨I1, A2, rfl, a2, Md.tr (Md.tr Md.rf a3 rfl) b2 rfl, ?_⟩
  have hx2 := hx1.mv (I' := I1) (A' := A2) rfl rfl rfl (b2 7 rfl) (b2 8 rfl) (b2 9 rfl) (b2 10 rfl)
  exact x_TB hx2 hq hw ⟨hs.2.2.2.2.1, by omega⟩ ⟨a4.1, a4.2.1, a4.2.2.1, a4.2.2.2.1, fun i hi => by rw [b2 21 rfl]; exact a4.2.2.2.2 i hi⟩ b3
theorem x_openB0 {z1 z2 : Int32} (h0 : fX0_hasBoth I A z1 z2 = 0) : fX0_openBoth I A z1 z2 = (0, I, A) := by
  unfold fX0_openBoth
  rw [h0, if_pos rfl]
theorem m_openB (hm : MW J B σ N nq ql qv) (hr : rok r N) (h18 : ∀ k, k < 165 → B 18 k = r k) (hk0 : 0 ≤ (r 162).toInt) (hk3 : (r 162).toInt ≤ 3) {b c : Int} (hb : (r 161).toInt = b) (hb0 : 0 ≤ b ∧ b ≤ 1000) (hc : (r 163).toInt = c) {z1 z2 : Int32} {q s : Nat} (h1 : z1.toInt = (q : Int)) (hq : q < nq) (h2 : z2.toInt = (s : Int)) (hw : wnR r N s (ql q)) : ∃ (J' : Nat → Int32) (B' : Nat → Nat → Int32), fM12_laysBoth J B L z1 z2 = (0, J', B', L) ∧ Md [18] J J' ∧ Md [19, 20] B B' ∧ TN J' B' (ql q) b c (lvl r (ql q) (qv q)) (lvl r (ql q) (gW r s)) := by
  obtain ⟨l1, l2, l3, l4⟩ := hm.2.2.2.2.2 q hq
  obtain ⟨J', B', e1, e2, e3, e4⟩ := m_laysBoth (L := L) hm hr h18 hk0 hk3 h1 hq h2 hw
  exact ⟨J', B', e1, e2, e3, ⟨by omega, l3⟩, ⟨e4.1, by rw [e3 18 rfl, h18 161 (by omega)]; exact hb, by rw [e3 18 rfl, h18 163 (by omega)]; exact hc⟩, hb0, e4.2, lvl_b (fun i hi => (l4 i hi).2), lvl_b (gW_raw hr hw)⟩
theorem m_dist (hm : MW J B σ N nq ql qv) (hr : rok r N) (h18 : ∀ k, k < 165 → B 18 k = r k) (hk0 : 0 ≤ (r 162).toInt) (hk3 : (r 162).toInt ≤ 3) (hb0 : 0 ≤ (r 161).toInt ∧ (r 161).toInt ≤ 1000) {z1 z2 : Int32} {q s : Nat} (h1 : z1.toInt = (q : Int)) (hq : q < nq) (h2 : z2.toInt = (s : Int)) (hw : wnR r N s (ql q)) : ∃ (v : Int32) (J' : Nat → Int32) (B' : Nat → Nat → Int32), fM12_distanceOf J B L z1 z2 = (v, J', B', L) ∧ v.toInt = dQ r ql qv (r 161).toInt q s ∧ Md [18, 19, 20] J J' ∧ Md [19, 20, 21] B B' ∧ TN J' B' (ql q) (r 161).toInt (r 163).toInt (lvl r (ql q) (qv q)) (lvl r (ql q) (gW r s)) ∧ MTb B' (ql q) (r 161).toInt (cC (r 163).toInt (lvl r (ql q) (qv q)) (lvl r (ql q) (gW r s))) (ql q) := by
  obtain ⟨J1, B1, a1, a2, a3, a4⟩ := m_openB (L := L) hm hr h18 hk0 hk3 rfl hb0 rfl h1 hq h2 hw
  obtain ⟨v, J2, B2, b1, b2, b3, b4, b5⟩ := m_whole (L := L) a4
  unfold fM12_distanceOf
  rw [a1, bdM_mk, b1, bdM_mk]
  exact ⟨v, J2, B2, rfl, b2, Md.tr (Md.tr Md.rf a2 rfl) b3 rfl, Md.tr (Md.tr Md.rf a3 rfl) b4 rfl, a4.mv (b3 18 rfl) (b4 18 rfl) (b4 19 rfl) (b4 20 rfl), b5⟩
end DIST
section ANS3
variable {I I' J J' : Nat → Int32} {A A' B B' : Nat → Nat → Int32} {M M' : Nat → Nat → Int64} {z z1 z2 z3 z4 v w : Int32}
theorem ans_distance (h : RA I A J B M) (_ : IvX I A) (_ : IvM J B) (eX : FE (fX11_distance I A z1 z2) (v, I', A')) (eM : FE (fM12_distance J B M z1 z2) (w, J', B', M')) : v = w := by
  have eX2 : fX11_distance I A z1 z2 = (v, I', A') := eX
  have eM2 : fM12_distance J B M z1 z2 = (w, J', B', M') := eM
  obtain ⟨σ, N, nq, ql, qv, hx, hm⟩ := h.xm
  have hs := hx.2.2.2.2.n
  unfold fX11_distance at eX2
  unfold fM12_distance at eM2
  rcases both_eq (L := M) hx hm (fun _ _ => rfl) z1 z2 with ⟨a, b⟩ | ⟨a, b, q, s, h1, h2, hq, hw⟩
  · rw [x_openB0 a, bdX_mk, if_pos (by decide)] at eX2
    rw [b, if_pos rfl] at eM2
    cases eX2; cases eM2; rfl
  · obtain ⟨I1, A1, a1, -, -, a4⟩ := x_openB hx h1 h2 hq hw a
    obtain ⟨v1, I2, A2, b1, b2, -⟩ := x_whole a4
    rw [a1, bdX_mk, if_neg (by decide), b1, bdX_mk] at eX2
    unfold fM12_copies at eM2
    obtain ⟨w1, J2, B2, c1, c2, -⟩ := m_dist (L := M) hm.cp hx.1.1 m_cp hs.2.2.2.2.2.2.1 hs.2.2.2.2.2.2.2.1 ⟨hs.2.2.2.2.1, by omega⟩ h1 hq h2 hw
    rw [b, if_neg (by decide), bdM_mk, c1, bdM_mk] at eM2
    cases eX2; cases eM2
    exact Int32.toInt_inj.mp (by rw [b2, c2]; rfl)
theorem ans_alike (h : RA I A J B M) (_ : IvX I A) (_ : IvM J B) (eX : FE (fX11_alike I A z1 z2) (v, I', A')) (eM : FE (fM12_alike J B M z1 z2) (w, J', B', M')) : v = w := by
  have eX2 : fX11_alike I A z1 z2 = (v, I', A') := eX
  have eM2 : fM12_alike J B M z1 z2 = (w, J', B', M') := eM
  obtain ⟨σ, N, nq, ql, qv, hx, hm⟩ := h.xm
  have hs := hx.2.2.2.2.n
  unfold fX11_alike at eX2
  unfold fM12_alike at eM2
  simp only [f_lt_eq] at eX2 eM2
  rw [m_isQuery hm.2.1 hm.2.2.1 hm.2.2.2.1 hm.2.2.2.2.1, m_isQuery hm.2.1 hm.2.2.1 hm.2.2.2.1 hm.2.2.2.2.1, if10, if10] at eM2
  rw [x_hasQ hx.2.1 hx.2.2.1, x_hasQ hx.2.1 hx.2.2.1, if10, if10] at eX2
  by_cases c1 : 0 ≤ z1.toInt ∧ z1.toInt < (nq : Int)
  · rw [if_pos c1] at eX2 eM2
    by_cases c2 : 0 ≤ z2.toInt ∧ z2.toInt < (nq : Int)
    · rw [if_pos c2] at eX2 eM2
      obtain ⟨q, hq⟩ : ∃ q : Nat, z1.toInt = (q : Int) := ⟨z1.toInt.toNat, by omega⟩
      obtain ⟨o, ho⟩ : ∃ o : Nat, z2.toInt = (o : Int) := ⟨z2.toInt.toNat, by omega⟩
      obtain ⟨l1, l2, l3, l4⟩ := hx.2.2.2.1 q (by omega)
      obtain ⟨k1, k2, k3, k4⟩ := hx.2.2.2.1 o (by omega)
      obtain ⟨m1, -⟩ := hm.2.2.2.2.2 q (by omega)
      obtain ⟨n1, -⟩ := hm.2.2.2.2.2 o (by omega)
      have iq := clN (i_5 hm.2.1 hm.2.2.1 hq (by have := hm.2.2.2.2.1; omega))
      have io := clN (i_5 hm.2.1 hm.2.2.1 ho (by have := hm.2.2.2.2.1; omega))
      rw [x_len2 hx.2.1 hx.2.2.1 hq (by omega), x_len2 hx.2.1 hx.2.2.1 ho (by omega)] at eX2
      simp only [ifp] at eX2
      rw [iq, io] at eM2
      by_cases c3 : (A 9 q).toInt = (A 9 o).toInt
      · have e0 : ql q = ql o := by omega
        obtain ⟨I1, A1, a1, a2, a3, a4⟩ := x_openQ hx (z2 := A 10 0) (b := (B 17 161).toInt) hq (by omega) hs.1 hs.2.2.2.2.1
        have hx1 := hx.mv (I' := I1) (A' := A1) (a2 17 rfl) (a2 18 rfl) (a2 19 rfl) (a3 7 rfl) (a3 8 rfl) (a3 9 rfl) (a3 10 rfl)
        obtain ⟨A2, b1, b2, b3⟩ := x_secQ hx1 ho (by omega) (by rw [← e0]; exact a4.2.1)
        have tb : TB I1 A2 (ql q) (B 17 161).toInt (B 17 163).toInt (lvl (B 17) (ql q) (qv q)) (lvl (B 17) (ql q) (qv o)) := ⟨⟨by omega, l3⟩, ⟨a4.2.1, a4.2.2.1, a4.2.2.2.1⟩, ⟨hs.2.2.2.2.1, by omega⟩, ⟨fun i hi => by rw [b2 21 rfl]; exact a4.2.2.2.2 i hi, fun i hi => by rw [e0] at hi ⊢; exact b3 i hi⟩, lvl_b (hx.qraw (by omega)), by rw [e0]; exact lvl_b (hx.qraw (by omega))⟩
        obtain ⟨v1, I3, A3, d1, d2, -⟩ := x_whole tb
        rw [if_pos c3, x_vOf (z := 0) (k := 0) rfl (by omega), a1, bdX_mk, b1, bdX_mk, d1, bdX_mk] at eX2
        unfold fM12_copies at eM2
        rw [if_pos (by omega), bdM_mk] at eM2
        -- the reference: the other first, changed, then the first
        obtain ⟨J4, hJ4⟩ : ∃ J4, J4 = upd J 18 (B 11 (5 * σ + q)) := ⟨_, rfl⟩
        obtain ⟨B4, hB4⟩ : ∃ B4, B4 = up2 B 18 (cpo (B 17) (B 18) 0 165) := ⟨_, rfl⟩
        have hm4 : MW J4 B4 σ N nq ql qv := by rw [hJ4, hB4]; exact hm.cp.mv rfl rfl rfl rfl rfl
        have q18 : ∀ k, k < 165 → B4 18 k = B 17 k := by rw [hB4]; exact m_cp
        obtain ⟨B5, f1, f2, f3⟩ := m_laysQ (J := J4) (B := B4) (L := M) (k := (B 17 162).toInt) hm4 (by rw [q18 162 (by omega)]) hs.2.2.2.2.2.2.1 hs.2.2.2.2.2.2.2.1 ho (by omega)
        have z18 : (J4 18).toInt = (ql q : Int) := by rw [hJ4]; exact m1
        obtain ⟨B6, g1, g2, g3, g4⟩ := m_changes (J := J4) (B := B5) (L := M) (n := ql q) (z := B 11 (5 * σ + q)) m1 l3
        have hm6 := hm4.mv (J' := J4) (B' := B6) rfl ((g2 10 rfl).trans (f2 10 rfl)) ((g2 11 rfl).trans (f2 11 rfl)) ((g2 12 rfl).trans (f2 12 rfl)) ((g2 17 rfl).trans (f2 17 rfl))
        obtain ⟨B7, p1, p2, p3⟩ := m_laysQ (J := J4) (B := B6) (L := M) (k := (B 17 162).toInt) hm6 (by rw [g2 18 rfl, f2 18 rfl, q18 162 (by omega)]) hs.2.2.2.2.2.2.1 hs.2.2.2.2.2.2.2.1 hq (by omega)
        have b18 : B7 18 = B4 18 := by rw [p2 18 rfl, g2 18 rfl, f2 18 rfl]
        have tn : TN J4 B7 (ql q) (B 17 161).toInt (B 17 163).toInt (lvl (B 17) (ql q) (qv q)) (lvl (B 17) (ql q) (qv o)) := ⟨⟨by omega, l3⟩, ⟨z18, by rw [b18, q18 161 (by omega)], by rw [b18, q18 163 (by omega)]⟩, ⟨hs.2.2.2.2.1, by omega⟩, ⟨p3, fun i hi => by
          rw [p2 20 rfl, g4 i hi, f3 i (by omega)]
          unfold lvl
          rw [e0]⟩, lvl_b (hx.qraw (by omega)), by rw [e0]; exact lvl_b (hx.qraw (by omega))⟩
        obtain ⟨w1, J8, B8, r1, r2, -⟩ := m_whole (L := M) tn
        rw [← hJ4, ← hB4, f1, bdM_mk, g1, bdM_mk, p1, bdM_mk, r1, bdM_mk] at eM2
        cases eX2; cases eM2
        exact Int32.toInt_inj.mp (by rw [d2, r2])
      · rw [if_neg c3] at eX2
        rw [if_neg (by omega)] at eM2
        cases eX2; cases eM2; rfl
    · rw [if_neg c2] at eX2 eM2
      cases eX2; cases eM2; rfl
  · rw [if_neg c1] at eX2 eM2
    cases eX2; cases eM2; rfl
end ANS3
