theorem Rep.flat {n : Int} {fs : Int} {rg st rg' st' r r' : Nat → Int32} (h : Rep fs n rg st r) (h1 : ∀ i : Nat, (i : Int) < n → rg' i = rg (ri (fs + i))) (h2 : ∀ i, i < 4 → st' i = st i) (h3 : ∀ k, k < 165 → r' k = r k) : Rep 0 n rg' st' r' := by
  obtain ⟨a, b, c, d, e⟩ := h.cg h3
  refine ⟨a, b, c, fun i hi => ?_, ?_⟩
  · rw [show ri (0 + (i : Int)) = i by unfold ri; omega, h1 i hi]; exact d i hi
  · unfold StE at *
    rw [h2 0 (by omega), h2 1 (by omega), h2 2 (by omega), h2 3 (by omega)]; exact e
theorem hold_0 {I I' J J' : Nat → Int32} {A A' B B' : Nat → Nat → Int32} {M M' : Nat → Nat → Int64} {v w : Int32} (h : SLS I A B) (hH : HS I A J B) (eX : f_bdX (fX6_copyInto I A) (fun _ I2 A2 => f_bdX (fX7_takeFrom_2 I2 A2) (fun _ I3 A3 => (1, upd I3 23 1, A3))) = (v, I', A')) (eM : (1, J, (up2 (up3 B 27 0 (vp_nar .boolean 1)) 28 (cpo (B 17) ((up3 B 27 0 (vp_nar .boolean 1)) 28) (165 * 0) 165)), M) = (w, J', B', M')) : SLS I' A' B' ∧ v = w := by
  obtain ⟨fs, u, nx, h17, -, -, -, -, -, hR, -⟩ := hH
  obtain ⟨r0, r1, r2, r3, r4⟩ := hR
  obtain ⟨n, hn⟩ : ∃ n : Nat, (I 18).toInt = (n : Int) := ⟨(I 18).toInt.toNat, by omega⟩
  obtain ⟨Ip, Ap, p1, p2, p3, p4, p5⟩ := x_put0 (I := I) (A := A) (n := n) h17 hn (by omega)
  obtain ⟨As, s1, s2, s3⟩ := x_puts0 (I := Ip) (A := Ap)
  rw [p1, bdX_mk, s1, bdX_mk] at eX
  cases eX; cases eM
  obtain ⟨h0, h1, h2⟩ := h
  have own : SL 0 (upd Ip 23 1) A' (up2 (up3 B 27 0 (vp_nar .boolean 1)) 28 (cpo (B 17) ((up3 B 27 0 (vp_nar .boolean 1)) 28) (165 * 0) 165)) := by
    refine ⟨⟨fun _ h9 => absurd (show (vp_nar .boolean 1).toInt = 0 from h9) (by rw [nar1]; decide), fun _ h9 => absurd (show (1 : Int32).toInt = 0 from h9) (by decide)⟩, fun _ => ?_⟩
    show Rep 0 (Ip 22).toInt (A' 15) (A' 16) (fun k => cpo (B 17) (B 28) (165 * 0) 165 (165 * 0 + k))
    rw [p4]
    refine Rep.flat (fs := fs) (rg := A 7) (st := A 10) (r := B 17) ⟨by rw [r0, hn], by omega, by omega, fun i hi => r3 i (by omega), r4⟩ (fun i hi => ?_) (fun i hi => ?_) (fun k hk => ?_)
    · rw [s2 15 rfl, p5 i (by omega)]
    · rw [s3 i hi, p3 10 rfl]
    · show cpo (B 17) (B 28) (165 * 0) 165 (165 * 0 + k) = B 17 k
      rw [cpo_in (by omega) (by omega)]; exact congrArg (B 17) (by omega)
  exact ⟨⟨own, (SL.keep (s := 1) h1 (by show Ip 24 = I 24; exact p2 24 rfl) (by show Ip 25 = I 25; exact p2 25 rfl) (by show A' 17 = A 17; exact (s2 17 rfl).trans (p3 17 rfl)) (by show A' 18 = A 18; exact (s2 18 rfl).trans (p3 18 rfl)) (by show upd (B 27) 0 (vp_nar .boolean 1) 1 = B 27 1; exact upd_ne (by decide)) (fun k hk => by show cpo (B 17) (B 28) (165 * 0) 165 (165 * 1 + k) = B 28 (165 * 1 + k); exact cpo_ge (by omega))), (SL.keep (s := 2) h2 (by show Ip 26 = I 26; exact p2 26 rfl) (by show Ip 27 = I 27; exact p2 27 rfl) (by show A' 19 = A 19; exact (s2 19 rfl).trans (p3 19 rfl)) (by show A' 20 = A 20; exact (s2 20 rfl).trans (p3 20 rfl)) (by show upd (B 27) 0 (vp_nar .boolean 1) 2 = B 27 2; exact upd_ne (by decide)) (fun k hk => by show cpo (B 17) (B 28) (165 * 0) 165 (165 * 2 + k) = B 28 (165 * 2 + k); exact cpo_ge (by omega)))⟩, rfl⟩
theorem hold_1 {I I' J J' : Nat → Int32} {A A' B B' : Nat → Nat → Int32} {M M' : Nat → Nat → Int64} {v w : Int32} (h : SLS I A B) (hH : HS I A J B) (eX : f_bdX (fX6_copyInto_2 I A) (fun _ I2 A2 => f_bdX (fX7_takeFrom_3 I2 A2) (fun _ I3 A3 => (1, upd I3 25 1, A3))) = (v, I', A')) (eM : (1, J, (up2 (up3 B 27 1 (vp_nar .boolean 1)) 28 (cpo (B 17) ((up3 B 27 1 (vp_nar .boolean 1)) 28) (165 * 1) 165)), M) = (w, J', B', M')) : SLS I' A' B' ∧ v = w := by
  obtain ⟨fs, u, nx, h17, -, -, -, -, -, hR, -⟩ := hH
  obtain ⟨r0, r1, r2, r3, r4⟩ := hR
  obtain ⟨n, hn⟩ : ∃ n : Nat, (I 18).toInt = (n : Int) := ⟨(I 18).toInt.toNat, by omega⟩
  obtain ⟨Ip, Ap, p1, p2, p3, p4, p5⟩ := x_put1 (I := I) (A := A) (n := n) h17 hn (by omega)
  obtain ⟨As, s1, s2, s3⟩ := x_puts1 (I := Ip) (A := Ap)
  rw [p1, bdX_mk, s1, bdX_mk] at eX
  cases eX; cases eM
  obtain ⟨h0, h1, h2⟩ := h
  have own : SL 1 (upd Ip 25 1) A' (up2 (up3 B 27 1 (vp_nar .boolean 1)) 28 (cpo (B 17) ((up3 B 27 1 (vp_nar .boolean 1)) 28) (165 * 1) 165)) := by
    refine ⟨⟨fun _ h9 => absurd (show (vp_nar .boolean 1).toInt = 0 from h9) (by rw [nar1]; decide), fun _ h9 => absurd (show (1 : Int32).toInt = 0 from h9) (by decide)⟩, fun _ => ?_⟩
    show Rep 0 (Ip 24).toInt (A' 17) (A' 18) (fun k => cpo (B 17) (B 28) (165 * 1) 165 (165 * 1 + k))
    rw [p4]
    refine Rep.flat (fs := fs) (rg := A 7) (st := A 10) (r := B 17) ⟨by rw [r0, hn], by omega, by omega, fun i hi => r3 i (by omega), r4⟩ (fun i hi => ?_) (fun i hi => ?_) (fun k hk => ?_)
    · rw [s2 17 rfl, p5 i (by omega)]
    · rw [s3 i hi, p3 10 rfl]
    · show cpo (B 17) (B 28) (165 * 1) 165 (165 * 1 + k) = B 17 k
      rw [cpo_in (by omega) (by omega)]; exact congrArg (B 17) (by omega)
  exact ⟨⟨(SL.keep (s := 0) h0 (by show Ip 22 = I 22; exact p2 22 rfl) (by show Ip 23 = I 23; exact p2 23 rfl) (by show A' 15 = A 15; exact (s2 15 rfl).trans (p3 15 rfl)) (by show A' 16 = A 16; exact (s2 16 rfl).trans (p3 16 rfl)) (by show upd (B 27) 1 (vp_nar .boolean 1) 0 = B 27 0; exact upd_ne (by decide)) (fun k hk => by show cpo (B 17) (B 28) (165 * 1) 165 (165 * 0 + k) = B 28 (165 * 0 + k); exact cpo_lt (by omega))), own, (SL.keep (s := 2) h2 (by show Ip 26 = I 26; exact p2 26 rfl) (by show Ip 27 = I 27; exact p2 27 rfl) (by show A' 19 = A 19; exact (s2 19 rfl).trans (p3 19 rfl)) (by show A' 20 = A 20; exact (s2 20 rfl).trans (p3 20 rfl)) (by show upd (B 27) 1 (vp_nar .boolean 1) 2 = B 27 2; exact upd_ne (by decide)) (fun k hk => by show cpo (B 17) (B 28) (165 * 1) 165 (165 * 2 + k) = B 28 (165 * 2 + k); exact cpo_ge (by omega)))⟩, rfl⟩
theorem hold_2 {I I' J J' : Nat → Int32} {A A' B B' : Nat → Nat → Int32} {M M' : Nat → Nat → Int64} {v w : Int32} (h : SLS I A B) (hH : HS I A J B) (eX : f_bdX (fX6_copyInto_3 I A) (fun _ I2 A2 => f_bdX (fX7_takeFrom_4 I2 A2) (fun _ I3 A3 => (1, upd I3 27 1, A3))) = (v, I', A')) (eM : (1, J, (up2 (up3 B 27 2 (vp_nar .boolean 1)) 28 (cpo (B 17) ((up3 B 27 2 (vp_nar .boolean 1)) 28) (165 * 2) 165)), M) = (w, J', B', M')) : SLS I' A' B' ∧ v = w := by
  obtain ⟨fs, u, nx, h17, -, -, -, -, -, hR, -⟩ := hH
  obtain ⟨r0, r1, r2, r3, r4⟩ := hR
  obtain ⟨n, hn⟩ : ∃ n : Nat, (I 18).toInt = (n : Int) := ⟨(I 18).toInt.toNat, by omega⟩
  obtain ⟨Ip, Ap, p1, p2, p3, p4, p5⟩ := x_put2 (I := I) (A := A) (n := n) h17 hn (by omega)
  obtain ⟨As, s1, s2, s3⟩ := x_puts2 (I := Ip) (A := Ap)
  rw [p1, bdX_mk, s1, bdX_mk] at eX
  cases eX; cases eM
  obtain ⟨h0, h1, h2⟩ := h
  have own : SL 2 (upd Ip 27 1) A' (up2 (up3 B 27 2 (vp_nar .boolean 1)) 28 (cpo (B 17) ((up3 B 27 2 (vp_nar .boolean 1)) 28) (165 * 2) 165)) := by
    refine ⟨⟨fun _ h9 => absurd (show (vp_nar .boolean 1).toInt = 0 from h9) (by rw [nar1]; decide), fun _ h9 => absurd (show (1 : Int32).toInt = 0 from h9) (by decide)⟩, fun _ => ?_⟩
    show Rep 0 (Ip 26).toInt (A' 19) (A' 20) (fun k => cpo (B 17) (B 28) (165 * 2) 165 (165 * 2 + k))
    rw [p4]
    refine Rep.flat (fs := fs) (rg := A 7) (st := A 10) (r := B 17) ⟨by rw [r0, hn], by omega, by omega, fun i hi => r3 i (by omega), r4⟩ (fun i hi => ?_) (fun i hi => ?_) (fun k hk => ?_)
    · rw [s2 19 rfl, p5 i (by omega)]
    · rw [s3 i hi, p3 10 rfl]
    · show cpo (B 17) (B 28) (165 * 2) 165 (165 * 2 + k) = B 17 k
      rw [cpo_in (by omega) (by omega)]; exact congrArg (B 17) (by omega)
  exact ⟨⟨(SL.keep (s := 0) h0 (by show Ip 22 = I 22; exact p2 22 rfl) (by show Ip 23 = I 23; exact p2 23 rfl) (by show A' 15 = A 15; exact (s2 15 rfl).trans (p3 15 rfl)) (by show A' 16 = A 16; exact (s2 16 rfl).trans (p3 16 rfl)) (by show upd (B 27) 2 (vp_nar .boolean 1) 0 = B 27 0; exact upd_ne (by decide)) (fun k hk => by show cpo (B 17) (B 28) (165 * 2) 165 (165 * 0 + k) = B 28 (165 * 0 + k); exact cpo_lt (by omega))), (SL.keep (s := 1) h1 (by show Ip 24 = I 24; exact p2 24 rfl) (by show Ip 25 = I 25; exact p2 25 rfl) (by show A' 17 = A 17; exact (s2 17 rfl).trans (p3 17 rfl)) (by show A' 18 = A 18; exact (s2 18 rfl).trans (p3 18 rfl)) (by show upd (B 27) 2 (vp_nar .boolean 1) 1 = B 27 1; exact upd_ne (by decide)) (fun k hk => by show cpo (B 17) (B 28) (165 * 2) 165 (165 * 1 + k) = B 28 (165 * 1 + k); exact cpo_lt (by omega))), own⟩, rfl⟩
theorem SLS.hold {I I' J J' : Nat → Int32} {A A' B B' : Nat → Nat → Int32} {M M' : Nat → Nat → Int64} {z v w : Int32} (h : SLS I A B) (hH : HS I A J B) (eX : FE (fX11_hold I A z) (v, I', A')) (eM : FE (fM12_hold J B M z) (w, J', B', M')) : SLS I' A' B' ∧ v = w := by
  have eX2 : fX11_hold I A z = (v, I', A') := eX
  have eM2 : fM12_hold J B M z = (w, J', B', M') := eM
  unfold fX11_hold at eX2
  unfold fM12_hold at eM2
  have e0 : (0 : Int32).toInt = 0 := rfl
  have e2 : (2 : Int32).toInt = 2 := rfl
  rw [m_in, if10] at eM2
  by_cases c : z.toInt < 0
  · rw [if_pos c] at eX2
    rw [if_neg (by omega)] at eM2
    cases eX2; cases eM2
    exact ⟨h, rfl⟩
  · rw [if_neg c] at eX2
    by_cases d : z.toInt < 3
    · rw [if_pos d] at eX2
      rw [if_pos (by omega)] at eM2
      by_cases z0 : z.toInt = 0
      · rw [if_pos z0] at eX2 eM2
        exact hold_0 h hH eX2 eM2
      · rw [if_neg z0] at eX2 eM2
        by_cases z1 : z.toInt = 1
        · rw [if_pos z1] at eX2 eM2
          exact hold_1 h hH eX2 eM2
        · rw [if_neg z1, if_pos (by omega)] at eX2 eM2
          exact hold_2 h hH eX2 eM2
    · rw [if_neg d] at eX2
      rw [if_neg (by omega)] at eM2
      cases eX2; cases eM2
      exact ⟨h, rfl⟩
theorem restore_0 {I I' J J' : Nat → Int32} {A A' B B' : Nat → Nat → Int32} {M M' : Nat → Nat → Int64} {v w : Int32} (h : SL 0 I A B) (hH : HS I A J B) (eX : (if (I 23).toInt ≠ 0 then f_bdX (fX11_goOnFrom_2 I A) (fun _ I2 A2 => (1, I2, A2)) else (0, I, A)) = (v, I', A')) (eM : (if (B 27 0).toInt ≠ 0 then (1, (upd J 22 0), (up2 B 17 (cpo (fun k => B 28 (165 * 0 + k)) (B 17) 0 165)), M) else (0, J, B, M)) = (w, J', B', M')) : HS I' A' J' B' ∧ v = w := by
  obtain ⟨hl, hr⟩ := h
  by_cases c : (I 23).toInt ≠ 0
  · rw [if_pos c] at eX
    rw [if_pos (hl.mp c)] at eM
    obtain ⟨fs, u, nx, -, -, -, -, h20, hx, -, -⟩ := hH
    have hR : Rep 0 (I 22).toInt (A 15) (A 16) (fun k => B 28 (165 * 0 + k)) := hr c
    have hR2 := hR
    obtain ⟨r0, r1, r2, r3, r4⟩ := hR2
    obtain ⟨n, hn⟩ : ∃ n : Nat, (I 22).toInt = (n : Int) := ⟨(I 22).toInt.toNat, by omega⟩
    obtain ⟨Ig, Ag, c1, c2, c3, c4, c5, c6, c7, c8⟩ := x_go1 (I := I) (A := A) (n := n) hn (by omega)
    rw [c1, bdX_mk] at eX
    cases eX; cases eM
    refine ⟨⟨0, 0, nx, by rw [c4]; rfl, by rw [c6]; rfl, rfl, by omega, by rw [c2 20 rfl]; exact h20, hx, ?_, trivial⟩, rfl⟩
    rw [c5, ← hn]
    refine hR.flat (fun i hi => ?_) c8 (fun k hk => ?_)
    · rw [c7 i (by omega), show ri (0 + (i : Int)) = i by unfold ri; omega]
    · show cpo (fun k => B 28 (165 * 0 + k)) (B 17) 0 165 k = _
      rw [cpo_in (by omega) (by omega)]; rfl
  · rw [if_neg c] at eX
    rw [if_neg (fun h9 => c (hl.mpr h9))] at eM
    cases eX; cases eM
    exact ⟨hH, rfl⟩
theorem restore_1 {I I' J J' : Nat → Int32} {A A' B B' : Nat → Nat → Int32} {M M' : Nat → Nat → Int64} {v w : Int32} (h : SL 1 I A B) (hH : HS I A J B) (eX : (if (I 25).toInt ≠ 0 then f_bdX (fX11_goOnFrom_3 I A) (fun _ I2 A2 => (1, I2, A2)) else (0, I, A)) = (v, I', A')) (eM : (if (B 27 1).toInt ≠ 0 then (1, (upd J 22 0), (up2 B 17 (cpo (fun k => B 28 (165 * 1 + k)) (B 17) 0 165)), M) else (0, J, B, M)) = (w, J', B', M')) : HS I' A' J' B' ∧ v = w := by
  obtain ⟨hl, hr⟩ := h
  by_cases c : (I 25).toInt ≠ 0
  · rw [if_pos c] at eX
    rw [if_pos (hl.mp c)] at eM
    obtain ⟨fs, u, nx, -, -, -, -, h20, hx, -, -⟩ := hH
    have hR : Rep 0 (I 24).toInt (A 17) (A 18) (fun k => B 28 (165 * 1 + k)) := hr c
    have hR2 := hR
    obtain ⟨r0, r1, r2, r3, r4⟩ := hR2
    obtain ⟨n, hn⟩ : ∃ n : Nat, (I 24).toInt = (n : Int) := ⟨(I 24).toInt.toNat, by omega⟩
    obtain ⟨Ig, Ag, c1, c2, c3, c4, c5, c6, c7, c8⟩ := x_go2 (I := I) (A := A) (n := n) hn (by omega)
    rw [c1, bdX_mk] at eX
    cases eX; cases eM
    refine ⟨⟨0, 0, nx, by rw [c4]; rfl, by rw [c6]; rfl, rfl, by omega, by rw [c2 20 rfl]; exact h20, hx, ?_, trivial⟩, rfl⟩
    rw [c5, ← hn]
    refine hR.flat (fun i hi => ?_) c8 (fun k hk => ?_)
    · rw [c7 i (by omega), show ri (0 + (i : Int)) = i by unfold ri; omega]
    · show cpo (fun k => B 28 (165 * 1 + k)) (B 17) 0 165 k = _
      rw [cpo_in (by omega) (by omega)]; rfl
  · rw [if_neg c] at eX
    rw [if_neg (fun h9 => c (hl.mpr h9))] at eM
    cases eX; cases eM
    exact ⟨hH, rfl⟩
theorem restore_2 {I I' J J' : Nat → Int32} {A A' B B' : Nat → Nat → Int32} {M M' : Nat → Nat → Int64} {v w : Int32} (h : SL 2 I A B) (hH : HS I A J B) (eX : (if (I 27).toInt ≠ 0 then f_bdX (fX11_goOnFrom_4 I A) (fun _ I2 A2 => (1, I2, A2)) else (0, I, A)) = (v, I', A')) (eM : (if (B 27 2).toInt ≠ 0 then (1, (upd J 22 0), (up2 B 17 (cpo (fun k => B 28 (165 * 2 + k)) (B 17) 0 165)), M) else (0, J, B, M)) = (w, J', B', M')) : HS I' A' J' B' ∧ v = w := by
  obtain ⟨hl, hr⟩ := h
  by_cases c : (I 27).toInt ≠ 0
  · rw [if_pos c] at eX
    rw [if_pos (hl.mp c)] at eM
    obtain ⟨fs, u, nx, -, -, -, -, h20, hx, -, -⟩ := hH
    have hR : Rep 0 (I 26).toInt (A 19) (A 20) (fun k => B 28 (165 * 2 + k)) := hr c
    have hR2 := hR
    obtain ⟨r0, r1, r2, r3, r4⟩ := hR2
    obtain ⟨n, hn⟩ : ∃ n : Nat, (I 26).toInt = (n : Int) := ⟨(I 26).toInt.toNat, by omega⟩
    obtain ⟨Ig, Ag, c1, c2, c3, c4, c5, c6, c7, c8⟩ := x_go3 (I := I) (A := A) (n := n) hn (by omega)
    rw [c1, bdX_mk] at eX
    cases eX; cases eM
    refine ⟨⟨0, 0, nx, by rw [c4]; rfl, by rw [c6]; rfl, rfl, by omega, by rw [c2 20 rfl]; exact h20, hx, ?_, trivial⟩, rfl⟩
    rw [c5, ← hn]
    refine hR.flat (fun i hi => ?_) c8 (fun k hk => ?_)
    · rw [c7 i (by omega), show ri (0 + (i : Int)) = i by unfold ri; omega]
    · show cpo (fun k => B 28 (165 * 2 + k)) (B 17) 0 165 k = _
      rw [cpo_in (by omega) (by omega)]; rfl
  · rw [if_neg c] at eX
    rw [if_neg (fun h9 => c (hl.mpr h9))] at eM
    cases eX; cases eM
    exact ⟨hH, rfl⟩
theorem HS.restore {I I' J J' : Nat → Int32} {A A' B B' : Nat → Nat → Int32} {M M' : Nat → Nat → Int64} {z v w : Int32} (h : SLS I A B) (hH : HS I A J B) (eX : FE (fX11_restore I A z) (v, I', A')) (eM : FE (fM12_restore J B M z) (w, J', B', M')) : HS I' A' J' B' ∧ v = w := by
  have eX2 : fX11_restore I A z = (v, I', A') := eX
  have eM2 : fM12_restore J B M z = (w, J', B', M') := eM
  unfold fX11_restore at eX2
  unfold fM12_restore at eM2
  have e0 : (0 : Int32).toInt = 0 := rfl
  have e2 : (2 : Int32).toInt = 2 := rfl
  rw [m_in, if10] at eM2
  by_cases c : z.toInt < 0
  · rw [if_pos c] at eX2
    rw [if_neg (by omega)] at eM2
    cases eX2; cases eM2
    exact ⟨hH, rfl⟩
  · rw [if_neg c] at eX2
    by_cases d : z.toInt < 3
    · rw [if_neg (by omega)] at eX2
      rw [if_pos (by omega)] at eM2
      by_cases z0 : z.toInt = 0
      · rw [if_pos z0] at eX2 eM2
        exact restore_0 h.1 hH eX2 eM2
      · rw [if_neg z0] at eX2 eM2
        by_cases z1 : z.toInt = 1
        · rw [if_pos z1] at eX2 eM2
          exact restore_1 h.2.1 hH eX2 eM2
        · rw [if_neg z1, if_pos (by omega)] at eX2 eM2
          exact restore_2 h.2.2 hH eX2 eM2
    · rw [if_pos (by omega)] at eX2
      rw [if_neg (by omega)] at eM2
      cases eX2; cases eM2
      exact ⟨hH, rfl⟩
