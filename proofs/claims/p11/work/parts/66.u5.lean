theorem x_back {I : Nat → Int32} {A : Nat → Nat → Int32} {nx u : Nat} (h20 : (I 20).toInt = (nx : Int)) (hx : nx < 40) (h21 : (I 21).toInt = ((u + 1 : Nat) : Int)) (hu : u + 1 ≤ 40) : ∃ I1 : Nat → Int32, fX3_stepBack I A = (1, I1, A) ∧ Md [20, 21] I I1 ∧ (I1 20).toInt = (pvN nx : Int) ∧ (I1 21).toInt = (u : Int) := by
  have e21 := i32_sub (x := I 21) (y := 1) (b := 1) rfl h21 rfl (by omega) (by omega)
  unfold fX3_stepBack
  dsimp only [f_lt]
  rw [if_pos (by omega)]
  by_cases c : nx = 0
  · rw [if_neg (by omega)]
    refine ⟨_, rfl, Md.up (Md.up Md.rf rfl) rfl, ?_, ?_⟩
    · show (39 : Int32).toInt = _
      unfold pvN
      rw [if_pos c]; rfl
    · show (I 21 - 1).toInt = _
      omega
  · rw [if_pos (by omega)]
    have e20 := i32_sub (x := I 20) (y := 1) (b := 1) rfl h20 rfl (by omega) (by omega)
    refine ⟨_, rfl, Md.up (Md.up Md.rf rfl) rfl, ?_, ?_⟩
    · show (I 20 - 1).toInt = _
      unfold pvN
      rw [if_neg c]; omega
    · show (I 21 - 1).toInt = _
      omega
theorem pv_lt {k : Nat} (h : k < 40) : pvN k < 40 := by
  unfold pvN
  by_cases c : k = 0
  · rw [if_pos c]; omega
  · rw [if_neg c]; omega
theorem HS.undo {I I' J J' : Nat → Int32} {A A' B B' : Nat → Nat → Int32} {M M' : Nat → Nat → Int64} {a b : Int32} (h : HS I A J B) (eX : FE (fX11_undo I A) (a, I', A')) (eM : FE (fM12_undo J B M) (b, J', B', M')) : HS I' A' J' B' ∧ a = b := by
  have eX2 : fX11_undo I A = (a, I', A') := eX
  have eM2 : fM12_undo J B M = (b, J', B', M') := eM
  have hH := h
  obtain ⟨fs, u, nx, h17, h21, h22, hu, h20, hx, hR, hX⟩ := h
  unfold fX11_undo at eX2
  unfold fM12_undo at eM2
  dsimp only [f_lt] at eM2
  cases u with
  | zero =>
    have e : fX3_stepBack I A = (0, I, A) := by
      unfold fX3_stepBack
      rw [if_neg (by omega)]
    rw [e, bdX_mk, if_neg (by decide)] at eX2
    rw [if_neg (by omega)] at eM2
    cases eX2; cases eM2
    exact ⟨hH, rfl⟩
  | succ u =>
    obtain ⟨I1, s1, s2, s3, s4⟩ := x_back (I := I) (A := A) h20 hx h21 hu
    rw [s1, bdX_mk, if_pos (by decide)] at eX2
    dsimp only [f_lt] at eX2
    have hp := pv_lt hx
    have e1 : fX3_firstOfStep I1 A = A 12 (pvN nx) := by
      unfold fX3_firstOfStep fX3_valueIn
      dsimp only [f_lt]
      rw [if_neg (by omega), if_neg (by omega), clN s3]
    have e2 : fX3_kindOfStep I1 A = A 11 (pvN nx) := by
      unfold fX3_kindOfStep fX3_valueIn_2
      dsimp only [f_lt]
      rw [if_neg (by omega), if_neg (by omega), clN s3]
    have e3 : fX3_secondOfStep I1 A = A 13 (pvN nx) := by
      unfold fX3_secondOfStep fX3_valueIn_3
      dsimp only [f_lt]
      rw [if_neg (by omega), if_neg (by omega), clN s3]
    rw [e1, e2, e3] at eX2
    rw [if_pos (by omega)] at eM2
    have e4 : (J 22 - 1).toInt = ((u : Nat) : Int) := by
      have := i32_sub (x := J 22) (y := 1) (b := 1) rfl h22 rfl (by omega) (by omega)
      omega
    rw [clN e4] at eM2
    cases eM2
    have g17 : I1 17 = I 17 := s2 17 rfl
    have g18 : I1 18 = I 18 := s2 18 rfl
    have cg : ∀ k, k < 165 → (up2 B 17 (cpo (fun k => B 22 (165 * u + k)) (B 17) 0 165)) 17 k = rwB B u k := fun k hk => by
      show cpo (fun k => B 22 (165 * u + k)) (B 17) 0 165 k = _
      rw [cpo_in (by omega) (by omega)]; rfl
    rw [XP_s] at hX
    obtain ⟨r1, r2⟩ := hR.2
    rcases hX with ⟨k, p, r, x⟩ | ⟨k, p, q, r, x⟩ | ⟨k, p, q, r, x⟩ | ⟨k, p, q, r, x⟩
    · rw [if_pos k] at eX2
      have eC : fX6_cutLast I1 A = (0, upd I1 18 (I1 18 - 1), A) := by
        unfold fX6_cutLast
        dsimp only [f_lt]
        rw [if_neg (by rw [g18]; omega)]
      rw [eC, bdX_mk] at eX2
      cases eX2
      have e18 : (I1 18 - 1).toInt = (I 18).toInt - 1 := i32_sub (x := I1 18) (y := 1) (b := 1) rfl (by rw [g18]) rfl (by omega) (by omega)
      refine ⟨⟨fs, u, pvN nx, by show (I1 17).toInt = _; rw [g17]; exact h17, s4, e4, by omega, s3, hp, ?_, ?_⟩, rfl⟩
      · show Rep fs (I1 18 - 1).toInt (A 7) (A 10) _
        rw [e18]; exact r.cg cg
      · show XP (A 11) (A 12) (A 13) (rwB B) u fs (I1 18 - 1).toInt (A 7) (A 10) (pvN nx)
        rw [e18]; exact x
    · rw [if_neg (by omega), if_pos k] at eX2
      have eC : fX6_putAt I1 A (A 12 (pvN nx)) (-1000) = (0, I1, up3 A 7 (ri (fs + (A 12 (pvN nx)).toInt)) (-1000)) := by
        unfold fX6_putAt
        dsimp only [f_lt]
        rw [if_neg (by omega), if_neg (by rw [g18]; omega), ri_and (by rw [g17]; exact h17)]
      rw [eC, bdX_mk] at eX2
      cases eX2
      refine ⟨⟨fs, u, pvN nx, by rw [g17]; exact h17, s4, e4, by omega, s3, hp, ?_, ?_⟩, rfl⟩
      · rw [g18]; exact r.cg cg
      · rw [g18]; exact x
    · rw [if_neg (by omega), if_neg (by omega), if_pos k] at eX2
      have e160 : (160 : Int32).toInt = 160 := rfl
      have d1 := i32_sub (x := 160) (y := I1 18) (a := 160) rfl rfl (by rw [g18]) (by omega) (by omega)
      have d2 : (I1 18 + A 12 (pvN nx)).toInt = (I 18).toInt + (A 12 (pvN nx)).toInt := i32_add (x := I1 18) (y := A 12 (pvN nx)) rfl (by rw [g18]) rfl (by omega) (by omega)
      have eC : fX6_bringBackFirst I1 A (A 12 (pvN nx)) = (0, upd (upd I1 17 ((I1 17 - A 12 (pvN nx)) &&& 255)) 18 (I1 18 + A 12 (pvN nx)), A) := by
        unfold fX6_bringBackFirst
        dsimp only [f_lt]
        rw [if_neg (by omega), if_neg (by omega)]
      rw [eC, bdX_mk] at eX2
      cases eX2
      refine ⟨⟨fs - (A 12 (pvN nx)).toInt, u, pvN nx, ?_, s4, e4, by omega, s3, hp, ?_, ?_⟩, rfl⟩
      · show ((I1 17 - A 12 (pvN nx)) &&& 255).toInt = _
        rw [and255_sub, g17, h17]; omega
      · show Rep (fs - (A 12 (pvN nx)).toInt) (I1 18 + A 12 (pvN nx)).toInt (A 7) (A 10) _
        rw [d2]; exact r.cg cg
      · show XP (A 11) (A 12) (A 13) (rwB B) u (fs - (A 12 (pvN nx)).toInt) (I1 18 + A 12 (pvN nx)).toInt (A 7) (A 10) (pvN nx)
        rw [d2]; exact x
    · rw [if_neg (by omega), if_neg (by omega), if_neg (by omega)] at eX2
      have eC : fX7_put_2 I1 A (A 12 (pvN nx)) (A 13 (pvN nx)) = (0, I1, up3 A 10 (A 12 (pvN nx)).toNatClampNeg (A 13 (pvN nx))) := by
        unfold fX7_put_2
        rw [if_neg (by omega), if_neg (by omega)]
      rw [eC, bdX_mk] at eX2
      cases eX2
      refine ⟨⟨fs, u, pvN nx, by rw [g17]; exact h17, s4, e4, by omega, s3, hp, ?_, ?_⟩, rfl⟩
      · rw [g18]; exact r.cg cg
      · rw [g18]; exact x
