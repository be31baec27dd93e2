theorem x_semi {I : Nat → Int32} {A : Nat → Nat → Int32} (h1 : (I 1).toInt = 3) : fX5_acceptInRow I A = if (I 6).toInt = 3 ∧ (I 9).toInt < 2 then (0, upd (upd (markI I 6) 6 0) 9 (-2), A) else (0, upd (upd I 6 0) 9 (-2), A) := by
  unfold fX5_acceptInRow
  rw [if_neg (fun h9 => h9 h1)]
  by_cases c : (I 6).toInt = 3
  · rw [if_neg (fun h9 => h9 c)]
    by_cases c2 : 2 ≤ (I 9).toInt
    · rw [if_pos c2, if_neg (by omega)]
    · rw [if_neg c2, if_pos (by omega), x_mark]; rfl
  · rw [if_pos c, if_neg (by omega)]
theorem x_minus {I : Nat → Int32} {A : Nat → Nat → Int32} (h1 : (I 1).toInt = 4) : fX5_acceptInRow I A = (0, upd I 8 1, A) := by
  unfold fX5_acceptInRow
  rw [if_pos (by omega), if_neg (fun h9 => h9 h1)]
theorem x_gap {I : Nat → Int32} {A : Nat → Nat → Int32} (h1 : (I 1).toInt = 1) (h6 : (I 6).toInt = 1) (h : 0 ≤ (I 14).toInt ∧ (I 14).toInt < 160) : fX5_acceptInRow I A = (0, kpI I, kpA I A (-1000)) := by
  unfold fX5_acceptInRow
  rw [if_pos (by omega), if_pos (by omega), if_pos (by omega), x_keep (fun _ => h) (fun h9 => absurd h6 h9)]; rfl
def nvI (I : Nat → Int32) : Int32 := if (I 8).toInt = 0 then I 3 else -(I 3)
def mkI (I : Nat → Int32) : Nat → Int32 := if (I 3).toInt ≤ 999 then I else markI I 5
theorem mkI_o {I : Nat → Int32} {j : Nat} (h : j ≠ 11) (h2 : j ≠ 12) (h3 : j ≠ 13) : mkI I j = I j := by
  unfold mkI
  by_cases h9 : (I 3).toInt ≤ 999
  · rw [if_pos h9]
  · rw [if_neg h9]; exact markI_o h h2 h3
theorem x_int {I : Nat → Int32} {A : Nat → Nat → Int32} (h1 : (I 1).toInt = 2) (h3 : (I 6).toInt = 1 → 0 ≤ (I 14).toInt ∧ (I 14).toInt < 160) (h4 : (I 6).toInt ≠ 1 → 1 ≤ (I 16).toInt ∧ (I 16).toInt ≤ 5 ∧ (A 4 (I 16 - 1).toNatClampNeg).toInt < 16) : fX5_acceptInRow I A = (0, kpI (mkI I), kpA (mkI I) A (nvI I)) := by
  have e6 : mkI I 6 = I 6 := mkI_o (by decide) (by decide) (by decide)
  have e14 : mkI I 14 = I 14 := mkI_o (by decide) (by decide) (by decide)
  have e16 : mkI I 16 = I 16 := mkI_o (by decide) (by decide) (by decide)
  have e8 : mkI I 8 = I 8 := mkI_o (by decide) (by decide) (by decide)
  rw [← x_keep (I := mkI I) (A := A) (v := nvI I) (by rw [e6, e14]; exact h3) (by rw [e6, e16]; exact h4)]
  unfold fX5_acceptInRow mkI nvI
  rw [if_pos (by omega), if_pos (by omega), if_neg (fun h9 => h9 h1)]
  by_cases c : (I 3).toInt ≤ 999
  · rw [if_pos c, if_pos c]
    by_cases c8 : (I 8).toInt = 0
    · rw [if_pos c8, if_pos c8]
      rw [x_keep h3 h4]; rfl
    · rw [if_neg c8, if_neg c8]
      dsimp only [f_lt]
      rw [x_keep h3 h4]; rfl
  · rw [if_neg c, if_neg c, x_mark]
    have g6 : markI I 5 6 = I 6 := markI_o (by decide) (by decide) (by decide)
    have g14 : markI I 5 14 = I 14 := markI_o (by decide) (by decide) (by decide)
    have g16 : markI I 5 16 = I 16 := markI_o (by decide) (by decide) (by decide)
    show (if (I 8).toInt = 0 then f_bdX (fX5_keepInRow (markI I 5) A (I 3)) (fun _ I2 A2 => (0, I2, A2)) else f_lt (-(I 3)) fun y => f_bdX (fX5_keepInRow (markI I 5) A y) (fun _ I2 A2 => (0, I2, A2))) = _
    by_cases c8 : (I 8).toInt = 0
    · rw [if_pos c8, if_pos c8]
      rw [x_keep (I := markI I 5) (by rw [g6, g14]; exact h3) (by rw [g6, g16]; exact h4)]; rfl
    · rw [if_neg c8, if_neg c8]
      dsimp only [f_lt]
      rw [x_keep (I := markI I 5) (by rw [g6, g14]; exact h3) (by rw [g6, g16]; exact h4)]; rfl
/-! the reference's small methods -/
theorem m_is0 {J : Nat → Int32} {B : Nat → Nat → Int32} {L : Nat → Nat → Int64} {z : Int32} {t : Nat} (h6 : (J 6).toInt = 0) (h4 : (J 4).toInt = (t : Int)) : fM12_is J B L z = if (B 2 t).toInt = z.toInt then 1 else 0 := by
  unfold fM12_is
  rw [if_neg (fun h9 => h9 h6), clN h4]
  by_cases c : (B 2 t).toInt = z.toInt
  · rw [if_neg (fun h9 => h9 c), if_pos c]
  · rw [if_pos c, if_neg c]
theorem m_isF {J : Nat → Int32} {B : Nat → Nat → Int32} {L : Nat → Nat → Int64} {z : Int32} (h6 : (J 6).toInt ≠ 0) : fM12_is J B L z = 0 := by
  unfold fM12_is
  rw [if_pos h6]
def failJ (J : Nat → Int32) (B : Nat → Nat → Int32) (t : Nat) (k : Int32) : Nat → Int32 := upd (upd (upd J 6 k) 7 (B 3 t)) 12 (J 11)
theorem m_fail0 {J : Nat → Int32} {B : Nat → Nat → Int32} {L : Nat → Nat → Int64} {k : Int32} {t : Nat} (h6 : (J 6).toInt = 0) (h4 : (J 4).toInt = (t : Int)) : fM12_fail J B L k = (0, failJ J B t k, B, L) := by
  unfold fM12_fail failJ
  rw [if_pos (by omega), clN h4]
theorem m_failF {J : Nat → Int32} {B : Nat → Nat → Int32} {L : Nat → Nat → Int64} {k : Int32} (h6 : 0 < (J 6).toInt) : fM12_fail J B L k = (0, J, B, L) := by
  unfold fM12_fail
  rw [if_neg (by omega)]
theorem m_goes {J : Nat → Int32} {B : Nat → Nat → Int32} {L : Nat → Nat → Int64} {t : Nat} (h6 : (J 6).toInt = 0) (h4 : (J 4).toInt = (t : Int)) : fM12_goesOn J B L = if t = 400 then (0, failJ J B t 2, B, L) else (0, upd J 4 (J 4 + 1), B, L) := by
  unfold fM12_goesOn
  by_cases c : t = 400
  · rw [if_neg (by omega), if_pos c, m_fail0 h6 h4]; rfl
  · rw [if_pos (by omega), if_neg c]; rfl
theorem m_must0 {J : Nat → Int32} {B : Nat → Nat → Int32} {L : Nat → Nat → Int64} {z : Int32} {t : Nat} (h6 : (J 6).toInt = 0) (h4 : (J 4).toInt = (t : Int)) : fM12_must J B L z = if (B 2 t).toInt = z.toInt then (if t = 400 then (0, failJ J B t 2, B, L) else (0, upd J 4 (J 4 + 1), B, L)) else (0, failJ J B t 1, B, L) := by
  unfold fM12_must
  rw [m_is0 h6 h4, m_goes h6 h4, m_fail0 h6 h4]
  by_cases c : (B 2 t).toInt = z.toInt
  · rw [if_pos c, if_pos c, if_neg (by decide)]
    by_cases c2 : t = 400
    · rw [if_pos c2]; rfl
    · rw [if_neg c2]; rfl
  · rw [if_neg c, if_neg c, if_pos rfl]; rfl
theorem m_mustF {J : Nat → Int32} {B : Nat → Nat → Int32} {L : Nat → Nat → Int64} {z : Int32} (h6 : 0 < (J 6).toInt) : fM12_must J B L z = (0, J, B, L) := by
  unfold fM12_must
  rw [m_isF (by omega), if_pos rfl, m_failF h6]; rfl
/-- marks: the class's fault that waits is the reference's worst one -/
def WRK (I J : Nat → Int32) (p : Int) : Prop := J 8 = I 11 ∧ 0 ≤ (I 11).toInt ∧ ((I 11).toInt = 0 → I 12 = -1 ∧ I 13 = -1) ∧ ((I 11).toInt ≠ 0 → J 9 = I 12 ∧ J 13 = I 13 ∧ (I 12).toInt < p)
theorem m_wrong {I J : Nat → Int32} {B : Nat → Nat → Int32} {L : Nat → Nat → Int64} {k z : Int32} {p : Int} (hW : WRK I J p) (hp : p ≤ (I 2).toInt + 1) (hk : (I 11).toInt ≠ 0 → (I 12).toInt = (I 2).toInt → (I 11).toInt ≤ k.toInt) (h6 : (J 6).toInt = 0) (h11 : J 11 = I 9) (hB : B 3 z.toNatClampNeg = I 2) (hk0 : 0 < k.toInt) : ∃ J1 : Nat → Int32, fM12_wrong J B L k z = (0, J1, B, L) ∧ Md [8, 9, 13] J J1 ∧ WRK (markI I k) J1 ((I 2).toInt + 1) := by
  obtain ⟨w1, w2, w3, w4⟩ := hW
  unfold fM12_wrong markI
  rw [if_neg (by omega), hB, w1]
  by_cases c : (I 11).toInt = 0
  · rw [if_pos c, if_neg (fun h9 => h9 c)]
    refine ⟨_, rfl, Md.up (Md.up (Md.up Md.rf rfl) rfl) rfl, rfl, ?_, fun h9 => ?_, fun _ => ⟨rfl, h11, ?_⟩⟩
    · show 0 ≤ k.toInt; omega
    · have h8 : k.toInt = 0 := h9
      omega
    · show (I 2).toInt < (I 2).toInt + 1; omega
  · obtain ⟨a1, a2, a3⟩ := w4 c
    rw [if_neg c, if_pos c]
    have hJ : WRK I J ((I 2).toInt + 1) := ⟨w1, w2, w3, fun h9 => ⟨a1, a2, by omega⟩⟩
    rw [a1]
    by_cases c2 : (I 12).toInt < (I 2).toInt
    · rw [if_pos c2]
      exact ⟨J, rfl, Md.rf, hJ⟩
    · have h9 := hk c (by omega)
      rw [if_neg c2, if_neg (by omega), if_neg (by omega)]
      exact ⟨J, rfl, Md.rf, hJ⟩
