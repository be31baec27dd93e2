set_option maxHeartbeats 4000000 in
set_option maxRecDepth 100000 in
theorem law_loop {κ : Cx} {l : Launch} {D : va_G} {zt : Nat × Nat × Nat × (Nat → Nat) × (Nat → Nat)} {q r : Nat → Nat} {d g : Nat → ClassId} {b L : Nat} {xs : Nat → Int32} (hk : GC κ l D zt code 4 RL lw_tbl (tyX d ++ tyM g) room_1) (hX : GX κ b L xs) (hL : L ≤ 3072) (hret : ∀ (ws : va_W) (pc : Nat) (lv : List (Nat × Value)) (n1 n2 : Nat), n1 ≤ 600000 → n2 ≤ 7302249 → decode code pc = .ok (.ireturn, 1) → GW κ 4 n1 n2 ws pc lv [.int 1]) : ∀ (n : Nat) (i : Int32) (I : Nat → Int32) (A : Nat → Nat → Int32) (J : Nat → Int32) (B : Nat → Nat → Int32) (M : Nat → Nat → Int64), 0 ≤ i.toInt → i.toInt ≤ (L : Int) → (L : Int) - i.toInt < (n : Int) → IvX I A → IvM J B → RA I A J B M → GW κ 4 82 21282 (wX q d I A ++ wM r g J B M) 18 [(3, .int i), (2, .ref (r 0)), (1, .ref (q 0)), (0, .ref b)] [] := by
  intro n
  induction n with
  | zero => intro i I A J B M h0 h1 h2; exact absurd h2 (by omega)
  | succ n ih =>
    intro i I A J B M h0 h1 h2 hI hJ hS
    refine g_iload_n hk dL_law_18 rfl ?_
    refine g_aload_n hk dL_law_19 rfl ?_
    refine g_slen hk hX dL_law_20 ?_
    refine g_bipush (v := 6) hk dL_law_21 (by decide) ?_
    refine g_isub hk dL_law_23 ?_
    refine g_topi (fun y ey => ?_)
    have hy : y.toInt = (L : Int) - 6 := i32_sub ey (nI_toInt (by omega)) rfl (by omega) (by omega)
    refine g_icmp_gt (tgt := 1471) (a := i.toInt) (b := y.toInt) hk dL_law_24 (by decide) rfl rfl (fun c1 => ?_) (fun c1 => ?_)
    · refine g_iconst (v := 1) hk dL_law_1471 (by decide) ?_
      exact hret _ _ _ _ _ (Nat.le_of_ble_eq_true rfl) (Nat.le_of_ble_eq_true rfl) dL_law_1472
    have h6 : i.toInt + 6 ≤ (L : Int) := by omega
    have tail : ∀ (I : Nat → Int32) (A : Nat → Nat → Int32) (J : Nat → Int32) (B : Nat → Nat → Int32) (M : Nat → Nat → Int64), IvX I A → IvM J B → RA I A J B M → GW κ 4 82 21282 (wX q d I A ++ wM r g J B M) 1465 [(3, .int i), (2, .ref (r 0)), (1, .ref (q 0)), (0, .ref b)] [] := by
      intro I A J B M hI hJ hS
      obtain ⟨i6, e6⟩ : ∃ y : Int32, y = i + Int32.ofInt 6 := ⟨_, rfl⟩
      have g6 : i6.toInt = i.toInt + 6 := i32_add e6 rfl (by decide) (by omega) (by omega)
      refine g_iinc (v := i6) (lv' := [(3, .int i6), (2, .ref (r 0)), (1, .ref (q 0)), (0, .ref b)]) hk 0 dL_law_1465 rfl e6.symm (by decide) rfl ?_
      refine g_goto (tgt := 18) hk dL_law_1468 (by decide) ?_
      exact ih i6 I A J B M (by omega) (by omega) (by omega) hI hJ hS
    refine g_aload_n hk dL_law_27 rfl ?_
    refine g_iload_n hk dL_law_28 rfl ?_
    refine g_sld (v := xs i.toNatClampNeg) hk hX (vp_in_iff.mpr ⟨by omega, by omega⟩) rfl dL_law_29 ?_
    refine g_bipush (v := 63) hk dL_law_30 (by decide) ?_
    refine g_iand hk dL_law_32 ?_
    refine g_topi (fun z ez => ?_)
    by_cases c10 : z.toInt = 0
    · exact g_tabIn (tgt := 212) (a := 0) hk dL_law_33 c10 (by decide) (by decide) rfl (by decide) (law_0 hk hX i h0 h6 hL I A J B M hI hJ hS tail)
    by_cases c11 : z.toInt = 1
    · exact g_tabIn (tgt := 275) (a := 1) hk dL_law_33 c11 (by decide) (by decide) rfl (by decide) (law_1 hk hX i h0 h6 hL I A J B M hI hJ hS tail)
    by_cases c12 : z.toInt = 2
    · exact g_tabIn (tgt := 298) (a := 2) hk dL_law_33 c12 (by decide) (by decide) rfl (by decide) (law_2 hk hX i h0 h6 hL I A J B M hI hJ hS tail)
    by_cases c13 : z.toInt = 3
    · exact g_tabIn (tgt := 311) (a := 3) hk dL_law_33 c13 (by decide) (by decide) rfl (by decide) (law_3 hk hX i h0 h6 hL I A J B M hI hJ hS tail)
    by_cases c14 : z.toInt = 4
    · exact g_tabIn (tgt := 324) (a := 4) hk dL_law_33 c14 (by decide) (by decide) rfl (by decide) (law_4 hk hX i h0 h6 hL I A J B M hI hJ hS tail)
    by_cases c15 : z.toInt = 5
    · exact g_tabIn (tgt := 337) (a := 5) hk dL_law_33 c15 (by decide) (by decide) rfl (by decide) (law_5 hk hX i h0 h6 hL I A J B M hI hJ hS tail)
    by_cases c16 : z.toInt = 6
    · exact g_tabIn (tgt := 360) (a := 6) hk dL_law_33 c16 (by decide) (by decide) rfl (by decide) (law_6 hk hX i h0 h6 hL I A J B M hI hJ hS tail)
    by_cases c17 : z.toInt = 7
    · exact g_tabIn (tgt := 393) (a := 7) hk dL_law_33 c17 (by decide) (by decide) rfl (by decide) (law_7 hk hX i h0 h6 hL I A J B M hI hJ hS tail)
    by_cases c18 : z.toInt = 8
    · exact g_tabIn (tgt := 416) (a := 8) hk dL_law_33 c18 (by decide) (by decide) rfl (by decide) (law_8 hk hX i h0 h6 hL I A J B M hI hJ hS tail)
    by_cases c19 : z.toInt = 9
    · exact g_tabIn (tgt := 429) (a := 9) hk dL_law_33 c19 (by decide) (by decide) rfl (by decide) (law_9 hk hX i h0 h6 hL I A J B M hI hJ hS tail)
    by_cases c20 : z.toInt = 10
    · exact g_tabIn (tgt := 452) (a := 10) hk dL_law_33 c20 (by decide) (by decide) rfl (by decide) (law_10 hk hX i h0 h6 hL I A J B M hI hJ hS tail)
    by_cases c21 : z.toInt = 11
    · exact g_tabIn (tgt := 475) (a := 11) hk dL_law_33 c21 (by decide) (by decide) rfl (by decide) (law_11 hk hX i h0 h6 hL I A J B M hI hJ hS tail)
    by_cases c22 : z.toInt = 12
    · exact g_tabIn (tgt := 508) (a := 12) hk dL_law_33 c22 (by decide) (by decide) rfl (by decide) (law_12 hk hX i h0 h6 hL I A J B M hI hJ hS tail)
    by_cases c23 : z.toInt = 13
    · exact g_tabIn (tgt := 521) (a := 13) hk dL_law_33 c23 (by decide) (by decide) rfl (by decide) (law_13 hk hX i h0 h6 hL I A J B M hI hJ hS tail)
    by_cases c24 : z.toInt = 14
    · exact g_tabIn (tgt := 564) (a := 14) hk dL_law_33 c24 (by decide) (by decide) rfl (by decide) (law_14 hk hX i h0 h6 hL I A J B M hI hJ hS tail)
    by_cases c25 : z.toInt = 15
    · exact g_tabIn (tgt := 607) (a := 15) hk dL_law_33 c25 (by decide) (by decide) rfl (by decide) (law_15 hk hX i h0 h6 hL I A J B M hI hJ hS tail)
    by_cases c26 : z.toInt = 16
    · exact g_tabIn (tgt := 640) (a := 16) hk dL_law_33 c26 (by decide) (by decide) rfl (by decide) (law_16 hk hX i h0 h6 hL I A J B M hI hJ hS tail)
    by_cases c27 : z.toInt = 17
    · exact g_tabIn (tgt := 683) (a := 17) hk dL_law_33 c27 (by decide) (by decide) rfl (by decide) (law_17 hk hX i h0 h6 hL I A J B M hI hJ hS tail)
    by_cases c28 : z.toInt = 18
    · exact g_tabIn (tgt := 736) (a := 18) hk dL_law_33 c28 (by decide) (by decide) rfl (by decide) (law_18 hk hX i h0 h6 hL I A J B M hI hJ hS tail)
    by_cases c29 : z.toInt = 19
    · exact g_tabIn (tgt := 769) (a := 19) hk dL_law_33 c29 (by decide) (by decide) rfl (by decide) (law_19 hk hX i h0 h6 hL I A J B M hI hJ hS tail)
    by_cases c30 : z.toInt = 20
    · exact g_tabIn (tgt := 802) (a := 20) hk dL_law_33 c30 (by decide) (by decide) rfl (by decide) (law_20 hk hX i h0 h6 hL I A J B M hI hJ hS tail)
    by_cases c31 : z.toInt = 21
    · exact g_tabIn (tgt := 845) (a := 21) hk dL_law_33 c31 (by decide) (by decide) rfl (by decide) (law_21 hk hX i h0 h6 hL I A J B M hI hJ hS tail)
    by_cases c32 : z.toInt = 22
    · exact g_tabIn (tgt := 878) (a := 22) hk dL_law_33 c32 (by decide) (by decide) rfl (by decide) (law_22 hk hX i h0 h6 hL I A J B M hI hJ hS tail)
    by_cases c33 : z.toInt = 23
    · exact g_tabIn (tgt := 921) (a := 23) hk dL_law_33 c33 (by decide) (by decide) rfl (by decide) (law_23 hk hX i h0 h6 hL I A J B M hI hJ hS tail)
    by_cases c34 : z.toInt = 24
    · exact g_tabIn (tgt := 954) (a := 24) hk dL_law_33 c34 (by decide) (by decide) rfl (by decide) (law_24 hk hX i h0 h6 hL I A J B M hI hJ hS tail)
    by_cases c35 : z.toInt = 25
    · exact g_tabIn (tgt := 987) (a := 25) hk dL_law_33 c35 (by decide) (by decide) rfl (by decide) (law_25 hk hX i h0 h6 hL I A J B M hI hJ hS tail)
    by_cases c36 : z.toInt = 26
    · exact g_tabIn (tgt := 1030) (a := 26) hk dL_law_33 c36 (by decide) (by decide) rfl (by decide) (law_26 hk hX i h0 h6 hL I A J B M hI hJ hS tail)
    by_cases c37 : z.toInt = 27
    · exact g_tabIn (tgt := 1063) (a := 27) hk dL_law_33 c37 (by decide) (by decide) rfl (by decide) (law_27 hk hX i h0 h6 hL I A J B M hI hJ hS tail)
    by_cases c38 : z.toInt = 28
    · exact g_tabIn (tgt := 1096) (a := 28) hk dL_law_33 c38 (by decide) (by decide) rfl (by decide) (law_28 hk hX i h0 h6 hL I A J B M hI hJ hS tail)
    by_cases c39 : z.toInt = 29
    · exact g_tabIn (tgt := 1129) (a := 29) hk dL_law_33 c39 (by decide) (by decide) rfl (by decide) (law_29 hk hX i h0 h6 hL I A J B M hI hJ hS tail)
    by_cases c40 : z.toInt = 30
    · exact g_tabIn (tgt := 1172) (a := 30) hk dL_law_33 c40 (by decide) (by decide) rfl (by decide) (law_30 hk hX i h0 h6 hL I A J B M hI hJ hS tail)
    by_cases c41 : z.toInt = 31
    · exact g_tabIn (tgt := 1205) (a := 31) hk dL_law_33 c41 (by decide) (by decide) rfl (by decide) (law_31 hk hX i h0 h6 hL I A J B M hI hJ hS tail)
    by_cases c42 : z.toInt = 32
    · exact g_tabIn (tgt := 1238) (a := 32) hk dL_law_33 c42 (by decide) (by decide) rfl (by decide) (law_32 hk hX i h0 h6 hL I A J B M hI hJ hS tail)
    by_cases c43 : z.toInt = 33
    · exact g_tabIn (tgt := 1281) (a := 33) hk dL_law_33 c43 (by decide) (by decide) rfl (by decide) (law_33 hk hX i h0 h6 hL I A J B M hI hJ hS tail)
    by_cases c44 : z.toInt = 34
    · exact g_tabIn (tgt := 1304) (a := 34) hk dL_law_33 c44 (by decide) (by decide) rfl (by decide) (law_34 hk hX i h0 h6 hL I A J B M hI hJ hS tail)
    by_cases c45 : z.toInt = 35
    · exact g_tabIn (tgt := 1327) (a := 35) hk dL_law_33 c45 (by decide) (by decide) rfl (by decide) (law_35 hk hX i h0 h6 hL I A J B M hI hJ hS tail)
    by_cases c46 : z.toInt = 36
    · exact g_tabIn (tgt := 1350) (a := 36) hk dL_law_33 c46 (by decide) (by decide) rfl (by decide) (law_36 hk hX i h0 h6 hL I A J B M hI hJ hS tail)
    by_cases c47 : z.toInt = 37
    · exact g_tabIn (tgt := 1373) (a := 37) hk dL_law_33 c47 (by decide) (by decide) rfl (by decide) (law_37 hk hX i h0 h6 hL I A J B M hI hJ hS tail)
    by_cases c48 : z.toInt = 38
    · exact g_tabIn (tgt := 1396) (a := 38) hk dL_law_33 c48 (by decide) (by decide) rfl (by decide) (law_38 hk hX i h0 h6 hL I A J B M hI hJ hS tail)
    by_cases c49 : z.toInt = 39
    · exact g_tabIn (tgt := 1419) (a := 39) hk dL_law_33 c49 (by decide) (by decide) rfl (by decide) (law_39 hk hX i h0 h6 hL I A J B M hI hJ hS tail)
    by_cases c50 : z.toInt = 40
    · exact g_tabIn (tgt := 1442) (a := 40) hk dL_law_33 c50 (by decide) (by decide) rfl (by decide) (law_40 hk hX i h0 h6 hL I A J B M hI hJ hS tail)
    exact g_tabOut (tgt := 1465) (a := z.toInt) hk dL_law_33 rfl (by omega) (by decide) (tail I A J B M hI hJ hS)
theorem iv_X0 : IvX iX0 aX0 := ⟨⟨by decide, by decide⟩, ⟨by decide, by decide⟩, ⟨by decide, by decide⟩, ⟨by decide, by decide⟩, fun j => (show 0 ≤ (0 : Int32).toInt ∧ (0 : Int32).toInt ≤ 16 from ⟨by decide, by decide⟩), fun j => (show 0 ≤ (0 : Int32).toInt ∧ (0 : Int32).toInt ≤ 16 from ⟨by decide, by decide⟩), trivial⟩
set_option maxRecDepth 100000 in
theorem iv_M1 : IvM iM1 aM1 := ⟨⟨by decide, by decide⟩, ⟨by decide, by decide⟩, ⟨by decide, by decide⟩, ⟨by decide, by decide⟩, ⟨by decide, by decide⟩, ⟨by decide, by decide⟩, ⟨by decide, by decide⟩, ⟨by decide, by decide⟩, ⟨by decide, by decide⟩, ⟨by decide, by decide⟩, ⟨by decide, by decide⟩, ⟨by decide, by decide⟩, ⟨by decide, by decide⟩, fun j => (show 0 ≤ (0 : Int32).toInt ∧ (0 : Int32).toInt ≤ 16 from ⟨by decide, by decide⟩), fun j => (show 0 ≤ (0 : Int32).toInt ∧ (0 : Int32).toInt ≤ 159 from ⟨by decide, by decide⟩), ⟨by decide +kernel, by decide +kernel⟩, ⟨by decide +kernel, by decide +kernel⟩, ⟨by decide +kernel, by decide +kernel⟩, ⟨by decide +kernel, by decide +kernel⟩, ⟨by decide +kernel, by decide +kernel⟩, ⟨by decide +kernel, by decide +kernel⟩, ⟨fun _ => ghf_0 (by decide +kernel) (by decide +kernel), fun _ => ghf_0 (by decide +kernel) (by decide +kernel)⟩, Or.inr (Or.inr ⟨fun _ => ghf_0 (by decide +kernel) (by decide +kernel), fun _ => ghf_0 (by decide +kernel) (by decide +kernel)⟩), ⟨fun _ => by decide +kernel, fun _ => by decide +kernel⟩, fun j hj => absurd (show (j : Int) < (0 : Int32).toInt from hj) (by have : (0 : Int32).toInt = 0 := rfl; omega), fun s hs h => absurd (show (0 : Int32).toInt = 0 from rfl) h, trivial⟩
theorem lk_0 : ∀ k, k < 13 → (lM1 6 k).toInt = keyN.getD k 0 := by decide +kernel
theorem sl_0 (s : Nat) (h1 : (iX0 (23 + 2 * s)).toInt = 0) (h2 : (aM1 27 s).toInt = 0) : SL s iX0 aX0 aM1 := ⟨⟨fun h => absurd h1 h, fun h => absurd h2 h⟩, fun h => absurd h1 h⟩
theorem rt_0 : RA iX0 aX0 iM1 aM1 lM1 := ⟨⟨⟨⟨by decide +kernel, fun j hj => absurd (show (j : Int) < (0 : Int32).toInt from hj) (by have : (0 : Int32).toInt = 0 := rfl; omega)⟩, lk_0⟩, by decide +kernel, by decide +kernel⟩, ⟨0, 0, 0, by decide +kernel, by decide +kernel, by decide +kernel, by decide, by decide +kernel, by decide, ⟨by decide +kernel, by decide +kernel, by decide +kernel, fun i hi => absurd (show (i : Int) < (0 : Int32).toInt from hi) (by have : (0 : Int32).toInt = 0 := rfl; omega), ⟨by decide +kernel, by decide +kernel, by decide +kernel⟩, ⟨by decide +kernel, by decide +kernel, by decide +kernel⟩, ⟨by decide +kernel, by decide +kernel, by decide +kernel⟩, ⟨by decide +kernel, by decide +kernel, by decide +kernel⟩⟩, trivial⟩, ⟨0, 0, by decide +kernel, by decide, by decide +kernel, by decide +kernel, by decide, fun q hq => absurd hq (by omega)⟩, ⟨sl_0 0 (by decide +kernel) (by decide +kernel), sl_0 1 (by decide +kernel) (by decide +kernel), sl_0 2 (by decide +kernel) (by decide +kernel)⟩⟩
set_option maxHeartbeats 4000000 in
set_option maxRecDepth 100000 in
theorem m1_pack {h0 : Nat} {v : Option Value} {ty' : Tys} {w' : va_W} (hp : ∃ (q1 : Nat), ∃ (q4 : Nat), ∃ (d5 : ClassId), ∃ (q6 : Nat), ∃ (q33 : Nat), ∃ (q34 : Nat), ∃ (d35 : ClassId), ∃ (q36 : Nat), ∃ (q37 : Nat), ∃ (d38 : ClassId), ∃ (q39 : Nat), ∃ (q40 : Nat), ∃ (d41 : ClassId), ∃ (q42 : Nat), ∃ (d43 : ClassId), ∃ (q44 : Nat), ∃ (d45 : ClassId), ∃ (q46 : Nat), ∃ (d47 : ClassId), ∃ (q48 : Nat), ∃ (q51 : Nat), ∃ (d52 : ClassId), ∃ (q53 : Nat), ∃ (q58 : Nat), ∃ (d59 : ClassId), ∃ (q60 : Nat), ∃ (d61 : ClassId), ∃ (q62 : Nat), ∃ (q65 : Nat), ∃ (d66 : ClassId), ∃ (q67 : Nat), ∃ (q74 : Nat), ∃ (d75 : ClassId), ∃ (q76 : Nat), ∃ (d77 : ClassId), ∃ (q78 : Nat), ∃ (d79 : ClassId), ∃ (q80 : Nat), ∃ (d81 : ClassId), ∃ (q82 : Nat), ∃ (q90 : Nat), ∃ (d91 : ClassId), ∃ (q92 : Nat), ∃ (q93 : Nat), ∃ (d94 : ClassId), ∃ (q95 : Nat), ∃ (q103 : Nat), ∃ (d104 : ClassId), ∃ (q105 : Nat), ∃ (q106 : Nat), ∃ (d107 : ClassId), ∃ (q108 : Nat), ∃ (q116 : Nat), ∃ (d117 : ClassId), ∃ (q118 : Nat), ∃ (q119 : Nat), ∃ (d120 : ClassId), ∃ (q121 : Nat), ∃ (q139 : Nat), ∃ (q140 : Nat), ∃ (d141 : ClassId), ∃ (q142 : Nat), ∃ (d143 : ClassId), ∃ (q144 : Nat), ∃ (d145 : ClassId), ∃ (q146 : Nat), ∃ (d147 : ClassId), ∃ (q148 : Nat), ∃ (q159 : Nat), ∃ (d160 : ClassId), ∃ (q161 : Nat), ∃ (d162 : ClassId), ∃ (q163 : Nat), ∃ (d164 : ClassId), ∃ (q165 : Nat), ∃ (d166 : ClassId), ∃ (q167 : Nat), ∃ (d168 : ClassId), ∃ (q169 : Nat), ∃ (q174 : Nat), ∃ (d175 : ClassId), ∃ (q176 : Nat), ∃ (d177 : ClassId), v = none ∧ ty' = [(d5, .int), (d35, .int), (d38, .int), (d41, .int), (d43, .int), (d45, .int), (d47, .int), (d52, .int), (d59, .int), (d61, .int), (d66, .int), (d75, .int), (d77, .int), (d79, .int), (d81, .object RX8), (d91, .int), (d94, .int), (d104, .int), (d107, .int), (d117, .int), (d120, .int), (d141, .int), (d143, .int), (d145, .int), (d147, .int), (d160, .int), (d162, .int), (d164, .int), (d166, .int), (d168, .boolean), (d175, .int), (d177, .boolean)] ∧ w' = [(h0, .inr (11, [.ref q1, .ref q6, .ref q48, .ref q53, .ref q62, .ref q67, .ref q80, .ref q121, .ref q148, .ref q169])), (q1, .inr (10, [.ref q4, .int 0, .int 0, .int 0, .int 0, .int 0, .int 0])), (q4, .inl (d5, 2000, .inl (fun _ => 0))), (q6, .inr (5, [.ref q1, .ref q33, .ref q39, .ref q44, .ref q46, .int 0, .int 0, .int 0, .int (-2), .int 0, .int 0, .int (-1), .int (-1)])), (q33, .inr (8, [.ref q34, .int 0, .ref q36, .int 0])), (q34, .inl (d35, 160, .inl (fun _ => 0))), (q36, .inr (7, [.ref q37])), (q37, .inl (d38, 4, .inl unI)), (q39, .inr (4, [.ref q40, .ref q42, .int 0])), (q40, .inl (d41, 80, .inl (fun _ => 0))), (q42, .inl (d43, 5, .inl (fun _ => 0))), (q44, .inl (d45, 5, .inl (fun _ => 0))), (q46, .inl (d47, 5, .inl (fun _ => 0))), (q48, .inr (6, [.ref q51, .int 0, .int 0])), (q51, .inl (d52, 256, .inl (fun _ => 0))), (q53, .inr (4, [.ref q58, .ref q60, .int 0])), (q58, .inl (d59, 80, .inl (fun _ => 0))), (q60, .inl (d61, 5, .inl (fun _ => 0))), (q62, .inr (7, [.ref q65])), (q65, .inl (d66, 4, .inl unI)), (q67, .inr (3, [.ref q74, .ref q76, .ref q78, .int 0, .int 0])), (q74, .inl (d75, 40, .inl (fun _ => 0))), (q76, .inl (d77, 40, .inl (fun _ => 0))), (q78, .inl (d79, 40, .inl (fun _ => 0))), (q80, .inl (d81, 3, .inr (.inr (.inr (.inr (va_up (va_up (va_up (fun _ => none) 0 (some q82)) 1 (some q95)) 2 (some q108))))))), (q82, .inr (8, [.ref q90, .int 0, .ref q92, .int 0])), (q90, .inl (d91, 160, .inl (fun _ => 0))), (q92, .inr (7, [.ref q93])), (q93, .inl (d94, 4, .inl unI)), (q95, .inr (8, [.ref q103, .int 0, .ref q105, .int 0])), (q103, .inl (d104, 160, .inl (fun _ => 0))), (q105, .inr (7, [.ref q106])), (q106, .inl (d107, 4, .inl unI)), (q108, .inr (8, [.ref q116, .int 0, .ref q118, .int 0])), (q116, .inl (d117, 160, .inl (fun _ => 0))), (q118, .inr (7, [.ref q119])), (q119, .inl (d120, 4, .inl unI)), (q121, .inr (0, [.ref q48, .ref q53, .ref q62, .ref q139, .int 0])), (q139, .inr (2, [.ref q140, .ref q142, .ref q144, .ref q146, .int 0, .int 1, .int 0, .int 0, .int 0, .int 0])), (q140, .inl (d141, 16, .inl (fun _ => 0))), (q142, .inl (d143, 16, .inl (fun _ => 0))), (q144, .inl (d145, 256, .inl (fun _ => 0))), (q146, .inl (d147, 32, .inl (fun _ => 0))), (q148, .inr (1, [.ref q121, .ref q48, .ref q53, .ref q159, .int 0, .int 0, .ref q161, .ref q163, .ref q165, .int 0, .ref q167])), (q159, .inl (d160, 9, .inl (fun _ => 0))), (q161, .inl (d162, 160, .inl (fun _ => 0))), (q163, .inl (d164, 160, .inl (fun _ => 0))), (q165, .inl (d166, 160, .inl (fun _ => 0))), (q167, .inl (d168, 160, .inl (fun _ => 0))), (q169, .inr (9, [.ref q121, .ref q139, .ref q174, .ref q176, .int 0, .int 0, .int 0, .int 0, .int 0, .int 0, .int 0])), (q174, .inl (d175, 2560, .inl (fun _ => 0))), (q176, .inl (d177, 160, .inl (fun _ => 0)))]) : ∃ (q : Nat → Nat) (d : Nat → ClassId), q 0 = h0 ∧ v = none ∧ ty' = tyX d ∧ w' = wX q d iX0 aX0 :=
  hp.elim fun q1 hp => hp.elim fun q4 hp => hp.elim fun d5 hp => hp.elim fun q6 hp => hp.elim fun q33 hp => hp.elim fun q34 hp => hp.elim fun d35 hp => hp.elim fun q36 hp => hp.elim fun q37 hp => hp.elim fun d38 hp => hp.elim fun q39 hp => hp.elim fun q40 hp => hp.elim fun d41 hp => hp.elim fun q42 hp => hp.elim fun d43 hp => hp.elim fun q44 hp => hp.elim fun d45 hp => hp.elim fun q46 hp => hp.elim fun d47 hp => hp.elim fun q48 hp => hp.elim fun q51 hp => hp.elim fun d52 hp => hp.elim fun q53 hp => hp.elim fun q58 hp => hp.elim fun d59 hp => hp.elim fun q60 hp => hp.elim fun d61 hp => hp.elim fun q62 hp => hp.elim fun q65 hp => hp.elim fun d66 hp => hp.elim fun q67 hp => hp.elim fun q74 hp => hp.elim fun d75 hp => hp.elim fun q76 hp => hp.elim fun d77 hp => hp.elim fun q78 hp => hp.elim fun d79 hp => hp.elim fun q80 hp => hp.elim fun d81 hp => hp.elim fun q82 hp => hp.elim fun q90 hp => hp.elim fun d91 hp => hp.elim fun q92 hp => hp.elim fun q93 hp => hp.elim fun d94 hp => hp.elim fun q95 hp => hp.elim fun q103 hp => hp.elim fun d104 hp => hp.elim fun q105 hp => hp.elim fun q106 hp => hp.elim fun d107 hp => hp.elim fun q108 hp => hp.elim fun q116 hp => hp.elim fun d117 hp => hp.elim fun q118 hp => hp.elim fun q119 hp => hp.elim fun d120 hp => hp.elim fun q121 hp => hp.elim fun q139 hp => hp.elim fun q140 hp => hp.elim fun d141 hp => hp.elim fun q142 hp => hp.elim fun d143 hp => hp.elim fun q144 hp => hp.elim fun d145 hp => hp.elim fun q146 hp => hp.elim fun d147 hp => hp.elim fun q148 hp => hp.elim fun q159 hp => hp.elim fun d160 hp => hp.elim fun q161 hp => hp.elim fun d162 hp => hp.elim fun q163 hp => hp.elim fun d164 hp => hp.elim fun q165 hp => hp.elim fun d166 hp => hp.elim fun q167 hp => hp.elim fun d168 hp => hp.elim fun q169 hp => hp.elim fun q174 hp => hp.elim fun d175 hp => hp.elim fun q176 hp => hp.elim fun d177 hp => ⟨fun k => ([h0, q1, q4, q6, q33, q34, q36, q37, q39, q40, q42, q44, q46, q48, q51, q53, q58, q60, q62, q65, q67, q74, q76, q78, q80, q82, q90, q92, q93, q95, q103, q105, q106, q108, q116, q118, q119, q121, q139, q140, q142, q144, q146, q148, q159, q161, q163, q165, q167, q169, q174, q176] : List Nat).getD k 0, fun k => ([d5, d35, d38, d41, d43, d45, d47, d52, d59, d61, d66, d75, d77, d79, d81, d91, d94, d104, d107, d117, d120, d141, d143, d145, d147, d160, d162, d164, d166, d168, d175, d177] : List ClassId).getD k d5, rfl, hp.1, hp.2.1, hp.2.2⟩
set_option maxHeartbeats 4000000 in
set_option maxRecDepth 100000 in
theorem law_walk {κ : Cx} {l : Launch} {D : va_G} {zt : Nat × Nat × Nat × (Nat → Nat) × (Nat → Nat)} {b L : Nat} {xs : Nat → Int32} (hk : GC κ l D zt code 4 RL lw_tbl [] room_1) (hX : GX κ b L xs) (hL : L ≤ 3072) (hret : ∀ (ws : va_W) (pc : Nat) (lv : List (Nat × Value)) (n1 n2 : Nat), n1 ≤ 600000 → n2 ≤ 7302249 → decode code pc = .ok (.ireturn, 1) → GW κ 4 n1 n2 ws pc lv [.int 1]) : GW κ 4 0 0 [] 0 [(0, .ref b)] [] := by
  refine g_new (ci := 11) (fs := [.null, .null, .null, .null, .null, .null, .null, .null, .null, .null]) hk inX11 tyX11 tyX11_ok zw_121 zw_122 zw_103 rfl (fun j hj => by rcases (show j = 0 ∨ j = 1 ∨ j = 2 ∨ j = 3 ∨ j = 4 ∨ j = 5 ∨ j = 6 ∨ j = 7 ∨ j = 8 ∨ j = 9 by omega) with rfl | rfl | rfl | rfl | rfl | rfl | rfl | rfl | rfl | rfl <;> rfl) (Nat.le_of_ble_eq_true rfl) (Nat.le_of_ble_eq_true rfl) dL_law_0 (fun h0 => ?_)
  show GW κ 4 1 10 [(h0, .inr (11, [.null, .null, .null, .null, .null, .null, .null, .null, .null, .null]))] 3 [(0, .ref b)] [.ref h0]
  refine g_dup hk dL_law_3 rfl ?_
  refine g_callI (n := 0) hk (m1_X11_init l D zt h0) (SP.same _) (fun _ h => absurd h List.not_mem_nil) (gi_sub zi_m1_X11_init zg_m1_X11_init) rfl rfl rfl zw_103 zw_123 zw_124 rfl (by decide +kernel) ⟨Nat.le_of_ble_eq_true rfl, Nat.le_of_ble_eq_true rfl⟩ rfl rfl (Nat.le_of_ble_eq_true rfl) ⟨Nat.le_of_ble_eq_true rfl, Nat.le_of_ble_eq_true rfl⟩ dL_law_4 (fun v ty' w' hp hk' => ?_)
  obtain ⟨q, d, hq0, rfl, rfl, rfl⟩ := m1_pack hp
  subst hq0
  show GW κ 4 52 7010 (wX q d iX0 aX0) 7 [(0, .ref b)] [.ref (q 0)]
  have hk : GC κ l D zt code 4 RL lw_tbl (tyX d) room_1 := hk'
  refine g_astore_n (lv' := [(1, .ref (q 0)), (0, .ref b)]) hk dL_law_7 (by decide) rfl ?_
  refine g_new (ci := 12) (fs := [.int 0, .null, .int 0, .null, .int 0, .null, .null, .null, .null, .null, .int 0, .int 0, .int 0, .int 0, .int 0, .int 0, .int 0, .int 0, .int 0, .int 0, .int 0, .int 0, .int 0, .int 0, .int 0, .null, .null, .null, .null, .null, .null, .null, .null, .null, .null, .null, .null, .int 0, .null, .null, .null, .int 0, .int 0, .int 0, .int 0, .null, .null, .int 0, .null, .null, .int 0, .null, .int 0, .null, .null]) hk inX12 tyX12 tyX12_ok zw_1355 zw_1356 zw_115 rfl (fun j hj => by rcases (show j = 0 ∨ j = 1 ∨ j = 2 ∨ j = 3 ∨ j = 4 ∨ j = 5 ∨ j = 6 ∨ j = 7 ∨ j = 8 ∨ j = 9 ∨ j = 10 ∨ j = 11 ∨ j = 12 ∨ j = 13 ∨ j = 14 ∨ j = 15 ∨ j = 16 ∨ j = 17 ∨ j = 18 ∨ j = 19 ∨ j = 20 ∨ j = 21 ∨ j = 22 ∨ j = 23 ∨ j = 24 ∨ j = 25 ∨ j = 26 ∨ j = 27 ∨ j = 28 ∨ j = 29 ∨ j = 30 ∨ j = 31 ∨ j = 32 ∨ j = 33 ∨ j = 34 ∨ j = 35 ∨ j = 36 ∨ j = 37 ∨ j = 38 ∨ j = 39 ∨ j = 40 ∨ j = 41 ∨ j = 42 ∨ j = 43 ∨ j = 44 ∨ j = 45 ∨ j = 46 ∨ j = 47 ∨ j = 48 ∨ j = 49 ∨ j = 50 ∨ j = 51 ∨ j = 52 ∨ j = 53 ∨ j = 54 by omega) with rfl | rfl | rfl | rfl | rfl | rfl | rfl | rfl | rfl | rfl | rfl | rfl | rfl | rfl | rfl | rfl | rfl | rfl | rfl | rfl | rfl | rfl | rfl | rfl | rfl | rfl | rfl | rfl | rfl | rfl | rfl | rfl | rfl | rfl | rfl | rfl | rfl | rfl | rfl | rfl | rfl | rfl | rfl | rfl | rfl | rfl | rfl | rfl | rfl | rfl | rfl | rfl | rfl | rfl | rfl <;> rfl) (Nat.le_of_ble_eq_true rfl) (Nat.le_of_ble_eq_true rfl) dL_law_8 (fun h1 => ?_)
  show GW κ 4 53 7065 (wX q d iX0 aX0 ++ [(h1, .inr (12, [.int 0, .null, .int 0, .null, .int 0, .null, .null, .null, .null, .null, .int 0, .int 0, .int 0, .int 0, .int 0, .int 0, .int 0, .int 0, .int 0, .int 0, .int 0, .int 0, .int 0, .int 0, .int 0, .null, .null, .null, .null, .null, .null, .null, .null, .null, .null, .null, .null, .int 0, .null, .null, .null, .int 0, .int 0, .int 0, .int 0, .null, .null, .int 0, .null, .null, .int 0, .null, .int 0, .null, .null]))]) 11 [(1, .ref (q 0)), (0, .ref b)] [.ref h1]
  refine g_dup hk dL_law_11 rfl ?_
  refine g_callI (n := 0) hk (m21_X12_init l D zt h1) (SP.suf (wX q d iX0 aX0) _) (fun _ h => absurd h List.not_mem_nil) (gi_sub zi_m21_X12_init zg_m21_X12_init) rfl rfl rfl zw_115 zw_1357 zw_1358 rfl (by decide +kernel) ⟨Nat.le_of_ble_eq_true rfl, Nat.le_of_ble_eq_true rfl⟩ rfl rfl (Nat.le_of_ble_eq_true rfl) ⟨Nat.le_of_ble_eq_true rfl, Nat.le_of_ble_eq_true rfl⟩ dL_law_12 (fun v ty' w' hp hk' => ?_)
  obtain ⟨r, g, hr0, rfl, rfl, rfl⟩ := hp
  subst hr0
  show GW κ 4 82 21282 (wX q d iX0 aX0 ++ wM r g iM1 aM1 lM1) 15 [(1, .ref (q 0)), (0, .ref b)] [.ref (r 0)]
  have hk : GC κ l D zt code 4 RL lw_tbl (tyX d ++ tyM g) room_1 := hk'
  refine g_astore_n (lv' := [(2, .ref (r 0)), (1, .ref (q 0)), (0, .ref b)]) hk dL_law_15 (by decide) rfl ?_
  refine g_iconst (v := 0) hk dL_law_16 (by decide) ?_
  refine g_istore_n (lv' := [(3, .int 0), (2, .ref (r 0)), (1, .ref (q 0)), (0, .ref b)]) hk dL_law_17 (by decide) rfl ?_
  exact law_loop hk hX hL hret 3073 0 iX0 aX0 iM1 aM1 lM1 (by decide) (by show (0 : Int) ≤ (L : Int); omega) (by show (L : Int) - 0 < _; omega) iv_X0 iv_M1 rt_0
