noncomputable def bX1_scan_21 (z1 : Int32) : (Int32 → (Nat → Int32) → (Nat → Nat → Int32) → (Int32 × (Nat → Int32) × (Nat → Nat → Int32))) → Int32 → (Nat → Int32) → (Nat → Nat → Int32) → (Int32 × (Nat → Int32) × (Nat → Nat → Int32)) := fun kk6815 x6651 I6654 A6654 => if 160 ≤ x6651.toInt then (0, I6654, A6654) else if (fX4_lengthOf_2 I6654 (up3 A6654 26 (x6651.toNatClampNeg) (-1)) z1).2 = 0 then if fX6_hasWindow I6654 (up3 A6654 26 (x6651.toNatClampNeg) (-1)) x6651 0 = 0 then f_lt (x6651 + Int32.ofInt 1) fun y6837 => kk6815 y6837 I6654 (up3 A6654 26 (x6651.toNatClampNeg) (-1)) else f_bdX (fX0_laySecondWindow I6654 (up3 A6654 26 (x6651.toNatClampNeg) (-1)) x6651) fun _ I6839 A6839 => f_bdX (fX2_wholeDistance I6839 A6839) fun y6840 I6841 A6841 => f_lt (x6651 + Int32.ofInt 1) fun y6842 => kk6815 y6842 I6841 (up3 A6841 26 (x6651.toNatClampNeg) y6840) else f_lt (fX4_lengthOf_2 I6654 (up3 A6654 26 (x6651.toNatClampNeg) (-1)) z1).1 fun y6826 => if fX6_hasWindow I6654 (up3 A6654 26 (x6651.toNatClampNeg) (-1)) x6651 y6826 = 0 then f_lt (x6651 + Int32.ofInt 1) fun y6851 => kk6815 y6851 I6654 (up3 A6654 26 (x6651.toNatClampNeg) (-1)) else f_bdX (fX0_laySecondWindow I6654 (up3 A6654 26 (x6651.toNatClampNeg) (-1)) x6651) fun _ I6853 A6853 => f_bdX (fX2_wholeDistance I6853 A6853) fun y6854 I6855 A6855 => f_lt (x6651 + Int32.ofInt 1) fun y6856 => kk6815 y6856 I6855 (up3 A6855 26 (x6651.toNatClampNeg) y6854)
noncomputable def fX1_scan (I : Nat → Int32) (A : Nat → Nat → Int32) (z1 : Int32) : Int32 × (Nat → Int32) × (Nat → Nat → Int32) := f_lt (fX7_valueOf_2 I A 0) fun y6648 => f_bdX (fX0_openQuery I A z1 y6648) fun _ I6650 A6650 => itr_iIA dfX (bX1_scan_21 z1) FU 0 I6650 A6650
def wo_k270_X1_scan : List Cond := [Cond.fieldLink RX1 28 "WarpDesk$Finder" "bench" "LWarpDesk$Bench;", Cond.fieldLink RX1 45 "WarpDesk$Bench" "settings" "LWarpDesk$Settings;", Cond.methodLink RX1 49 yX7_valueOf, Cond.instanceMethod yX7_valueOf, Cond.selects RX7 yX7_valueOf yX7_valueOf, Cond.initialized RX7, Cond.methodLink RX1 55 yX0_openQuery, Cond.instanceMethod yX0_openQuery, Cond.selects RX0 yX0_openQuery yX0_openQuery, Cond.initialized RX0, Cond.fieldLink RX1 15 "WarpDesk$Finder" "distances" "[I", Cond.fieldLink RX1 38 "WarpDesk$Finder" "series" "LWarpDesk$Series;", Cond.fieldLink RX1 43 "WarpDesk$Finder" "queries" "LWarpDesk$Queries;", Cond.methodLink RX1 65 yX4_lengthOf, Cond.instanceMethod yX4_lengthOf, Cond.selects RX4 yX4_lengthOf yX4_lengthOf, Cond.initialized RX4, Cond.methodLink RX1 70 yX6_hasWindow, Cond.instanceMethod yX6_hasWindow, Cond.selects RX6 yX6_hasWindow yX6_hasWindow, Cond.initialized RX6, Cond.methodLink RX1 74 yX0_laySecondWindow, Cond.instanceMethod yX0_laySecondWindow, Cond.selects RX0 yX0_laySecondWindow yX0_laySecondWindow, Cond.fieldLink RX1 78 "WarpDesk$Bench" "fit" "LWarpDesk$Fit;", Cond.methodLink RX1 113 yX2_wholeDistance, Cond.instanceMethod yX2_wholeDistance, Cond.selects RX2 yX2_wholeDistance yX2_wholeDistance, Cond.initialized RX2]
def wz_k270_X1_scan : List Cond := .code yX1_scan cX1_scan 3 none :: (wo_k270_X1_scan ++ (wsX00 ++ (wsX10 ++ (wz_k174_X7_valueOf ++ (wz_k224_X0_openQuery ++ (wz_k165_X4_lengthOf ++ (wz_k207_X6_hasWindow ++ (wz_k226_X0_laySecondWindow ++ (wz_k232_X2_wholeDistance ++ ([] : List Cond))))))))))
theorem zg_k270_X1_scan : ∀ w ∈ wz_k270_X1_scan, goodWord w = true := zg_cons rfl (zg_app (by decide +kernel) (zg_app zgU_wsX00 (zg_app zgU_wsX10 (zg_app zg_k174_X7_valueOf (zg_app zg_k224_X0_openQuery (zg_app zg_k165_X4_lengthOf (zg_app zg_k207_X6_hasWindow (zg_app zg_k226_X0_laySecondWindow (zg_app zg_k232_X2_wholeDistance zg_nil)))))))))
theorem zi_k270_X1_scan : ∀ w ∈ wz_k270_X1_scan, w ∈ lw_tbl := zi_cons zw_1154 (zi_app (zi_cons zw_402 (zi_cons zw_379 (zi_cons zw_1137 (zi_cons zw_786 (zi_cons zw_787 (zi_cons zw_107 (zi_cons zw_1121 (zi_cons zw_981 (zi_cons zw_982 (zi_cons zw_111 (zi_cons zw_411 (zi_cons zw_403 (zi_cons zw_404 (zi_cons zw_1102 (zi_cons zw_757 (zi_cons zw_758 (zi_cons zw_108 (zi_cons zw_1122 (zi_cons zw_902 (zi_cons zw_903 (zi_cons zw_109 (zi_cons zw_1123 (zi_cons zw_989 (zi_cons zw_990 (zi_cons zw_382 (zi_cons zw_1104 (zi_cons zw_993 (zi_cons zw_994 (zi_cons zw_112 zi_nil))))))))))))))))))))))))))))) (zi_app inX0 (zi_app inX1 (zi_app zi_k174_X7_valueOf (zi_app zi_k224_X0_openQuery (zi_app zi_k165_X4_lengthOf (zi_app zi_k207_X6_hasWindow (zi_app zi_k226_X0_laySecondWindow (zi_app zi_k232_X2_wholeDistance zi_nil)))))))))
set_option maxHeartbeats 4000000 in
set_option maxRecDepth 100000 in
theorem k270_X1_scan (l : Launch) (D : va_G) (zt : Nat × Nat × Nat × (Nat → Nat) × (Nat → Nat)) (q : Nat → Nat) (d : Nat → ClassId) (I : Nat → Int32) (A : Nat → Nat → Int32) (z1 : Int32) (hIv : IvX I A) : GM l D zt (tyX d) yX1_scan wz_k270_X1_scan ({ frames := 5, cells := 0, slots := 0, locals := 109 } : Room) [.ref (q 43), .int z1] (wX q d I A) (fun v _ w' => ∃ (I' : Nat → Int32) (A' : Nat → Nat → Int32), Md [28, 30, 31, 32, 33, 34] I I' ∧ Md [21, 22, 23, 26] A A' ∧ IvX I' A' ∧ FE (fX1_scan I A z1) (0, I', A') ∧ v = none ∧ w' = wX q d I' A') 0 0 := by
  refine GM.of (cc := cX1_scan) (maxL := 3) (ret := none) (own := RX1) (lv := [(0, .ref (q 43)), (1, .int z1)]) (by decide) rfl rfl (Nat.le_of_ble_eq_true rfl) rfl (fun κ sz hk hR hN => ?_)
  have hin0 : ∀ w ∈ u_ws RX0 TX0 5, w ∈ wz_k270_X1_scan := fun w h => (List.mem_cons_of_mem _ (List.mem_append_right _ (List.mem_append_left _ h)))
  have hin1 : ∀ w ∈ u_ws RX1 TX1 11, w ∈ wz_k270_X1_scan := fun w h => (List.mem_cons_of_mem _ (List.mem_append_right _ (List.mem_append_right _ (List.mem_append_left _ h))))
  have hF : FE (fX1_scan I A z1) (fX1_scan I A z1) := FE.rf
  refine g_aload_n hk dX1_scan_0 rfl ?_
  refine gX_r43_0 hk hin1 (List.mem_cons_of_mem _ (List.mem_append_left _ (List.mem_of_getElem? (i := 0) rfl))) dX1_scan_1 ?_
  refine g_iload_n hk dX1_scan_4 rfl ?_
  refine g_aload_n hk dX1_scan_5 rfl ?_
  refine gX_r43_0 hk hin1 (List.mem_cons_of_mem _ (List.mem_append_left _ (List.mem_of_getElem? (i := 0) rfl))) dX1_scan_6 ?_
  refine gX_r37_2 hk hin0 (List.mem_cons_of_mem _ (List.mem_append_left _ (List.mem_of_getElem? (i := 1) rfl))) dX1_scan_9 ?_
  refine g_iconst (v := 0) hk dX1_scan_12 (by decide) ?_
  have k6647 : (0 : Int32).toInt = 0 := rfl
  refine g_callV (n := 1) hk (k194_X7_valueOf l D zt q d I A 0 hIv) (SP.same _) (fun _ h => h) (gi_V (List.mem_cons_of_mem _ (List.mem_append_left _ (List.mem_of_getElem? (i := 2) rfl))) (List.mem_cons_of_mem _ (List.mem_append_left _ (List.mem_of_getElem? (i := 3) rfl))) (List.mem_cons_of_mem _ (List.mem_append_left _ (List.mem_of_getElem? (i := 4) rfl))) (List.mem_cons_of_mem _ (List.mem_append_left _ (List.mem_of_getElem? (i := 5) rfl))) (gi_sub (fun w h => (List.mem_cons_of_mem _ (List.mem_append_right _ (List.mem_append_right _ (List.mem_append_right _ (List.mem_append_left _ h)))))) zg_k174_X7_valueOf)) rfl rfl rfl (by decide +kernel) ⟨Nat.le_of_ble_eq_true rfl, Nat.le_of_ble_eq_true rfl⟩ 18 rfl rfl rfl rfl (Nat.le_of_ble_eq_true rfl) ⟨Nat.le_of_ble_eq_true rfl, Nat.le_of_ble_eq_true rfl⟩ dX1_scan_13 (fun v ty' w' hp hk' => ?_)
  obtain ⟨y6648, hC, rfl, rfl⟩ := hp
  replace hF := FE.lt hF (fe_s hC)
  show GW κ 3 0 0 (wX q d I A) 16 [(0, .ref (q 43)), (1, .int z1)] [.int y6648, .int z1, .ref (q 37)]
  refine g_callV (n := 2) hk (k224_X0_openQuery l D zt q d I A z1 y6648 hIv) (SP.same _) (fun _ h => h) (gi_V (List.mem_cons_of_mem _ (List.mem_append_left _ (List.mem_of_getElem? (i := 6) rfl))) (List.mem_cons_of_mem _ (List.mem_append_left _ (List.mem_of_getElem? (i := 7) rfl))) (List.mem_cons_of_mem _ (List.mem_append_left _ (List.mem_of_getElem? (i := 8) rfl))) (List.mem_cons_of_mem _ (List.mem_append_left _ (List.mem_of_getElem? (i := 9) rfl))) (gi_sub (fun w h => (List.mem_cons_of_mem _ (List.mem_append_right _ (List.mem_append_right _ (List.mem_append_right _ (List.mem_append_right _ (List.mem_append_left _ h))))))) zg_k224_X0_openQuery)) rfl rfl rfl (by decide +kernel) ⟨Nat.le_of_ble_eq_true rfl, Nat.le_of_ble_eq_true rfl⟩ 37 rfl rfl rfl rfl (Nat.le_of_ble_eq_true rfl) ⟨Nat.le_of_ble_eq_true rfl, Nat.le_of_ble_eq_true rfl⟩ dX1_scan_16 (fun v ty' w' hp hk' => ?_)
  obtain ⟨I6650, A6650, hI6650, hA6650, hV6650, hC, rfl, rfl⟩ := hp
  replace hF := FE.bdX hF hC
  show GW κ 3 0 0 (wX q d I6650 A6650) 19 [(0, .ref (q 43)), (1, .int z1)] []
  refine g_iconst (v := 0) hk dX1_scan_19 (by decide) ?_
  refine g_istore_n (lv' := [(2, .int 0), (0, .ref (q 43)), (1, .int z1)]) hk dX1_scan_20 (by decide) rfl ?_
  have lp6812 : ∀ (n6813 : Nat) (x6651 : Int32) (I6654 : Nat → Int32) (A6654 : Nat → Nat → Int32), (Md [33, 34] I6650 I6654) → (Md [22, 23, 26] A6650 A6654) → (IvX I6654 A6654) → (0 ≤ x6651.toInt) → (x6651.toInt ≤ 160) → (161 - x6651.toInt < (n6813 : Int)) → (0 < n6813) → (FE (fX1_scan I A z1) (itr_iIA dfX (bX1_scan_21 z1) n6813 x6651 I6654 A6654)) → GW κ 3 0 0 (wX q d I6654 A6654) 21 [(2, .int x6651), (0, .ref (q 43)), (1, .int z1)] [] := by
    intro n6813
    induction n6813 with
    | zero =>
      intro x6651 I6654 A6654 hI6654 hA6654 hV6654 h6810 h6811 m6814 m6814z hF
      exact absurd m6814z (Nat.lt_irrefl 0)
    | succ n6813 ih6816 =>
      intro x6651 I6654 A6654 hI6654 hA6654 hV6654 h6810 h6811 m6814 m6814z hF
      replace hF := FE.itr_iIA hF
      refine g_iload_n hk dX1_scan_21 rfl ?_
      refine g_sipush (v := 160) hk dX1_scan_22 (by decide) ?_
      refine g_icmp_ge (tgt := 84) (a := x6651.toInt) (b := 160) hk dX1_scan_25 (by decide) rfl rfl (fun c6817 => ?_) (fun c6817 => ?_)
      · skip
        replace hF := FE.pos hF c6817
        exact g_vret hk hR ⟨I6654, A6654, (show Md [28, 30, 31, 32, 33, 34] I I6654 from (Md.tr (Md.tr Md.rf hI6650 rfl) hI6654 rfl)), (show Md [21, 22, 23, 26] A A6654 from (Md.tr (Md.tr Md.rf hA6650 rfl) hA6654 rfl)), hV6654, hF, rfl, rfl⟩ dX1_scan_84
      · skip
        replace hF := FE.neg hF c6817
        refine g_aload_n hk dX1_scan_28 rfl ?_
        refine gX_r43_6 hk hin1 (List.mem_cons_of_mem _ (List.mem_append_left _ (List.mem_of_getElem? (i := 10) rfl))) dX1_scan_29 ?_
        refine g_iload_n hk dX1_scan_32 rfl ?_
        refine g_iconst (v := (-1)) hk dX1_scan_33 (by decide) ?_
        have k6818 : ((-1) : Int32).toInt = (-1) := rfl
        refine sX_26 (j := x6651.toNatClampNeg) hk (vp_in_iff.mpr ⟨by omega, by omega⟩) rfl dX1_scan_34 ?_
        refine g_aload_n hk dX1_scan_35 rfl ?_
        refine gX_r43_1 hk hin1 (List.mem_cons_of_mem _ (List.mem_append_left _ (List.mem_of_getElem? (i := 11) rfl))) dX1_scan_36 ?_
        refine g_iload_n hk dX1_scan_39 rfl ?_
        refine g_aload_n hk dX1_scan_40 rfl ?_
        refine gX_r43_2 hk hin1 (List.mem_cons_of_mem _ (List.mem_append_left _ (List.mem_of_getElem? (i := 12) rfl))) dX1_scan_41 ?_
        refine g_iload_n hk dX1_scan_44 rfl ?_
        refine g_callV (n := 1) hk (k182_X4_lengthOf l D zt q d I6654 (up3 A6654 26 (x6651.toNatClampNeg) (-1)) z1 ⟨(IvX_f0 (I := I6654) (A := A6654) hV6654), (IvX_f18 (I := I6654) (A := A6654) hV6654), (IvX_f30 (I := I6654) (A := A6654) hV6654), (IvX_f31 (I := I6654) (A := A6654) hV6654), (IvX_a4 (I := I6654) (A := A6654) hV6654), (IvX_a9 (I := I6654) (A := A6654) hV6654), trivial⟩) (SP.same _) (fun _ h => h) (gi_V (List.mem_cons_of_mem _ (List.mem_append_left _ (List.mem_of_getElem? (i := 13) rfl))) (List.mem_cons_of_mem _ (List.mem_append_left _ (List.mem_of_getElem? (i := 14) rfl))) (List.mem_cons_of_mem _ (List.mem_append_left _ (List.mem_of_getElem? (i := 15) rfl))) (List.mem_cons_of_mem _ (List.mem_append_left _ (List.mem_of_getElem? (i := 16) rfl))) (gi_sub (fun w h => (List.mem_cons_of_mem _ (List.mem_append_right _ (List.mem_append_right _ (List.mem_append_right _ (List.mem_append_right _ (List.mem_append_right _ (List.mem_append_left _ h)))))))) zg_k165_X4_lengthOf)) rfl rfl rfl (by decide +kernel) ⟨Nat.le_of_ble_eq_true rfl, Nat.le_of_ble_eq_true rfl⟩ 15 rfl rfl rfl rfl (Nat.le_of_ble_eq_true rfl) ⟨Nat.le_of_ble_eq_true rfl, Nat.le_of_ble_eq_true rfl⟩ dX1_scan_45 (fun v ty' w' hp hk' => ?_)
        rcases hp with ⟨hC, rfl, rfl⟩ | ⟨y6826, c6820, c6821, c6822, c6823, c6824, c6825, c6827, c6828, hC, rfl, rfl⟩
        · skip
          replace hF := FE.pos hF (fe_2 hC)
          show GW κ 3 0 0 (wX q d I6654 (up3 A6654 26 (x6651.toNatClampNeg) (-1))) 48 [(2, .int x6651), (0, .ref (q 43)), (1, .int z1)] [.int 0, .int x6651, .ref (q 13)]
          refine g_callV (n := 2) hk (k207_X6_hasWindow l D zt q d I6654 (up3 A6654 26 (x6651.toNatClampNeg) (-1)) x6651 0 ⟨(IvX_f0 (I := I6654) (A := A6654) hV6654), (IvX_f18 (I := I6654) (A := A6654) hV6654), (IvX_f30 (I := I6654) (A := A6654) hV6654), (IvX_f31 (I := I6654) (A := A6654) hV6654), (IvX_a4 (I := I6654) (A := A6654) hV6654), (IvX_a9 (I := I6654) (A := A6654) hV6654), trivial⟩) (SP.same _) (fun _ h => h) (gi_V (List.mem_cons_of_mem _ (List.mem_append_left _ (List.mem_of_getElem? (i := 17) rfl))) (List.mem_cons_of_mem _ (List.mem_append_left _ (List.mem_of_getElem? (i := 18) rfl))) (List.mem_cons_of_mem _ (List.mem_append_left _ (List.mem_of_getElem? (i := 19) rfl))) (List.mem_cons_of_mem _ (List.mem_append_left _ (List.mem_of_getElem? (i := 20) rfl))) (gi_sub (fun w h => (List.mem_cons_of_mem _ (List.mem_append_right _ (List.mem_append_right _ (List.mem_append_right _ (List.mem_append_right _ (List.mem_append_right _ (List.mem_append_right _ (List.mem_append_left _ h))))))))) zg_k207_X6_hasWindow)) rfl rfl rfl (by decide +kernel) ⟨Nat.le_of_ble_eq_true rfl, Nat.le_of_ble_eq_true rfl⟩ 13 rfl rfl rfl rfl (Nat.le_of_ble_eq_true rfl) ⟨Nat.le_of_ble_eq_true rfl, Nat.le_of_ble_eq_true rfl⟩ dX1_scan_48 (fun v ty' w' hp hk' => ?_)
          rcases hp with ⟨hC, rfl, rfl⟩ | ⟨c6830, c6831, c6832, c6833, c6834, c6835, hC, rfl, rfl⟩
          · skip
            replace hF := FE.pos hF hC
            show GW κ 3 0 0 (wX q d I6654 (up3 A6654 26 (x6651.toNatClampNeg) (-1))) 51 [(2, .int x6651), (0, .ref (q 43)), (1, .int z1)] [.int 0]
            refine g_if_eq (tgt := 78) (a := 0) hk dX1_scan_51 (by decide) rfl (fun _ => ?_) (fun z9 => absurd (show (0 : Int) = (0 : Int) from by decide) z9)
            obtain ⟨y6837, ey6837⟩ : ∃ y : Int32, y = x6651 + Int32.ofInt 1 := ⟨_, rfl⟩
            replace hF := FE.lt hF ey6837
            have hy6837 : y6837.toInt = x6651.toInt + 1 := i32_add ey6837 rfl (by decide) (by omega) (by omega)
            refine g_iinc (v := y6837) (lv' := [(2, .int y6837), (0, .ref (q 43)), (1, .int z1)]) hk 0 dX1_scan_78 rfl ey6837.symm (by decide) rfl ?_
            refine g_goto (tgt := 21) hk dX1_scan_81 (by decide) ?_
            exact g_lv (List.forall_mem_cons.mpr ⟨List.mem_of_getElem? (i := 0) rfl, (List.forall_mem_cons.mpr ⟨List.mem_of_getElem? (i := 1) rfl, (List.forall_mem_cons.mpr ⟨List.mem_of_getElem? (i := 2) rfl, (fun _ h => absurd h List.not_mem_nil)⟩)⟩)⟩) (ih6816 y6837 I6654 (up3 A6654 26 (x6651.toNatClampNeg) (-1)) (show Md [33, 34] I6650 I6654 from Md.tr hI6654 (show Md [33, 34] I6654 I6654 from Md.rf) rfl) (show Md [22, 23, 26] A6650 (up3 A6654 26 (x6651.toNatClampNeg) (-1)) from Md.tr hA6654 (show Md [22, 23, 26] A6654 (up3 A6654 26 (x6651.toNatClampNeg) (-1)) from (Md.up3 Md.rf rfl)) rfl) ⟨(IvX_f0 (I := I6654) (A := A6654) hV6654), (IvX_f18 (I := I6654) (A := A6654) hV6654), (IvX_f30 (I := I6654) (A := A6654) hV6654), (IvX_f31 (I := I6654) (A := A6654) hV6654), (IvX_a4 (I := I6654) (A := A6654) hV6654), (IvX_a9 (I := I6654) (A := A6654) hV6654), trivial⟩ (by omega) (by omega) (by omega) (by omega) hF)
          · skip
            replace hF := FE.neg hF (fe_ne hC (by decide))
            show GW κ 3 0 0 (wX q d I6654 (up3 A6654 26 (x6651.toNatClampNeg) (-1))) 51 [(2, .int x6651), (0, .ref (q 43)), (1, .int z1)] [.int 1]
            refine g_if_eq (tgt := 78) (a := 1) hk dX1_scan_51 (by decide) rfl (fun z9 => absurd z9 (show ¬ ((1 : Int) = (0 : Int)) from by decide)) (fun _ => ?_)
            refine g_aload_n hk dX1_scan_54 rfl ?_
            refine gX_r43_0 hk hin1 (List.mem_cons_of_mem _ (List.mem_append_left _ (List.mem_of_getElem? (i := 0) rfl))) dX1_scan_55 ?_
            refine g_iload_n hk dX1_scan_58 rfl ?_
            refine g_callV (n := 1) hk (k226_X0_laySecondWindow l D zt q d I6654 (up3 A6654 26 (x6651.toNatClampNeg) (-1)) x6651 ⟨(IvX_f0 (I := I6654) (A := A6654) hV6654), (IvX_f18 (I := I6654) (A := A6654) hV6654), (IvX_f30 (I := I6654) (A := A6654) hV6654), (IvX_f31 (I := I6654) (A := A6654) hV6654), (IvX_a4 (I := I6654) (A := A6654) hV6654), (IvX_a9 (I := I6654) (A := A6654) hV6654), trivial⟩) (SP.same _) (fun _ h => h) (gi_V (List.mem_cons_of_mem _ (List.mem_append_left _ (List.mem_of_getElem? (i := 21) rfl))) (List.mem_cons_of_mem _ (List.mem_append_left _ (List.mem_of_getElem? (i := 22) rfl))) (List.mem_cons_of_mem _ (List.mem_append_left _ (List.mem_of_getElem? (i := 23) rfl))) (List.mem_cons_of_mem _ (List.mem_append_left _ (List.mem_of_getElem? (i := 9) rfl))) (gi_sub (fun w h => (List.mem_cons_of_mem _ (List.mem_append_right _ (List.mem_append_right _ (List.mem_append_right _ (List.mem_append_right _ (List.mem_append_right _ (List.mem_append_right _ (List.mem_append_right _ (List.mem_append_left _ h)))))))))) zg_k226_X0_laySecondWindow)) rfl rfl rfl (by decide +kernel) ⟨Nat.le_of_ble_eq_true rfl, Nat.le_of_ble_eq_true rfl⟩ 37 rfl rfl rfl rfl (Nat.le_of_ble_eq_true rfl) ⟨Nat.le_of_ble_eq_true rfl, Nat.le_of_ble_eq_true rfl⟩ dX1_scan_59 (fun v ty' w' hp hk' => ?_)
            obtain ⟨I6839, A6839, hI6839, hA6839, hV6839, hC, rfl, rfl⟩ := hp
            replace hF := FE.bdX hF hC
            show GW κ 3 0 0 (wX q d I6839 A6839) 62 [(2, .int x6651), (0, .ref (q 43)), (1, .int z1)] []
            refine g_aload_n hk dX1_scan_62 rfl ?_
            refine gX_r43_6 hk hin1 (List.mem_cons_of_mem _ (List.mem_append_left _ (List.mem_of_getElem? (i := 10) rfl))) dX1_scan_63 ?_
            refine g_iload_n hk dX1_scan_66 rfl ?_
            refine g_aload_n hk dX1_scan_67 rfl ?_
            refine gX_r43_0 hk hin1 (List.mem_cons_of_mem _ (List.mem_append_left _ (List.mem_of_getElem? (i := 0) rfl))) dX1_scan_68 ?_
            refine gX_r37_3 hk hin0 (List.mem_cons_of_mem _ (List.mem_append_left _ (List.mem_of_getElem? (i := 24) rfl))) dX1_scan_71 ?_
            refine g_callV (n := 0) hk (k232_X2_wholeDistance l D zt q d I6839 A6839  hV6839) (SP.same _) (fun _ h => h) (gi_V (List.mem_cons_of_mem _ (List.mem_append_left _ (List.mem_of_getElem? (i := 25) rfl))) (List.mem_cons_of_mem _ (List.mem_append_left _ (List.mem_of_getElem? (i := 26) rfl))) (List.mem_cons_of_mem _ (List.mem_append_left _ (List.mem_of_getElem? (i := 27) rfl))) (List.mem_cons_of_mem _ (List.mem_append_left _ (List.mem_of_getElem? (i := 28) rfl))) (gi_sub (fun w h => (List.mem_cons_of_mem _ (List.mem_append_right _ (List.mem_append_right _ (List.mem_append_right _ (List.mem_append_right _ (List.mem_append_right _ (List.mem_append_right _ (List.mem_append_right _ (List.mem_append_right _ (List.mem_append_left _ h))))))))))) zg_k232_X2_wholeDistance)) rfl rfl rfl (by decide +kernel) ⟨Nat.le_of_ble_eq_true rfl, Nat.le_of_ble_eq_true rfl⟩ 38 rfl rfl rfl rfl (Nat.le_of_ble_eq_true rfl) ⟨Nat.le_of_ble_eq_true rfl, Nat.le_of_ble_eq_true rfl⟩ dX1_scan_74 (fun v ty' w' hp hk' => ?_)
            obtain ⟨I6841, A6841, hI6841, hA6841, hV6841, y6840, hC, rfl, rfl⟩ := hp
            replace hF := FE.bdX hF hC
            show GW κ 3 0 0 (wX q d I6841 A6841) 77 [(2, .int x6651), (0, .ref (q 43)), (1, .int z1)] [.int y6840, .int x6651, .ref (q 45)]
            refine sX_26 (j := x6651.toNatClampNeg) hk (vp_in_iff.mpr ⟨by omega, by omega⟩) rfl dX1_scan_77 ?_
            obtain ⟨y6842, ey6842⟩ : ∃ y : Int32, y = x6651 + Int32.ofInt 1 := ⟨_, rfl⟩
            replace hF := FE.lt hF ey6842
            have hy6842 : y6842.toInt = x6651.toInt + 1 := i32_add ey6842 rfl (by decide) (by omega) (by omega)
            refine g_iinc (v := y6842) (lv' := [(2, .int y6842), (0, .ref (q 43)), (1, .int z1)]) hk 0 dX1_scan_78 rfl ey6842.symm (by decide) rfl ?_
            refine g_goto (tgt := 21) hk dX1_scan_81 (by decide) ?_
            exact g_lv (List.forall_mem_cons.mpr ⟨List.mem_of_getElem? (i := 0) rfl, (List.forall_mem_cons.mpr ⟨List.mem_of_getElem? (i := 1) rfl, (List.forall_mem_cons.mpr ⟨List.mem_of_getElem? (i := 2) rfl, (fun _ h => absurd h List.not_mem_nil)⟩)⟩)⟩) (ih6816 y6842 I6841 (up3 A6841 26 (x6651.toNatClampNeg) y6840) (show Md [33, 34] I6650 I6841 from Md.tr hI6654 (show Md [33, 34] I6654 I6841 from (Md.tr (Md.tr Md.rf hI6839 rfl) hI6841 rfl)) rfl) (show Md [22, 23, 26] A6650 (up3 A6841 26 (x6651.toNatClampNeg) y6840) from Md.tr hA6654 (show Md [22, 23, 26] A6654 (up3 A6841 26 (x6651.toNatClampNeg) y6840) from (Md.up3 (Md.tr (Md.tr (Md.up3 Md.rf rfl) hA6839 rfl) hA6841 rfl) rfl)) rfl) ⟨(IvX_f0 (I := I6841) (A := A6841) hV6841), (IvX_f18 (I := I6841) (A := A6841) hV6841), (IvX_f30 (I := I6841) (A := A6841) hV6841), (IvX_f31 (I := I6841) (A := A6841) hV6841), (IvX_a4 (I := I6841) (A := A6841) hV6841), (IvX_a9 (I := I6841) (A := A6841) hV6841), trivial⟩ (by omega) (by omega) (by omega) (by omega) hF)
        · skip
          replace hF := FE.neg hF (fe_ne2 hC (by decide))
          replace hF := FE.lt hF (fe_1 hC)
          show GW κ 3 0 0 (wX q d I6654 (up3 A6654 26 (x6651.toNatClampNeg) (-1))) 48 [(2, .int x6651), (0, .ref (q 43)), (1, .int z1)] [.int y6826, .int x6651, .ref (q 13)]
          refine g_callV (n := 2) hk (k207_X6_hasWindow l D zt q d I6654 (up3 A6654 26 (x6651.toNatClampNeg) (-1)) x6651 y6826 ⟨(IvX_f0 (I := I6654) (A := A6654) hV6654), (IvX_f18 (I := I6654) (A := A6654) hV6654), (IvX_f30 (I := I6654) (A := A6654) hV6654), (IvX_f31 (I := I6654) (A := A6654) hV6654), (IvX_a4 (I := I6654) (A := A6654) hV6654), (IvX_a9 (I := I6654) (A := A6654) hV6654), trivial⟩) (SP.same _) (fun _ h => h) (gi_V (List.mem_cons_of_mem _ (List.mem_append_left _ (List.mem_of_getElem? (i := 17) rfl))) (List.mem_cons_of_mem _ (List.mem_append_left _ (List.mem_of_getElem? (i := 18) rfl))) (List.mem_cons_of_mem _ (List.mem_append_left _ (List.mem_of_getElem? (i := 19) rfl))) (List.mem_cons_of_mem _ (List.mem_append_left _ (List.mem_of_getElem? (i := 20) rfl))) (gi_sub (fun w h => (List.mem_cons_of_mem _ (List.mem_append_right _ (List.mem_append_right _ (List.mem_append_right _ (List.mem_append_right _ (List.mem_append_right _ (List.mem_append_right _ (List.mem_append_left _ h))))))))) zg_k207_X6_hasWindow)) rfl rfl rfl (by decide +kernel) ⟨Nat.le_of_ble_eq_true rfl, Nat.le_of_ble_eq_true rfl⟩ 13 rfl rfl rfl rfl (Nat.le_of_ble_eq_true rfl) ⟨Nat.le_of_ble_eq_true rfl, Nat.le_of_ble_eq_true rfl⟩ dX1_scan_48 (fun v ty' w' hp hk' => ?_)
          rcases hp with ⟨hC, rfl, rfl⟩ | ⟨c6844, c6845, c6846, c6847, c6848, c6849, hC, rfl, rfl⟩
          · skip
            replace hF := FE.pos hF hC
            show GW κ 3 0 0 (wX q d I6654 (up3 A6654 26 (x6651.toNatClampNeg) (-1))) 51 [(2, .int x6651), (0, .ref (q 43)), (1, .int z1)] [.int 0]
            refine g_if_eq (tgt := 78) (a := 0) hk dX1_scan_51 (by decide) rfl (fun _ => ?_) (fun z9 => absurd (show (0 : Int) = (0 : Int) from by decide) z9)
            obtain ⟨y6851, ey6851⟩ : ∃ y : Int32, y = x6651 + Int32.ofInt 1 := ⟨_, rfl⟩
            replace hF := FE.lt hF ey6851
            have hy6851 : y6851.toInt = x6651.toInt + 1 := i32_add ey6851 rfl (by decide) (by omega) (by omega)
            refine g_iinc (v := y6851) (lv' := [(2, .int y6851), (0, .ref (q 43)), (1, .int z1)]) hk 0 dX1_scan_78 rfl ey6851.symm (by decide) rfl ?_
            refine g_goto (tgt := 21) hk dX1_scan_81 (by decide) ?_
            exact g_lv (List.forall_mem_cons.mpr ⟨List.mem_of_getElem? (i := 0) rfl, (List.forall_mem_cons.mpr ⟨List.mem_of_getElem? (i := 1) rfl, (List.forall_mem_cons.mpr ⟨List.mem_of_getElem? (i := 2) rfl, (fun _ h => absurd h List.not_mem_nil)⟩)⟩)⟩) (ih6816 y6851 I6654 (up3 A6654 26 (x6651.toNatClampNeg) (-1)) (show Md [33, 34] I6650 I6654 from Md.tr hI6654 (show Md [33, 34] I6654 I6654 from Md.rf) rfl) (show Md [22, 23, 26] A6650 (up3 A6654 26 (x6651.toNatClampNeg) (-1)) from Md.tr hA6654 (show Md [22, 23, 26] A6654 (up3 A6654 26 (x6651.toNatClampNeg) (-1)) from (Md.up3 Md.rf rfl)) rfl) ⟨(IvX_f0 (I := I6654) (A := A6654) hV6654), (IvX_f18 (I := I6654) (A := A6654) hV6654), (IvX_f30 (I := I6654) (A := A6654) hV6654), (IvX_f31 (I := I6654) (A := A6654) hV6654), (IvX_a4 (I := I6654) (A := A6654) hV6654), (IvX_a9 (I := I6654) (A := A6654) hV6654), trivial⟩ (by omega) (by omega) (by omega) (by omega) hF)
          · skip
            replace hF := FE.neg hF (fe_ne hC (by decide))
            show GW κ 3 0 0 (wX q d I6654 (up3 A6654 26 (x6651.toNatClampNeg) (-1))) 51 [(2, .int x6651), (0, .ref (q 43)), (1, .int z1)] [.int 1]
            refine g_if_eq (tgt := 78) (a := 1) hk dX1_scan_51 (by decide) rfl (fun z9 => absurd z9 (show ¬ ((1 : Int) = (0 : Int)) from by decide)) (fun _ => ?_)
            refine g_aload_n hk dX1_scan_54 rfl ?_
            refine gX_r43_0 hk hin1 (List.mem_cons_of_mem _ (List.mem_append_left _ (List.mem_of_getElem? (i := 0) rfl))) dX1_scan_55 ?_
            refine g_iload_n hk dX1_scan_58 rfl ?_
            refine g_callV (n := 1) hk (k226_X0_laySecondWindow l D zt q d I6654 (up3 A6654 26 (x6651.toNatClampNeg) (-1)) x6651 ⟨(IvX_f0 (I := I6654) (A := A6654) hV6654), (IvX_f18 (I := I6654) (A := A6654) hV6654), (IvX_f30 (I := I6654) (A := A6654) hV6654), (IvX_f31 (I := I6654) (A := A6654) hV6654), (IvX_a4 (I := I6654) (A := A6654) hV6654), (IvX_a9 (I := I6654) (A := A6654) hV6654), trivial⟩) (SP.same _) (fun _ h => h) (gi_V (List.mem_cons_of_mem _ (List.mem_append_left _ (List.mem_of_getElem? (i := 21) rfl))) (List.mem_cons_of_mem _ (List.mem_append_left _ (List.mem_of_getElem? (i := 22) rfl))) (List.mem_cons_of_mem _ (List.mem_append_left _ (List.mem_of_getElem? (i := 23) rfl))) (List.mem_cons_of_mem _ (List.mem_append_left _ (List.mem_of_getElem? (i := 9) rfl))) (gi_sub (fun w h => (List.mem_cons_of_mem _ (List.mem_append_right _ (List.mem_append_right _ (List.mem_append_right _ (List.mem_append_right _ (List.mem_append_right _ (List.mem_append_right _ (List.mem_append_right _ (List.mem_append_left _ h)))))))))) zg_k226_X0_laySecondWindow)) rfl rfl rfl (by decide +kernel) ⟨Nat.le_of_ble_eq_true rfl, Nat.le_of_ble_eq_true rfl⟩ 37 rfl rfl rfl rfl (Nat.le_of_ble_eq_true rfl) ⟨Nat.le_of_ble_eq_true rfl, Nat.le_of_ble_eq_true rfl⟩ dX1_scan_59 (fun v ty' w' hp hk' => ?_)
            obtain ⟨I6853, A6853, hI6853, hA6853, hV6853, hC, rfl, rfl⟩ := hp
            replace hF := FE.bdX hF hC
            show GW κ 3 0 0 (wX q d I6853 A6853) 62 [(2, .int x6651), (0, .ref (q 43)), (1, .int z1)] []
            refine g_aload_n hk dX1_scan_62 rfl ?_
            refine gX_r43_6 hk hin1 (List.mem_cons_of_mem _ (List.mem_append_left _ (List.mem_of_getElem? (i := 10) rfl))) dX1_scan_63 ?_
            refine g_iload_n hk dX1_scan_66 rfl ?_
            refine g_aload_n hk dX1_scan_67 rfl ?_
            refine gX_r43_0 hk hin1 (List.mem_cons_of_mem _ (List.mem_append_left _ (List.mem_of_getElem? (i := 0) rfl))) dX1_scan_68 ?_
            refine gX_r37_3 hk hin0 (List.mem_cons_of_mem _ (List.mem_append_left _ (List.mem_of_getElem? (i := 24) rfl))) dX1_scan_71 ?_
            refine g_callV (n := 0) hk (k232_X2_wholeDistance l D zt q d I6853 A6853  hV6853) (SP.same _) (fun _ h => h) (gi_V (List.mem_cons_of_mem _ (List.mem_append_left _ (List.mem_of_getElem? (i := 25) rfl))) (List.mem_cons_of_mem _ (List.mem_append_left _ (List.mem_of_getElem? (i := 26) rfl))) (List.mem_cons_of_mem _ (List.mem_append_left _ (List.mem_of_getElem? (i := 27) rfl))) (List.mem_cons_of_mem _ (List.mem_append_left _ (List.mem_of_getElem? (i := 28) rfl))) (gi_sub (fun w h => (List.mem_cons_of_mem _ (List.mem_append_right _ (List.mem_append_right _ (List.mem_append_right _ (List.mem_append_right _ (List.mem_append_right _ (List.mem_append_right _ (List.mem_append_right _ (List.mem_append_right _ (List.mem_append_left _ h))))))))))) zg_k232_X2_wholeDistance)) rfl rfl rfl (by decide +kernel) ⟨Nat.le_of_ble_eq_true rfl, Nat.le_of_ble_eq_true rfl⟩ 38 rfl rfl rfl rfl (Nat.le_of_ble_eq_true rfl) ⟨Nat.le_of_ble_eq_true rfl, Nat.le_of_ble_eq_true rfl⟩ dX1_scan_74 (fun v ty' w' hp hk' => ?_)
            obtain ⟨I6855, A6855, hI6855, hA6855, hV6855, y6854, hC, rfl, rfl⟩ := hp
            replace hF := FE.bdX hF hC
            show GW κ 3 0 0 (wX q d I6855 A6855) 77 [(2, .int x6651), (0, .ref (q 43)), (1, .int z1)] [.int y6854, .int x6651, .ref (q 45)]
            refine sX_26 (j := x6651.toNatClampNeg) hk (vp_in_iff.mpr ⟨by omega, by omega⟩) rfl dX1_scan_77 ?_
            obtain ⟨y6856, ey6856⟩ : ∃ y : Int32, y = x6651 + Int32.ofInt 1 := ⟨_, rfl⟩
            replace hF := FE.lt hF ey6856
            have hy6856 : y6856.toInt = x6651.toInt + 1 := i32_add ey6856 rfl (by decide) (by omega) (by omega)
            refine g_iinc (v := y6856) (lv' := [(2, .int y6856), (0, .ref (q 43)), (1, .int z1)]) hk 0 dX1_scan_78 rfl ey6856.symm (by decide) rfl ?_
            refine g_goto (tgt := 21) hk dX1_scan_81 (by decide) ?_
            exact g_lv (List.forall_mem_cons.mpr ⟨List.mem_of_getElem? (i := 0) rfl, (List.forall_mem_cons.mpr ⟨List.mem_of_getElem? (i := 1) rfl, (List.forall_mem_cons.mpr ⟨List.mem_of_getElem? (i := 2) rfl, (fun _ h => absurd h List.not_mem_nil)⟩)⟩)⟩) (ih6816 y6856 I6855 (up3 A6855 26 (x6651.toNatClampNeg) y6854) (show Md [33, 34] I6650 I6855 from Md.tr hI6654 (show Md [33, 34] I6654 I6855 from (Md.tr (Md.tr Md.rf hI6853 rfl) hI6855 rfl)) rfl) (show Md [22, 23, 26] A6650 (up3 A6855 26 (x6651.toNatClampNeg) y6854) from Md.tr hA6654 (show Md [22, 23, 26] A6654 (up3 A6855 26 (x6651.toNatClampNeg) y6854) from (Md.up3 (Md.tr (Md.tr (Md.up3 Md.rf rfl) hA6853 rfl) hA6855 rfl) rfl)) rfl) ⟨(IvX_f0 (I := I6855) (A := A6855) hV6855), (IvX_f18 (I := I6855) (A := A6855) hV6855), (IvX_f30 (I := I6855) (A := A6855) hV6855), (IvX_f31 (I := I6855) (A := A6855) hV6855), (IvX_a4 (I := I6855) (A := A6855) hV6855), (IvX_a9 (I := I6855) (A := A6855) hV6855), trivial⟩ (by omega) (by omega) (by omega) (by omega) hF)
  have n6857a : 161 - 0 < (FU : Int) := by have := FU_eq; omega
  have n6857b : 0 < FU := by have := FU_eq; omega
  exact lp6812 FU 0 I6650 A6650 Md.rf Md.rf hV6650 (by omega) (by omega) n6857a n6857b hF
noncomputable def bX1_leastScanned_4 (I : Nat → Int32) (A : Nat → Nat → Int32) : (Int32 → Int32 → (Int32)) → Int32 → Int32 → (Int32) := fun kk6914 x6860 x6861 => if 160 ≤ x6860.toInt then x6861 else if (A 26 x6860.toNatClampNeg).toInt < 0 then f_lt (x6860 + Int32.ofInt 1) fun y6919 => kk6914 y6919 x6861 else if x6861.toInt < 0 then f_lt (x6860 + Int32.ofInt 1) fun y6921 => kk6914 y6921 x6860 else if (A 26 x6861.toNatClampNeg).toInt ≤ (A 26 x6860.toNatClampNeg).toInt then f_lt (x6860 + Int32.ofInt 1) fun y6924 => kk6914 y6924 x6861 else f_lt (x6860 + Int32.ofInt 1) fun y6925 => kk6914 y6925 x6860
noncomputable def fX1_leastScanned (I : Nat → Int32) (A : Nat → Nat → Int32) : Int32 := itr_ii (0 : Int32) (bX1_leastScanned_4 I A) FU 0 (-1)
def wo_k271_X1_leastScanned : List Cond := [Cond.fieldLink RX1 15 "WarpDesk$Finder" "distances" "[I"]
def wz_k271_X1_leastScanned : List Cond := .code yX1_leastScanned cX1_leastScanned 3 (some .int) :: (wo_k271_X1_leastScanned ++ (wsX10 ++ ([] : List Cond)))
theorem zg_k271_X1_leastScanned : ∀ w ∈ wz_k271_X1_leastScanned, goodWord w = true := zg_cons rfl (zg_app (by decide +kernel) (zg_app zgU_wsX10 zg_nil))
theorem zi_k271_X1_leastScanned : ∀ w ∈ wz_k271_X1_leastScanned, w ∈ lw_tbl := zi_cons zw_1158 (zi_app (zi_cons zw_411 zi_nil) (zi_app inX1 zi_nil))
set_option maxHeartbeats 4000000 in
set_option maxRecDepth 100000 in
theorem k271_X1_leastScanned (l : Launch) (D : va_G) (zt : Nat × Nat × Nat × (Nat → Nat) × (Nat → Nat)) (q : Nat → Nat) (d : Nat → ClassId) (I : Nat → Int32) (A : Nat → Nat → Int32) (hIv : IvX I A) : GM l D zt (tyX d) yX1_leastScanned wz_k271_X1_leastScanned ({ frames := 0, cells := 0, slots := 0, locals := 0 } : Room) [.ref (q 43)] (wX q d I A) (fun v _ w' => ∃ y0 : Int32, ((-1) ≤ y0.toInt) ∧ (y0.toInt ≤ 159) ∧ FE (fX1_leastScanned I A) y0 ∧ v = some (.int y0) ∧ w' = wX q d I A) 0 0 := by
  refine GM.of (cc := cX1_leastScanned) (maxL := 3) (ret := (some .int)) (own := RX1) (lv := [(0, .ref (q 43))]) (by decide) rfl rfl (Nat.le_of_ble_eq_true rfl) rfl (fun κ sz hk hR hN => ?_)
  have hin1 : ∀ w ∈ u_ws RX1 TX1 11, w ∈ wz_k271_X1_leastScanned := fun w h => (List.mem_cons_of_mem _ (List.mem_append_right _ (List.mem_append_left _ h)))
  have hF : FE (fX1_leastScanned I A) (fX1_leastScanned I A) := FE.rf
  refine g_iconst (v := (-1)) hk dX1_leastScanned_0 (by decide) ?_
  refine g_istore_n (lv' := [(1, .int (-1)), (0, .ref (q 43))]) hk dX1_leastScanned_1 (by decide) rfl ?_
  refine g_iconst (v := 0) hk dX1_leastScanned_2 (by decide) ?_
  refine g_istore_n (lv' := [(2, .int 0), (1, .int (-1)), (0, .ref (q 43))]) hk dX1_leastScanned_3 (by decide) rfl ?_
  have lp6911 : ∀ (n6912 : Nat) (x6860 : Int32) (x6861 : Int32), (0 ≤ x6860.toInt) → (x6860.toInt ≤ 160) → ((-1) ≤ x6861.toInt) → (x6861.toInt ≤ 159) → (161 - x6860.toInt < (n6912 : Int)) → (0 < n6912) → (FE (fX1_leastScanned I A) (itr_ii (0 : Int32) (bX1_leastScanned_4 I A) n6912 x6860 x6861)) → GW κ 3 0 0 (wX q d I A) 4 [(2, .int x6860), (1, .int x6861), (0, .ref (q 43))] [] := by
    intro n6912
    induction n6912 with
    | zero =>
      intro x6860 x6861 h6907 h6908 h6909 h6910 m6913 m6913z hF
      exact absurd m6913z (Nat.lt_irrefl 0)
    | succ n6912 ih6915 =>
      intro x6860 x6861 h6907 h6908 h6909 h6910 m6913 m6913z hF
      replace hF := FE.itr_ii hF
      refine g_iload_n hk dX1_leastScanned_4 rfl ?_
      refine g_sipush (v := 160) hk dX1_leastScanned_5 (by decide) ?_
      refine g_icmp_ge (tgt := 47) (a := x6860.toInt) (b := 160) hk dX1_leastScanned_8 (by decide) rfl rfl (fun c6916 => ?_) (fun c6916 => ?_)
      · skip
        replace hF := FE.pos hF c6916
        refine g_iload_n hk dX1_leastScanned_47 rfl ?_
        exact g_iret hk hR rfl ⟨x6861, (by omega), (by omega), hF, rfl, rfl⟩ dX1_leastScanned_48
      · skip
        replace hF := FE.neg hF c6916
        refine g_aload_n hk dX1_leastScanned_11 rfl ?_
        refine gX_r43_6 hk hin1 (List.mem_cons_of_mem _ (List.mem_append_left _ (List.mem_of_getElem? (i := 0) rfl))) dX1_leastScanned_12 ?_
        refine g_iload_n hk dX1_leastScanned_15 rfl ?_
        refine lX_26 (v := (A 26 x6860.toNatClampNeg)) hk (vp_in_iff.mpr ⟨by omega, by omega⟩) rfl dX1_leastScanned_16 ?_
        have b6917l := Int32.le_toInt (A 26 x6860.toNatClampNeg)
        have b6917h := Int32.toInt_lt (A 26 x6860.toNatClampNeg)
        refine g_if_lt (tgt := 41) (a := (A 26 x6860.toNatClampNeg).toInt) hk dX1_leastScanned_17 (by decide) rfl (fun c6918 => ?_) (fun c6918 => ?_)
        · skip
          replace hF := FE.pos hF c6918
          obtain ⟨y6919, ey6919⟩ : ∃ y : Int32, y = x6860 + Int32.ofInt 1 := ⟨_, rfl⟩
          replace hF := FE.lt hF ey6919
          have hy6919 : y6919.toInt = x6860.toInt + 1 := i32_add ey6919 rfl (by decide) (by omega) (by omega)
          refine g_iinc (v := y6919) (lv' := [(2, .int y6919), (1, .int x6861), (0, .ref (q 43))]) hk 0 dX1_leastScanned_41 rfl ey6919.symm (by decide) rfl ?_
          refine g_goto (tgt := 4) hk dX1_leastScanned_44 (by decide) ?_
          exact g_lv (List.forall_mem_cons.mpr ⟨List.mem_of_getElem? (i := 0) rfl, (List.forall_mem_cons.mpr ⟨List.mem_of_getElem? (i := 1) rfl, (List.forall_mem_cons.mpr ⟨List.mem_of_getElem? (i := 2) rfl, (fun _ h => absurd h List.not_mem_nil)⟩)⟩)⟩) (ih6915 y6919 x6861 (by omega) (by omega) (by omega) (by omega) (by omega) (by omega) hF)
        · skip
          replace hF := FE.neg hF c6918
          refine g_iload_n hk dX1_leastScanned_20 rfl ?_
          refine g_if_lt (tgt := 39) (a := x6861.toInt) hk dX1_leastScanned_21 (by decide) rfl (fun c6920 => ?_) (fun c6920 => ?_)
          · skip
            replace hF := FE.pos hF c6920
            refine g_iload_n hk dX1_leastScanned_39 rfl ?_
            refine g_istore_n (lv' := [(1, .int x6860), (2, .int x6860), (0, .ref (q 43))]) hk dX1_leastScanned_40 (by decide) rfl ?_
            obtain ⟨y6921, ey6921⟩ : ∃ y : Int32, y = x6860 + Int32.ofInt 1 := ⟨_, rfl⟩
            replace hF := FE.lt hF ey6921
            have hy6921 : y6921.toInt = x6860.toInt + 1 := i32_add ey6921 rfl (by decide) (by omega) (by omega)
            refine g_iinc (v := y6921) (lv' := [(2, .int y6921), (1, .int x6860), (0, .ref (q 43))]) hk 1 dX1_leastScanned_41 rfl ey6921.symm (by decide) rfl ?_
            refine g_goto (tgt := 4) hk dX1_leastScanned_44 (by decide) ?_
            exact g_lv (List.forall_mem_cons.mpr ⟨List.mem_of_getElem? (i := 0) rfl, (List.forall_mem_cons.mpr ⟨List.mem_of_getElem? (i := 1) rfl, (List.forall_mem_cons.mpr ⟨List.mem_of_getElem? (i := 2) rfl, (fun _ h => absurd h List.not_mem_nil)⟩)⟩)⟩) (ih6915 y6921 x6860 (by omega) (by omega) (by omega) (by omega) (by omega) (by omega) hF)
          · skip
            replace hF := FE.neg hF c6920
            refine g_aload_n hk dX1_leastScanned_24 rfl ?_
            refine gX_r43_6 hk hin1 (List.mem_cons_of_mem _ (List.mem_append_left _ (List.mem_of_getElem? (i := 0) rfl))) dX1_leastScanned_25 ?_
            refine g_iload_n hk dX1_leastScanned_28 rfl ?_
            refine lX_26 (v := (A 26 x6860.toNatClampNeg)) hk (vp_in_iff.mpr ⟨by omega, by omega⟩) rfl dX1_leastScanned_29 ?_
            refine g_aload_n hk dX1_leastScanned_30 rfl ?_
            refine gX_r43_6 hk hin1 (List.mem_cons_of_mem _ (List.mem_append_left _ (List.mem_of_getElem? (i := 0) rfl))) dX1_leastScanned_31 ?_
            refine g_iload_n hk dX1_leastScanned_34 rfl ?_
            refine lX_26 (v := (A 26 x6861.toNatClampNeg)) hk (vp_in_iff.mpr ⟨by omega, by omega⟩) rfl dX1_leastScanned_35 ?_
            have b6922l := Int32.le_toInt (A 26 x6861.toNatClampNeg)
            have b6922h := Int32.toInt_lt (A 26 x6861.toNatClampNeg)
            refine g_icmp_ge (tgt := 41) (a := (A 26 x6860.toNatClampNeg).toInt) (b := (A 26 x6861.toNatClampNeg).toInt) hk dX1_leastScanned_36 (by decide) rfl rfl (fun c6923 => ?_) (fun c6923 => ?_)
            · skip
              replace hF := FE.pos hF c6923
              obtain ⟨y6924, ey6924⟩ : ∃ y : Int32, y = x6860 + Int32.ofInt 1 := ⟨_, rfl⟩
              replace hF := FE.lt hF ey6924
              have hy6924 : y6924.toInt = x6860.toInt + 1 := i32_add ey6924 rfl (by decide) (by omega) (by omega)
              refine g_iinc (v := y6924) (lv' := [(2, .int y6924), (1, .int x6861), (0, .ref (q 43))]) hk 0 dX1_leastScanned_41 rfl ey6924.symm (by decide) rfl ?_
              refine g_goto (tgt := 4) hk dX1_leastScanned_44 (by decide) ?_
              exact g_lv (List.forall_mem_cons.mpr ⟨List.mem_of_getElem? (i := 0) rfl, (List.forall_mem_cons.mpr ⟨List.mem_of_getElem? (i := 1) rfl, (List.forall_mem_cons.mpr ⟨List.mem_of_getElem? (i := 2) rfl, (fun _ h => absurd h List.not_mem_nil)⟩)⟩)⟩) (ih6915 y6924 x6861 (by omega) (by omega) (by omega) (by omega) (by omega) (by omega) hF)
            · skip
              replace hF := FE.neg hF c6923
              refine g_iload_n hk dX1_leastScanned_39 rfl ?_
              refine g_istore_n (lv' := [(1, .int x6860), (2, .int x6860), (0, .ref (q 43))]) hk dX1_leastScanned_40 (by decide) rfl ?_
              obtain ⟨y6925, ey6925⟩ : ∃ y : Int32, y = x6860 + Int32.ofInt 1 := ⟨_, rfl⟩
              replace hF := FE.lt hF ey6925
              have hy6925 : y6925.toInt = x6860.toInt + 1 := i32_add ey6925 rfl (by decide) (by omega) (by omega)
              refine g_iinc (v := y6925) (lv' := [(2, .int y6925), (1, .int x6860), (0, .ref (q 43))]) hk 1 dX1_leastScanned_41 rfl ey6925.symm (by decide) rfl ?_
              refine g_goto (tgt := 4) hk dX1_leastScanned_44 (by decide) ?_
              exact g_lv (List.forall_mem_cons.mpr ⟨List.mem_of_getElem? (i := 0) rfl, (List.forall_mem_cons.mpr ⟨List.mem_of_getElem? (i := 1) rfl, (List.forall_mem_cons.mpr ⟨List.mem_of_getElem? (i := 2) rfl, (fun _ h => absurd h List.not_mem_nil)⟩)⟩)⟩) (ih6915 y6925 x6860 (by omega) (by omega) (by omega) (by omega) (by omega) (by omega) hF)
  have k6927 : (0 : Int32).toInt = 0 := rfl
  have k6928 : ((-1) : Int32).toInt = (-1) := rfl
  have n6926a : 161 - 0 < (FU : Int) := by have := FU_eq; omega
  have n6926b : 0 < FU := by have := FU_eq; omega
  exact lp6911 FU 0 (-1) (by omega) (by omega) (by omega) (by omega) n6926a n6926b hF
noncomputable def bX1_passOverAround_14 (z1 : Int32) (y6939 : Int32) : (Int32 → (Nat → Int32) → (Nat → Nat → Int32) → (Int32 × (Nat → Int32) × (Nat → Nat → Int32))) → Int32 → (Nat → Int32) → (Nat → Nat → Int32) → (Int32 × (Nat → Int32) × (Nat → Nat → Int32)) := fun kk6991 x6940 I6944 A6944 => if 160 ≤ x6940.toInt then (0, I6944, A6944) else f_lt (x6940 - z1) fun y6995 => f_lt (if 0 ≤ y6995 then y6995 else 0 - y6995) fun y6997 => if y6939.toInt ≤ y6997.toInt then f_lt (x6940 + Int32.ofInt 1) fun y7001 => kk6991 y7001 I6944 A6944 else f_lt (x6940 + Int32.ofInt 1) fun y7003 => kk6991 y7003 I6944 (up3 A6944 26 (x6940.toNatClampNeg) (-1))
noncomputable def fX1_passOverAround (I : Nat → Int32) (A : Nat → Nat → Int32) (z1 : Int32) : Int32 × (Nat → Int32) × (Nat → Nat → Int32) := f_lt (fX7_valueOf_2 I A 3) fun y6939 => itr_iIA dfX (bX1_passOverAround_14 z1 y6939) FU 0 I A
def wo_k272_X1_passOverAround : List Cond := [Cond.fieldLink RX1 28 "WarpDesk$Finder" "bench" "LWarpDesk$Bench;", Cond.fieldLink RX1 45 "WarpDesk$Bench" "settings" "LWarpDesk$Settings;", Cond.methodLink RX1 49 yX7_valueOf, Cond.instanceMethod yX7_valueOf, Cond.selects RX7 yX7_valueOf yX7_valueOf, Cond.initialized RX7, Cond.methodLink RX1 128 Lib.Math.abs.name, Cond.static Lib.Math.abs.name, Cond.initialized "java/lang/Math", Cond.code Lib.Math.abs.name Lib.Math.abs.code 1 (some .int), Cond.fieldLink RX1 15 "WarpDesk$Finder" "distances" "[I"]
def wz_k272_X1_passOverAround : List Cond := .code yX1_passOverAround cX1_passOverAround 4 none :: (wo_k272_X1_passOverAround ++ (wsX00 ++ (wsX10 ++ (wz_k174_X7_valueOf ++ ([] : List Cond)))))
theorem zg_k272_X1_passOverAround : ∀ w ∈ wz_k272_X1_passOverAround, goodWord w = true := zg_cons rfl (zg_app (by decide +kernel) (zg_app zgU_wsX00 (zg_app zgU_wsX10 (zg_app zg_k174_X7_valueOf zg_nil))))
theorem zi_k272_X1_passOverAround : ∀ w ∈ wz_k272_X1_passOverAround, w ∈ lw_tbl := zi_cons zw_1162 (zi_app (zi_cons zw_402 (zi_cons zw_379 (zi_cons zw_1137 (zi_cons zw_786 (zi_cons zw_787 (zi_cons zw_107 (zi_cons zw_1163 (zi_cons zw_1076 (zi_cons zw_120 (zi_cons zw_1077 (zi_cons zw_411 zi_nil))))))))))) (zi_app inX0 (zi_app inX1 (zi_app zi_k174_X7_valueOf zi_nil))))
set_option maxHeartbeats 4000000 in
set_option maxRecDepth 100000 in
theorem k272_X1_passOverAround (l : Launch) (D : va_G) (zt : Nat × Nat × Nat × (Nat → Nat) × (Nat → Nat)) (q : Nat → Nat) (d : Nat → ClassId) (I : Nat → Int32) (A : Nat → Nat → Int32) (z1 : Int32) (hIv : IvX I A) : GM l D zt (tyX d) yX1_passOverAround wz_k272_X1_passOverAround ({ frames := 1, cells := 0, slots := 0, locals := 21 } : Room) [.ref (q 43), .int z1] (wX q d I A) (fun v _ w' => ∃ (I' : Nat → Int32) (A' : Nat → Nat → Int32), Md [] I I' ∧ Md [26] A A' ∧ IvX I' A' ∧ FE (fX1_passOverAround I A z1) (0, I', A') ∧ v = none ∧ w' = wX q d I' A') 0 0 := by
  refine GM.of (cc := cX1_passOverAround) (maxL := 4) (ret := none) (own := RX1) (lv := [(0, .ref (q 43)), (1, .int z1)]) (by decide) rfl rfl (Nat.le_of_ble_eq_true rfl) rfl (fun κ sz hk hR hN => ?_)
  have hin0 : ∀ w ∈ u_ws RX0 TX0 5, w ∈ wz_k272_X1_passOverAround := fun w h => (List.mem_cons_of_mem _ (List.mem_append_right _ (List.mem_append_left _ h)))
  have hin1 : ∀ w ∈ u_ws RX1 TX1 11, w ∈ wz_k272_X1_passOverAround := fun w h => (List.mem_cons_of_mem _ (List.mem_append_right _ (List.mem_append_right _ (List.mem_append_left _ h))))
  have hF : FE (fX1_passOverAround I A z1) (fX1_passOverAround I A z1) := FE.rf
  refine g_aload_n hk dX1_passOverAround_0 rfl ?_
  refine gX_r43_0 hk hin1 (List.mem_cons_of_mem _ (List.mem_append_left _ (List.mem_of_getElem? (i := 0) rfl))) dX1_passOverAround_1 ?_
  refine gX_r37_2 hk hin0 (List.mem_cons_of_mem _ (List.mem_append_left _ (List.mem_of_getElem? (i := 1) rfl))) dX1_passOverAround_4 ?_
  refine g_iconst (v := 3) hk dX1_passOverAround_7 (by decide) ?_
  have k6938 : (3 : Int32).toInt = 3 := rfl
  refine g_callV (n := 1) hk (k194_X7_valueOf l D zt q d I A 3 hIv) (SP.same _) (fun _ h => h) (gi_V (List.mem_cons_of_mem _ (List.mem_append_left _ (List.mem_of_getElem? (i := 2) rfl))) (List.mem_cons_of_mem _ (List.mem_append_left _ (List.mem_of_getElem? (i := 3) rfl))) (List.mem_cons_of_mem _ (List.mem_append_left _ (List.mem_of_getElem? (i := 4) rfl))) (List.mem_cons_of_mem _ (List.mem_append_left _ (List.mem_of_getElem? (i := 5) rfl))) (gi_sub (fun w h => (List.mem_cons_of_mem _ (List.mem_append_right _ (List.mem_append_right _ (List.mem_append_right _ (List.mem_append_left _ h)))))) zg_k174_X7_valueOf)) rfl rfl rfl (by decide +kernel) ⟨Nat.le_of_ble_eq_true rfl, Nat.le_of_ble_eq_true rfl⟩ 18 rfl rfl rfl rfl (Nat.le_of_ble_eq_true rfl) ⟨Nat.le_of_ble_eq_true rfl, Nat.le_of_ble_eq_true rfl⟩ dX1_passOverAround_8 (fun v ty' w' hp hk' => ?_)
  obtain ⟨y6939, hC, rfl, rfl⟩ := hp
  replace hF := FE.lt hF (fe_s hC)
  show GW κ 4 0 0 (wX q d I A) 11 [(0, .ref (q 43)), (1, .int z1)] [.int y6939]
  refine g_istore_n (lv' := [(2, .int y6939), (0, .ref (q 43)), (1, .int z1)]) hk dX1_passOverAround_11 (by decide) rfl ?_
  refine g_iconst (v := 0) hk dX1_passOverAround_12 (by decide) ?_
  refine g_istore_n (lv' := [(3, .int 0), (2, .int y6939), (0, .ref (q 43)), (1, .int z1)]) hk dX1_passOverAround_13 (by decide) rfl ?_
  have lp6988 : ∀ (n6989 : Nat) (x6940 : Int32) (I6944 : Nat → Int32) (A6944 : Nat → Nat → Int32), (Md [] I I6944) → (Md [26] A A6944) → (IvX I6944 A6944) → (0 ≤ x6940.toInt) → (x6940.toInt ≤ 160) → (161 - x6940.toInt < (n6989 : Int)) → (0 < n6989) → (FE (fX1_passOverAround I A z1) (itr_iIA dfX (bX1_passOverAround_14 z1 y6939) n6989 x6940 I6944 A6944)) → GW κ 4 0 0 (wX q d I6944 A6944) 14 [(3, .int x6940), (2, .int y6939), (0, .ref (q 43)), (1, .int z1)] [] := by
    intro n6989
    induction n6989 with
    | zero =>
      intro x6940 I6944 A6944 hI6944 hA6944 hV6944 h6986 h6987 m6990 m6990z hF
      exact absurd m6990z (Nat.lt_irrefl 0)
    | succ n6989 ih6992 =>
      intro x6940 I6944 A6944 hI6944 hA6944 hV6944 h6986 h6987 m6990 m6990z hF
      replace hF := FE.itr_iIA hF
      refine g_iload_n hk dX1_passOverAround_14 rfl ?_
      refine g_sipush (v := 160) hk dX1_passOverAround_15 (by decide) ?_
      refine g_icmp_ge (tgt := 44) (a := x6940.toInt) (b := 160) hk dX1_passOverAround_18 (by decide) rfl rfl (fun c6993 => ?_) (fun c6993 => ?_)
      · skip
        replace hF := FE.pos hF c6993
        exact g_vret hk hR ⟨I6944, A6944, (show Md [] I I6944 from (Md.tr Md.rf hI6944 rfl)), (show Md [26] A A6944 from (Md.tr Md.rf hA6944 rfl)), hV6944, hF, rfl, rfl⟩ dX1_passOverAround_44
      · skip
        replace hF := FE.neg hF c6993
        refine g_iload_n hk dX1_passOverAround_21 rfl ?_
        refine g_iload_n hk dX1_passOverAround_22 rfl ?_
        have b6994l := Int32.le_toInt z1
        have b6994h := Int32.toInt_lt z1
        refine g_isub hk dX1_passOverAround_23 ?_
        refine g_topi (fun y6995 ey6995 => ?_)
        replace hF := FE.lt hF ey6995
        have hy6995 := i32_sub0 ey6995
        have b6996l := Int32.le_toInt y6995
        have b6996h := Int32.toInt_lt y6995
        refine g_mabs hk (List.mem_cons_of_mem _ (List.mem_append_left _ (List.mem_of_getElem? (i := 6) rfl))) (List.mem_cons_of_mem _ (List.mem_append_left _ (List.mem_of_getElem? (i := 7) rfl))) (List.mem_cons_of_mem _ (List.mem_append_left _ (List.mem_of_getElem? (i := 8) rfl))) (List.mem_cons_of_mem _ (List.mem_append_left _ (List.mem_of_getElem? (i := 9) rfl))) (Nat.le_of_ble_eq_true rfl) (Nat.le_of_ble_eq_true rfl) (Nat.le_of_ble_eq_true rfl) (Nat.le_of_ble_eq_true rfl) dX1_passOverAround_24 ?_
        refine g_topi (fun y6997 ey6997 => ?_)
        replace hF := FE.lt hF ey6997
        refine g_iload_n hk dX1_passOverAround_27 rfl ?_
        have b6998l := Int32.le_toInt y6997
        have b6998h := Int32.toInt_lt y6997
        have b6999l := Int32.le_toInt y6939
        have b6999h := Int32.toInt_lt y6939
        refine g_icmp_ge (tgt := 38) (a := y6997.toInt) (b := y6939.toInt) hk dX1_passOverAround_28 (by decide) rfl rfl (fun c7000 => ?_) (fun c7000 => ?_)
        · skip
          replace hF := FE.pos hF c7000
          obtain ⟨y7001, ey7001⟩ : ∃ y : Int32, y = x6940 + Int32.ofInt 1 := ⟨_, rfl⟩
          replace hF := FE.lt hF ey7001
          have hy7001 : y7001.toInt = x6940.toInt + 1 := i32_add ey7001 rfl (by decide) (by omega) (by omega)
          refine g_iinc (v := y7001) (lv' := [(3, .int y7001), (2, .int y6939), (0, .ref (q 43)), (1, .int z1)]) hk 0 dX1_passOverAround_38 rfl ey7001.symm (by decide) rfl ?_
          refine g_goto (tgt := 14) hk dX1_passOverAround_41 (by decide) ?_
          exact g_lv (List.forall_mem_cons.mpr ⟨List.mem_of_getElem? (i := 0) rfl, (List.forall_mem_cons.mpr ⟨List.mem_of_getElem? (i := 1) rfl, (List.forall_mem_cons.mpr ⟨List.mem_of_getElem? (i := 2) rfl, (List.forall_mem_cons.mpr ⟨List.mem_of_getElem? (i := 3) rfl, (fun _ h => absurd h List.not_mem_nil)⟩)⟩)⟩)⟩) (ih6992 y7001 I6944 A6944 (show Md [] I I6944 from Md.tr hI6944 (show Md [] I6944 I6944 from Md.rf) rfl) (show Md [26] A A6944 from Md.tr hA6944 (show Md [26] A6944 A6944 from Md.rf) rfl) hV6944 (by omega) (by omega) (by omega) (by omega) hF)
        · skip
          replace hF := FE.neg hF c7000
          refine g_aload_n hk dX1_passOverAround_31 rfl ?_
          refine gX_r43_6 hk hin1 (List.mem_cons_of_mem _ (List.mem_append_left _ (List.mem_of_getElem? (i := 10) rfl))) dX1_passOverAround_32 ?_
          refine g_iload_n hk dX1_passOverAround_35 rfl ?_
          refine g_iconst (v := (-1)) hk dX1_passOverAround_36 (by decide) ?_
          have k7002 : ((-1) : Int32).toInt = (-1) := rfl
          refine sX_26 (j := x6940.toNatClampNeg) hk (vp_in_iff.mpr ⟨by omega, by omega⟩) rfl dX1_passOverAround_37 ?_
          obtain ⟨y7003, ey7003⟩ : ∃ y : Int32, y = x6940 + Int32.ofInt 1 := ⟨_, rfl⟩
          replace hF := FE.lt hF ey7003
          have hy7003 : y7003.toInt = x6940.toInt + 1 := i32_add ey7003 rfl (by decide) (by omega) (by omega)
          refine g_iinc (v := y7003) (lv' := [(3, .int y7003), (2, .int y6939), (0, .ref (q 43)), (1, .int z1)]) hk 0 dX1_passOverAround_38 rfl ey7003.symm (by decide) rfl ?_
          refine g_goto (tgt := 14) hk dX1_passOverAround_41 (by decide) ?_
          exact g_lv (List.forall_mem_cons.mpr ⟨List.mem_of_getElem? (i := 0) rfl, (List.forall_mem_cons.mpr ⟨List.mem_of_getElem? (i := 1) rfl, (List.forall_mem_cons.mpr ⟨List.mem_of_getElem? (i := 2) rfl, (List.forall_mem_cons.mpr ⟨List.mem_of_getElem? (i := 3) rfl, (fun _ h => absurd h List.not_mem_nil)⟩)⟩)⟩)⟩) (ih6992 y7003 I6944 (up3 A6944 26 (x6940.toNatClampNeg) (-1)) (show Md [] I I6944 from Md.tr hI6944 (show Md [] I6944 I6944 from Md.rf) rfl) (show Md [26] A (up3 A6944 26 (x6940.toNatClampNeg) (-1)) from Md.tr hA6944 (show Md [26] A6944 (up3 A6944 26 (x6940.toNatClampNeg) (-1)) from (Md.up3 Md.rf rfl)) rfl) ⟨(IvX_f0 (I := I6944) (A := A6944) hV6944), (IvX_f18 (I := I6944) (A := A6944) hV6944), (IvX_f30 (I := I6944) (A := A6944) hV6944), (IvX_f31 (I := I6944) (A := A6944) hV6944), (IvX_a4 (I := I6944) (A := A6944) hV6944), (IvX_a9 (I := I6944) (A := A6944) hV6944), trivial⟩ (by omega) (by omega) (by omega) (by omega) hF)
  have k7005 : (0 : Int32).toInt = 0 := rfl
  have n7004a : 161 - 0 < (FU : Int) := by have := FU_eq; omega
  have n7004b : 0 < FU := by have := FU_eq; omega
  exact lp6988 FU 0 I A Md.rf Md.rf hIv (by omega) (by omega) n7004a n7004b hF
noncomputable def bX1_findMatches_17 : (Int32 → Int32 → (Nat → Int32) → (Nat → Nat → Int32) → (Int32 × (Nat → Int32) × (Nat → Nat → Int32))) → Int32 → Int32 → (Nat → Int32) → (Nat → Nat → Int32) → (Int32 × (Nat → Int32) × (Nat → Nat → Int32)) := fun kk7045 x6932 x6933 I6936 A6936 => if 160 ≤ x6932.toInt then (0, I6936, A6936) else if x6933.toInt < 0 then (0, I6936, A6936) else f_lt (x6932 + (1 : Int32)) fun y7049 => f_bdX (fX1_passOverAround (upd I6936 37 y7049) (up3 (up3 A6936 27 (x6932.toNatClampNeg) x6933) 28 (x6932.toNatClampNeg) (A6936 26 x6933.toNatClampNeg)) x6933) fun _ I7051 A7051 => f_lt (fX1_leastScanned I7051 A7051) fun y7052 => f_lt (x6932 + Int32.ofInt 1) fun y7055 => kk7045 y7055 y7052 I7051 A7051
noncomputable def fX1_findMatches (I : Nat → Int32) (A : Nat → Nat → Int32) (z1 : Int32) : Int32 × (Nat → Int32) × (Nat → Nat → Int32) := f_bdX (fX1_scan I A z1) fun _ I6859 A6859 => f_lt (fX1_leastScanned (upd I6859 37 0) A6859) fun y6929 => itr_iiIA dfX (bX1_findMatches_17) FU 0 y6929 (upd I6859 37 0) A6859
def wo_k269_X1_findMatches : List Cond := [Cond.methodLink RX1 116 yX1_scan, Cond.instanceMethod yX1_scan, Cond.selects RX1 yX1_scan yX1_scan, Cond.initialized RX1, Cond.fieldLink RX1 119 "WarpDesk$Finder" "matches" "I", Cond.methodLink RX1 122 yX1_leastScanned, Cond.instanceMethod yX1_leastScanned, Cond.selects RX1 yX1_leastScanned yX1_leastScanned, Cond.fieldLink RX1 18 "WarpDesk$Finder" "matchWindows" "[I", Cond.fieldLink RX1 21 "WarpDesk$Finder" "matchDistances" "[I", Cond.fieldLink RX1 15 "WarpDesk$Finder" "distances" "[I", Cond.methodLink RX1 125 yX1_passOverAround, Cond.instanceMethod yX1_passOverAround, Cond.selects RX1 yX1_passOverAround yX1_passOverAround]
def wz_k269_X1_findMatches : List Cond := .code yX1_findMatches cX1_findMatches 4 none :: (wo_k269_X1_findMatches ++ (wsX10 ++ (wz_k270_X1_scan ++ (wz_k271_X1_leastScanned ++ (wz_k272_X1_passOverAround ++ ([] : List Cond))))))
theorem zg_k269_X1_findMatches : ∀ w ∈ wz_k269_X1_findMatches, goodWord w = true := zg_cons rfl (zg_app (by decide +kernel) (zg_app zgU_wsX10 (zg_app zg_k270_X1_scan (zg_app zg_k271_X1_leastScanned (zg_app zg_k272_X1_passOverAround zg_nil)))))
theorem zi_k269_X1_findMatches : ∀ w ∈ wz_k269_X1_findMatches, w ∈ lw_tbl := zi_cons zw_1150 (zi_app (zi_cons zw_1151 (zi_cons zw_1152 (zi_cons zw_1153 (zi_cons zw_113 (zi_cons zw_414 (zi_cons zw_1155 (zi_cons zw_1157 (zi_cons zw_36 (zi_cons zw_412 (zi_cons zw_413 (zi_cons zw_411 (zi_cons zw_1159 (zi_cons zw_1161 (zi_cons zw_37 zi_nil)))))))))))))) (zi_app inX1 (zi_app zi_k270_X1_scan (zi_app zi_k271_X1_leastScanned (zi_app zi_k272_X1_passOverAround zi_nil)))))
set_option maxHeartbeats 4000000 in
set_option maxRecDepth 100000 in
theorem k269_X1_findMatches (l : Launch) (D : va_G) (zt : Nat × Nat × Nat × (Nat → Nat) × (Nat → Nat)) (q : Nat → Nat) (d : Nat → ClassId) (I : Nat → Int32) (A : Nat → Nat → Int32) (z1 : Int32) (hIv : IvX I A) : GM l D zt (tyX d) yX1_findMatches wz_k269_X1_findMatches ({ frames := 6, cells := 0, slots := 0, locals := 131 } : Room) [.ref (q 43), .int z1] (wX q d I A) (fun v _ w' => ∃ (I' : Nat → Int32) (A' : Nat → Nat → Int32), Md [28, 30, 31, 32, 33, 34, 37] I I' ∧ Md [21, 22, 23, 26, 27, 28] A A' ∧ IvX I' A' ∧ FE (fX1_findMatches I A z1) (0, I', A') ∧ v = none ∧ w' = wX q d I' A') 0 0 := by
  refine GM.of (cc := cX1_findMatches) (maxL := 4) (ret := none) (own := RX1) (lv := [(0, .ref (q 43)), (1, .int z1)]) (by decide) rfl rfl (Nat.le_of_ble_eq_true rfl) rfl (fun κ sz hk hR hN => ?_)
  have hin1 : ∀ w ∈ u_ws RX1 TX1 11, w ∈ wz_k269_X1_findMatches := fun w h => (List.mem_cons_of_mem _ (List.mem_append_right _ (List.mem_append_left _ h)))
  have hF : FE (fX1_findMatches I A z1) (fX1_findMatches I A z1) := FE.rf
  refine g_aload_n hk dX1_findMatches_0 rfl ?_
  refine g_iload_n hk dX1_findMatches_1 rfl ?_
  refine g_callV (n := 1) hk (k270_X1_scan l D zt q d I A z1 hIv) (SP.same _) (fun _ h => h) (gi_V (List.mem_cons_of_mem _ (List.mem_append_left _ (List.mem_of_getElem? (i := 0) rfl))) (List.mem_cons_of_mem _ (List.mem_append_left _ (List.mem_of_getElem? (i := 1) rfl))) (List.mem_cons_of_mem _ (List.mem_append_left _ (List.mem_of_getElem? (i := 2) rfl))) (List.mem_cons_of_mem _ (List.mem_append_left _ (List.mem_of_getElem? (i := 3) rfl))) (gi_sub (fun w h => (List.mem_cons_of_mem _ (List.mem_append_right _ (List.mem_append_right _ (List.mem_append_left _ h))))) zg_k270_X1_scan)) rfl rfl rfl (by decide +kernel) ⟨Nat.le_of_ble_eq_true rfl, Nat.le_of_ble_eq_true rfl⟩ 43 rfl rfl rfl rfl (Nat.le_of_ble_eq_true rfl) ⟨Nat.le_of_ble_eq_true rfl, Nat.le_of_ble_eq_true rfl⟩ dX1_findMatches_2 (fun v ty' w' hp hk' => ?_)
  obtain ⟨I6859, A6859, hI6859, hA6859, hV6859, hC, rfl, rfl⟩ := hp
  replace hF := FE.bdX hF hC
  show GW κ 4 0 0 (wX q d I6859 A6859) 5 [(0, .ref (q 43)), (1, .int z1)] []
  refine g_aload_n hk dX1_findMatches_5 rfl ?_
  refine g_iconst (v := 0) hk dX1_findMatches_6 (by decide) ?_
  refine pX_i37 hk hin1 (List.mem_cons_of_mem _ (List.mem_append_left _ (List.mem_of_getElem? (i := 4) rfl))) dX1_findMatches_7 ?_
  refine g_aload_n hk dX1_findMatches_10 rfl ?_
  refine g_callV (n := 0) hk (k271_X1_leastScanned l D zt q d (upd I6859 37 0) A6859  ⟨(IvX_f0 (I := I6859) (A := A6859) hV6859), (IvX_f18 (I := I6859) (A := A6859) hV6859), (IvX_f30 (I := I6859) (A := A6859) hV6859), (IvX_f31 (I := I6859) (A := A6859) hV6859), (IvX_a4 (I := I6859) (A := A6859) hV6859), (IvX_a9 (I := I6859) (A := A6859) hV6859), trivial⟩) (SP.same _) (fun _ h => h) (gi_V (List.mem_cons_of_mem _ (List.mem_append_left _ (List.mem_of_getElem? (i := 5) rfl))) (List.mem_cons_of_mem _ (List.mem_append_left _ (List.mem_of_getElem? (i := 6) rfl))) (List.mem_cons_of_mem _ (List.mem_append_left _ (List.mem_of_getElem? (i := 7) rfl))) (List.mem_cons_of_mem _ (List.mem_append_left _ (List.mem_of_getElem? (i := 3) rfl))) (gi_sub (fun w h => (List.mem_cons_of_mem _ (List.mem_append_right _ (List.mem_append_right _ (List.mem_append_right _ (List.mem_append_left _ h)))))) zg_k271_X1_leastScanned)) rfl rfl rfl (by decide +kernel) ⟨Nat.le_of_ble_eq_true rfl, Nat.le_of_ble_eq_true rfl⟩ 43 rfl rfl rfl rfl (Nat.le_of_ble_eq_true rfl) ⟨Nat.le_of_ble_eq_true rfl, Nat.le_of_ble_eq_true rfl⟩ dX1_findMatches_11 (fun v ty' w' hp hk' => ?_)
  obtain ⟨y6929, c6930, c6931, hC, rfl, rfl⟩ := hp
  replace hF := FE.lt hF (fe_s hC)
  show GW κ 4 0 0 (wX q d (upd I6859 37 0) A6859) 14 [(0, .ref (q 43)), (1, .int z1)] [.int y6929]
  refine g_istore_n (lv' := [(2, .int y6929), (0, .ref (q 43)), (1, .int z1)]) hk dX1_findMatches_14 (by decide) rfl ?_
  refine g_iconst (v := 0) hk dX1_findMatches_15 (by decide) ?_
  refine g_istore_n (lv' := [(3, .int 0), (2, .int y6929), (0, .ref (q 43)), (1, .int z1)]) hk dX1_findMatches_16 (by decide) rfl ?_
  have lp7042 : ∀ (n7043 : Nat) (x6932 : Int32) (x6933 : Int32) (I6936 : Nat → Int32) (A6936 : Nat → Nat → Int32), (Md [37] (upd I6859 37 0) I6936) → (Md [26, 27, 28] A6859 A6936) → (IvX I6936 A6936) → (0 ≤ x6932.toInt) → (x6932.toInt ≤ 160) → ((-1) ≤ x6933.toInt) → (x6933.toInt ≤ 159) → (161 - x6932.toInt < (n7043 : Int)) → (0 < n7043) → (FE (fX1_findMatches I A z1) (itr_iiIA dfX (bX1_findMatches_17) n7043 x6932 x6933 I6936 A6936)) → GW κ 4 0 0 (wX q d I6936 A6936) 17 [(3, .int x6932), (2, .int x6933), (0, .ref (q 43)), (1, .int z1)] [] := by
    intro n7043
    induction n7043 with
    | zero =>
      intro x6932 x6933 I6936 A6936 hI6936 hA6936 hV6936 h7038 h7039 h7040 h7041 m7044 m7044z hF
      exact absurd m7044z (Nat.lt_irrefl 0)
    | succ n7043 ih7046 =>
      intro x6932 x6933 I6936 A6936 hI6936 hA6936 hV6936 h7038 h7039 h7040 h7041 m7044 m7044z hF
      replace hF := FE.itr_iiIA hF
      refine g_iload_n hk dX1_findMatches_17 rfl ?_
      refine g_sipush (v := 160) hk dX1_findMatches_18 (by decide) ?_
      refine g_icmp_ge (tgt := 70) (a := x6932.toInt) (b := 160) hk dX1_findMatches_21 (by decide) rfl rfl (fun c7047 => ?_) (fun c7047 => ?_)
      · skip
        replace hF := FE.pos hF c7047
        exact g_vret hk hR ⟨I6936, A6936, (show Md [28, 30, 31, 32, 33, 34, 37] I I6936 from (Md.tr (Md.up (Md.tr Md.rf hI6859 rfl) rfl) hI6936 rfl)), (show Md [21, 22, 23, 26, 27, 28] A A6936 from (Md.tr (Md.tr Md.rf hA6859 rfl) hA6936 rfl)), hV6936, hF, rfl, rfl⟩ dX1_findMatches_70
      · skip
        replace hF := FE.neg hF c7047
        refine g_iload_n hk dX1_findMatches_24 rfl ?_
        refine g_if_lt (tgt := 70) (a := x6933.toInt) hk dX1_findMatches_25 (by decide) rfl (fun c7048 => ?_) (fun c7048 => ?_)
        · skip
          replace hF := FE.pos hF c7048
          exact g_vret hk hR ⟨I6936, A6936, (show Md [28, 30, 31, 32, 33, 34, 37] I I6936 from (Md.tr (Md.up (Md.tr Md.rf hI6859 rfl) rfl) hI6936 rfl)), (show Md [21, 22, 23, 26, 27, 28] A A6936 from (Md.tr (Md.tr Md.rf hA6859 rfl) hA6936 rfl)), hV6936, hF, rfl, rfl⟩ dX1_findMatches_70
        · skip
          replace hF := FE.neg hF c7048
          refine g_aload_n hk dX1_findMatches_28 rfl ?_
          refine gX_r43_7 hk hin1 (List.mem_cons_of_mem _ (List.mem_append_left _ (List.mem_of_getElem? (i := 8) rfl))) dX1_findMatches_29 ?_
          refine g_iload_n hk dX1_findMatches_32 rfl ?_
          refine g_iload_n hk dX1_findMatches_33 rfl ?_
          refine sX_27 (j := x6932.toNatClampNeg) hk (vp_in_iff.mpr ⟨by omega, by omega⟩) rfl dX1_findMatches_34 ?_
          refine g_aload_n hk dX1_findMatches_35 rfl ?_
          refine gX_r43_8 hk hin1 (List.mem_cons_of_mem _ (List.mem_append_left _ (List.mem_of_getElem? (i := 9) rfl))) dX1_findMatches_36 ?_
          refine g_iload_n hk dX1_findMatches_39 rfl ?_
          refine g_aload_n hk dX1_findMatches_40 rfl ?_
          refine gX_r43_6 hk hin1 (List.mem_cons_of_mem _ (List.mem_append_left _ (List.mem_of_getElem? (i := 10) rfl))) dX1_findMatches_41 ?_
          refine g_iload_n hk dX1_findMatches_44 rfl ?_
          refine lX_26 (v := (A6936 26 x6933.toNatClampNeg)) hk (vp_in_iff.mpr ⟨by omega, by omega⟩) rfl dX1_findMatches_45 ?_
          refine sX_28 (j := x6932.toNatClampNeg) hk (vp_in_iff.mpr ⟨by omega, by omega⟩) rfl dX1_findMatches_46 ?_
          refine g_aload_n hk dX1_findMatches_47 rfl ?_
          refine g_iload_n hk dX1_findMatches_48 rfl ?_
          refine g_iconst (v := 1) hk dX1_findMatches_49 (by decide) ?_
          refine g_iadd hk dX1_findMatches_50 ?_
          refine g_topi (fun y7049 ey7049 => ?_)
          replace hF := FE.lt hF ey7049
          have hy7049 : y7049.toInt = x6932.toInt + 1 := i32_add ey7049 rfl rfl (by omega) (by omega)
          refine pX_i37 hk hin1 (List.mem_cons_of_mem _ (List.mem_append_left _ (List.mem_of_getElem? (i := 4) rfl))) dX1_findMatches_51 ?_
          refine g_aload_n hk dX1_findMatches_54 rfl ?_
          refine g_iload_n hk dX1_findMatches_55 rfl ?_
          refine g_callV (n := 1) hk (k272_X1_passOverAround l D zt q d (upd I6936 37 y7049) (up3 (up3 A6936 27 (x6932.toNatClampNeg) x6933) 28 (x6932.toNatClampNeg) (A6936 26 x6933.toNatClampNeg)) x6933 ⟨(IvX_f0 (I := I6936) (A := A6936) hV6936), (IvX_f18 (I := I6936) (A := A6936) hV6936), (IvX_f30 (I := I6936) (A := A6936) hV6936), (IvX_f31 (I := I6936) (A := A6936) hV6936), (IvX_a4 (I := I6936) (A := A6936) hV6936), (IvX_a9 (I := I6936) (A := A6936) hV6936), trivial⟩) (SP.same _) (fun _ h => h) (gi_V (List.mem_cons_of_mem _ (List.mem_append_left _ (List.mem_of_getElem? (i := 11) rfl))) (List.mem_cons_of_mem _ (List.mem_append_left _ (List.mem_of_getElem? (i := 12) rfl))) (List.mem_cons_of_mem _ (List.mem_append_left _ (List.mem_of_getElem? (i := 13) rfl))) (List.mem_cons_of_mem _ (List.mem_append_left _ (List.mem_of_getElem? (i := 3) rfl))) (gi_sub (fun w h => (List.mem_cons_of_mem _ (List.mem_append_right _ (List.mem_append_right _ (List.mem_append_right _ (List.mem_append_right _ (List.mem_append_left _ h))))))) zg_k272_X1_passOverAround)) rfl rfl rfl (by decide +kernel) ⟨Nat.le_of_ble_eq_true rfl, Nat.le_of_ble_eq_true rfl⟩ 43 rfl rfl rfl rfl (Nat.le_of_ble_eq_true rfl) ⟨Nat.le_of_ble_eq_true rfl, Nat.le_of_ble_eq_true rfl⟩ dX1_findMatches_56 (fun v ty' w' hp hk' => ?_)
          obtain ⟨I7051, A7051, hI7051, hA7051, hV7051, hC, rfl, rfl⟩ := hp
          replace hF := FE.bdX hF hC
          show GW κ 4 0 0 (wX q d I7051 A7051) 59 [(3, .int x6932), (2, .int x6933), (0, .ref (q 43)), (1, .int z1)] []
          refine g_aload_n hk dX1_findMatches_59 rfl ?_
          refine g_callV (n := 0) hk (k271_X1_leastScanned l D zt q d I7051 A7051  hV7051) (SP.same _) (fun _ h => h) (gi_V (List.mem_cons_of_mem _ (List.mem_append_left _ (List.mem_of_getElem? (i := 5) rfl))) (List.mem_cons_of_mem _ (List.mem_append_left _ (List.mem_of_getElem? (i := 6) rfl))) (List.mem_cons_of_mem _ (List.mem_append_left _ (List.mem_of_getElem? (i := 7) rfl))) (List.mem_cons_of_mem _ (List.mem_append_left _ (List.mem_of_getElem? (i := 3) rfl))) (gi_sub (fun w h => (List.mem_cons_of_mem _ (List.mem_append_right _ (List.mem_append_right _ (List.mem_append_right _ (List.mem_append_left _ h)))))) zg_k271_X1_leastScanned)) rfl rfl rfl (by decide +kernel) ⟨Nat.le_of_ble_eq_true rfl, Nat.le_of_ble_eq_true rfl⟩ 43 rfl rfl rfl rfl (Nat.le_of_ble_eq_true rfl) ⟨Nat.le_of_ble_eq_true rfl, Nat.le_of_ble_eq_true rfl⟩ dX1_findMatches_60 (fun v ty' w' hp hk' => ?_)
          obtain ⟨y7052, c7053, c7054, hC, rfl, rfl⟩ := hp
          replace hF := FE.lt hF (fe_s hC)
          show GW κ 4 0 0 (wX q d I7051 A7051) 63 [(3, .int x6932), (2, .int x6933), (0, .ref (q 43)), (1, .int z1)] [.int y7052]
          refine g_istore_n (lv' := [(2, .int y7052), (3, .int x6932), (0, .ref (q 43)), (1, .int z1)]) hk dX1_findMatches_63 (by decide) rfl ?_
          obtain ⟨y7055, ey7055⟩ : ∃ y : Int32, y = x6932 + Int32.ofInt 1 := ⟨_, rfl⟩
          replace hF := FE.lt hF ey7055
          have hy7055 : y7055.toInt = x6932.toInt + 1 := i32_add ey7055 rfl (by decide) (by omega) (by omega)
          refine g_iinc (v := y7055) (lv' := [(3, .int y7055), (2, .int y7052), (0, .ref (q 43)), (1, .int z1)]) hk 1 dX1_findMatches_64 rfl ey7055.symm (by decide) rfl ?_
          refine g_goto (tgt := 17) hk dX1_findMatches_67 (by decide) ?_
          exact g_lv (List.forall_mem_cons.mpr ⟨List.mem_of_getElem? (i := 0) rfl, (List.forall_mem_cons.mpr ⟨List.mem_of_getElem? (i := 1) rfl, (List.forall_mem_cons.mpr ⟨List.mem_of_getElem? (i := 2) rfl, (List.forall_mem_cons.mpr ⟨List.mem_of_getElem? (i := 3) rfl, (fun _ h => absurd h List.not_mem_nil)⟩)⟩)⟩)⟩) (ih7046 y7055 y7052 I7051 A7051 (show Md [37] (upd I6859 37 0) I7051 from Md.tr hI6936 (show Md [37] I6936 I7051 from (Md.tr (Md.up Md.rf rfl) hI7051 rfl)) rfl) (show Md [26, 27, 28] A6859 A7051 from Md.tr hA6936 (show Md [26, 27, 28] A6936 A7051 from (Md.tr (Md.up3 (Md.up3 Md.rf rfl) rfl) hA7051 rfl)) rfl) hV7051 (by omega) (by omega) (by omega) (by omega) (by omega) (by omega) hF)
  have k7057 : (0 : Int32).toInt = 0 := rfl
  have n7056a : 161 - 0 < (FU : Int) := by have := FU_eq; omega
  have n7056b : 0 < FU := by have := FU_eq; omega
  exact lp7042 FU 0 y6929 (upd I6859 37 0) A6859 Md.rf Md.rf ⟨(IvX_f0 (I := I6859) (A := A6859) hV6859), (IvX_f18 (I := I6859) (A := A6859) hV6859), (IvX_f30 (I := I6859) (A := A6859) hV6859), (IvX_f31 (I := I6859) (A := A6859) hV6859), (IvX_a4 (I := I6859) (A := A6859) hV6859), (IvX_a9 (I := I6859) (A := A6859) hV6859), trivial⟩ (by omega) (by omega) (by omega) (by omega) n7056a n7056b hF
noncomputable def fX1_matchDistance (I : Nat → Int32) (A : Nat → Nat → Int32) (z1 : Int32) : Int32 := if z1.toInt < 0 then (-2) else if (I 37).toInt ≤ z1.toInt then (-2) else if 160 ≤ z1.toInt then (-2) else (A 28 z1.toNatClampNeg)
def wo_k273_X1_matchDistance : List Cond := [Cond.fieldLink RX1 119 "WarpDesk$Finder" "matches" "I", Cond.fieldLink RX1 21 "WarpDesk$Finder" "matchDistances" "[I"]
def wz_k273_X1_matchDistance : List Cond := .code yX1_matchDistance cX1_matchDistance 2 (some .int) :: (wo_k273_X1_matchDistance ++ (wsX10 ++ ([] : List Cond)))
theorem zg_k273_X1_matchDistance : ∀ w ∈ wz_k273_X1_matchDistance, goodWord w = true := zg_cons rfl (zg_app (by decide +kernel) (zg_app zgU_wsX10 zg_nil))
theorem zi_k273_X1_matchDistance : ∀ w ∈ wz_k273_X1_matchDistance, w ∈ lw_tbl := zi_cons zw_1171 (zi_app (zi_cons zw_414 (zi_cons zw_413 zi_nil)) (zi_app inX1 zi_nil))
set_option maxHeartbeats 4000000 in
set_option maxRecDepth 100000 in
theorem k273_X1_matchDistance (l : Launch) (D : va_G) (zt : Nat × Nat × Nat × (Nat → Nat) × (Nat → Nat)) (q : Nat → Nat) (d : Nat → ClassId) (I : Nat → Int32) (A : Nat → Nat → Int32) (z1 : Int32) (hIv : IvX I A) : GM l D zt (tyX d) yX1_matchDistance wz_k273_X1_matchDistance ({ frames := 0, cells := 0, slots := 0, locals := 0 } : Room) [.ref (q 43), .int z1] (wX q d I A) (fun v _ w' => ∃ y0 : Int32, FE (fX1_matchDistance I A z1) y0 ∧ v = some (.int y0) ∧ w' = wX q d I A) 0 0 := by
  refine GM.of (cc := cX1_matchDistance) (maxL := 2) (ret := (some .int)) (own := RX1) (lv := [(0, .ref (q 43)), (1, .int z1)]) (by decide) rfl rfl (Nat.le_of_ble_eq_true rfl) rfl (fun κ sz hk hR hN => ?_)
  have hin1 : ∀ w ∈ u_ws RX1 TX1 11, w ∈ wz_k273_X1_matchDistance := fun w h => (List.mem_cons_of_mem _ (List.mem_append_right _ (List.mem_append_left _ h)))
  have hF : FE (fX1_matchDistance I A z1) (fX1_matchDistance I A z1) := FE.rf
  refine g_iload_n hk dX1_matchDistance_0 rfl ?_
  have b7061l := Int32.le_toInt z1
  have b7061h := Int32.toInt_lt z1
  refine g_if_lt (tgt := 28) (a := z1.toInt) hk dX1_matchDistance_1 (by decide) rfl (fun c7062 => ?_) (fun c7062 => ?_)
  · skip
    replace hF := FE.pos hF c7062
    refine g_bipush (v := (-2)) hk dX1_matchDistance_28 (by decide) ?_
    exact g_iret hk hR rfl ⟨(-2), hF, rfl, rfl⟩ dX1_matchDistance_30
  · skip
    replace hF := FE.neg hF c7062
    refine g_iload_n hk dX1_matchDistance_4 rfl ?_
    refine g_aload_n hk dX1_matchDistance_5 rfl ?_
    refine gX_i37 (v := (I 37)) hk hin1 (List.mem_cons_of_mem _ (List.mem_append_left _ (List.mem_of_getElem? (i := 0) rfl))) dX1_matchDistance_6 rfl ?_
    have b7063l := Int32.le_toInt (I 37)
    have b7063h := Int32.toInt_lt (I 37)
    refine g_icmp_ge (tgt := 28) (a := z1.toInt) (b := (I 37).toInt) hk dX1_matchDistance_9 (by decide) rfl rfl (fun c7064 => ?_) (fun c7064 => ?_)
    · skip
      replace hF := FE.pos hF c7064
      refine g_bipush (v := (-2)) hk dX1_matchDistance_28 (by decide) ?_
      exact g_iret hk hR rfl ⟨(-2), hF, rfl, rfl⟩ dX1_matchDistance_30
    · skip
      replace hF := FE.neg hF c7064
      refine g_iload_n hk dX1_matchDistance_12 rfl ?_
      refine g_sipush (v := 160) hk dX1_matchDistance_13 (by decide) ?_
      refine g_icmp_ge (tgt := 28) (a := z1.toInt) (b := 160) hk dX1_matchDistance_16 (by decide) rfl rfl (fun c7065 => ?_) (fun c7065 => ?_)
      · skip
        replace hF := FE.pos hF c7065
        refine g_bipush (v := (-2)) hk dX1_matchDistance_28 (by decide) ?_
        exact g_iret hk hR rfl ⟨(-2), hF, rfl, rfl⟩ dX1_matchDistance_30
      · skip
        replace hF := FE.neg hF c7065
        refine g_aload_n hk dX1_matchDistance_19 rfl ?_
        refine gX_r43_8 hk hin1 (List.mem_cons_of_mem _ (List.mem_append_left _ (List.mem_of_getElem? (i := 1) rfl))) dX1_matchDistance_20 ?_
        refine g_iload_n hk dX1_matchDistance_23 rfl ?_
        refine lX_28 (v := (A 28 z1.toNatClampNeg)) hk (vp_in_iff.mpr ⟨by omega, by omega⟩) rfl dX1_matchDistance_24 ?_
        refine g_goto (tgt := 30) hk dX1_matchDistance_25 (by decide) ?_
        have b7066l := Int32.le_toInt (A 28 z1.toNatClampNeg)
        have b7066h := Int32.toInt_lt (A 28 z1.toNatClampNeg)
        exact g_iret hk hR rfl ⟨(A 28 z1.toNatClampNeg), hF, rfl, rfl⟩ dX1_matchDistance_30
noncomputable def fX1_matchWindow (I : Nat → Int32) (A : Nat → Nat → Int32) (z1 : Int32) : Int32 := if z1.toInt < 0 then (-2) else if (I 37).toInt ≤ z1.toInt then (-2) else if 160 ≤ z1.toInt then (-2) else (A 27 z1.toNatClampNeg)
def wo_k274_X1_matchWindow : List Cond := [Cond.fieldLink RX1 119 "WarpDesk$Finder" "matches" "I", Cond.fieldLink RX1 18 "WarpDesk$Finder" "matchWindows" "[I"]
def wz_k274_X1_matchWindow : List Cond := .code yX1_matchWindow cX1_matchWindow 2 (some .int) :: (wo_k274_X1_matchWindow ++ (wsX10 ++ ([] : List Cond)))
theorem zg_k274_X1_matchWindow : ∀ w ∈ wz_k274_X1_matchWindow, goodWord w = true := zg_cons rfl (zg_app (by decide +kernel) (zg_app zgU_wsX10 zg_nil))
theorem zi_k274_X1_matchWindow : ∀ w ∈ wz_k274_X1_matchWindow, w ∈ lw_tbl := zi_cons zw_1167 (zi_app (zi_cons zw_414 (zi_cons zw_412 zi_nil)) (zi_app inX1 zi_nil))
set_option maxHeartbeats 4000000 in
set_option maxRecDepth 100000 in
theorem k274_X1_matchWindow (l : Launch) (D : va_G) (zt : Nat × Nat × Nat × (Nat → Nat) × (Nat → Nat)) (q : Nat → Nat) (d : Nat → ClassId) (I : Nat → Int32) (A : Nat → Nat → Int32) (z1 : Int32) (hIv : IvX I A) : GM l D zt (tyX d) yX1_matchWindow wz_k274_X1_matchWindow ({ frames := 0, cells := 0, slots := 0, locals := 0 } : Room) [.ref (q 43), .int z1] (wX q d I A) (fun v _ w' => ∃ y0 : Int32, FE (fX1_matchWindow I A z1) y0 ∧ v = some (.int y0) ∧ w' = wX q d I A) 0 0 := by
  refine GM.of (cc := cX1_matchWindow) (maxL := 2) (ret := (some .int)) (own := RX1) (lv := [(0, .ref (q 43)), (1, .int z1)]) (by decide) rfl rfl (Nat.le_of_ble_eq_true rfl) rfl (fun κ sz hk hR hN => ?_)
  have hin1 : ∀ w ∈ u_ws RX1 TX1 11, w ∈ wz_k274_X1_matchWindow := fun w h => (List.mem_cons_of_mem _ (List.mem_append_right _ (List.mem_append_left _ h)))
  have hF : FE (fX1_matchWindow I A z1) (fX1_matchWindow I A z1) := FE.rf
  refine g_iload_n hk dX1_matchWindow_0 rfl ?_
  have b7069l := Int32.le_toInt z1
  have b7069h := Int32.toInt_lt z1
  refine g_if_lt (tgt := 28) (a := z1.toInt) hk dX1_matchWindow_1 (by decide) rfl (fun c7070 => ?_) (fun c7070 => ?_)
  · skip
    replace hF := FE.pos hF c7070
    refine g_bipush (v := (-2)) hk dX1_matchWindow_28 (by decide) ?_
    exact g_iret hk hR rfl ⟨(-2), hF, rfl, rfl⟩ dX1_matchWindow_30
  · skip
    replace hF := FE.neg hF c7070
    refine g_iload_n hk dX1_matchWindow_4 rfl ?_
    refine g_aload_n hk dX1_matchWindow_5 rfl ?_
    refine gX_i37 (v := (I 37)) hk hin1 (List.mem_cons_of_mem _ (List.mem_append_left _ (List.mem_of_getElem? (i := 0) rfl))) dX1_matchWindow_6 rfl ?_
    have b7071l := Int32.le_toInt (I 37)
    have b7071h := Int32.toInt_lt (I 37)
    refine g_icmp_ge (tgt := 28) (a := z1.toInt) (b := (I 37).toInt) hk dX1_matchWindow_9 (by decide) rfl rfl (fun c7072 => ?_) (fun c7072 => ?_)
    · skip
      replace hF := FE.pos hF c7072
      refine g_bipush (v := (-2)) hk dX1_matchWindow_28 (by decide) ?_
      exact g_iret hk hR rfl ⟨(-2), hF, rfl, rfl⟩ dX1_matchWindow_30
    · skip
      replace hF := FE.neg hF c7072
      refine g_iload_n hk dX1_matchWindow_12 rfl ?_
      refine g_sipush (v := 160) hk dX1_matchWindow_13 (by decide) ?_
      refine g_icmp_ge (tgt := 28) (a := z1.toInt) (b := 160) hk dX1_matchWindow_16 (by decide) rfl rfl (fun c7073 => ?_) (fun c7073 => ?_)
      · skip
        replace hF := FE.pos hF c7073
        refine g_bipush (v := (-2)) hk dX1_matchWindow_28 (by decide) ?_
        exact g_iret hk hR rfl ⟨(-2), hF, rfl, rfl⟩ dX1_matchWindow_30
      · skip
        replace hF := FE.neg hF c7073
        refine g_aload_n hk dX1_matchWindow_19 rfl ?_
        refine gX_r43_7 hk hin1 (List.mem_cons_of_mem _ (List.mem_append_left _ (List.mem_of_getElem? (i := 1) rfl))) dX1_matchWindow_20 ?_
        refine g_iload_n hk dX1_matchWindow_23 rfl ?_
        refine lX_27 (v := (A 27 z1.toNatClampNeg)) hk (vp_in_iff.mpr ⟨by omega, by omega⟩) rfl dX1_matchWindow_24 ?_
        refine g_goto (tgt := 30) hk dX1_matchWindow_25 (by decide) ?_
        have b7074l := Int32.le_toInt (A 27 z1.toNatClampNeg)
        have b7074h := Int32.toInt_lt (A 27 z1.toNatClampNeg)
        exact g_iret hk hR rfl ⟨(A 27 z1.toNatClampNeg), hF, rfl, rfl⟩ dX1_matchWindow_30
noncomputable def fX11_match (I : Nat → Int32) (A : Nat → Nat → Int32) (z1 : Int32) (z2 : Int32) (z3 : Int32) : Int32 × (Nat → Int32) × (Nat → Nat → Int32) := if z2.toInt < 0 then ((-1), I, A) else if z3.toInt < 0 then ((-1), I, A) else if 1 < z3.toInt then ((-1), I, A) else if fX4_has_2 I A z1 = 0 then ((-1), I, A) else f_bdX (fX1_findMatches I A z1) fun _ I7059 A7059 => if z3.toInt ≠ 0 then f_lt (fX1_matchDistance I7059 A7059 z2) fun y7067 => (y7067, I7059, A7059) else f_lt (fX1_matchWindow I7059 A7059 z2) fun y7075 => (y7075, I7059, A7059)
def wo_k268_X11_match : List Cond := [Cond.fieldLink RX11 35 "WarpDesk" "queries" "LWarpDesk$Queries;", Cond.methodLink RX11 251 yX4_has, Cond.instanceMethod yX4_has, Cond.selects RX4 yX4_has yX4_has, Cond.initialized RX4, Cond.fieldLink RX11 74 "WarpDesk" "finder" "LWarpDesk$Finder;", Cond.methodLink RX11 284 yX1_findMatches, Cond.instanceMethod yX1_findMatches, Cond.selects RX1 yX1_findMatches yX1_findMatches, Cond.initialized RX1, Cond.methodLink RX11 290 yX1_matchDistance, Cond.instanceMethod yX1_matchDistance, Cond.selects RX1 yX1_matchDistance yX1_matchDistance, Cond.methodLink RX11 287 yX1_matchWindow, Cond.instanceMethod yX1_matchWindow, Cond.selects RX1 yX1_matchWindow yX1_matchWindow]
def wz_k268_X11_match : List Cond := .code yX11_match cX11_match 4 (some .int) :: (wo_k268_X11_match ++ (wsX110 ++ (wz_k155_X4_has ++ (wz_k269_X1_findMatches ++ (wz_k273_X1_matchDistance ++ (wz_k274_X1_matchWindow ++ ([] : List Cond)))))))
theorem zg_k268_X11_match : ∀ w ∈ wz_k268_X11_match, goodWord w = true := zg_cons rfl (zg_app (by decide +kernel) (zg_app zgU_wsX110 (zg_app zg_k155_X4_has (zg_app zg_k269_X1_findMatches (zg_app zg_k273_X1_matchDistance (zg_app zg_k274_X1_matchWindow zg_nil))))))
theorem zi_k268_X11_match : ∀ w ∈ wz_k268_X11_match, w ∈ lw_tbl := zi_cons zw_1146 (zi_app (zi_cons zw_490 (zi_cons zw_1086 (zi_cons zw_747 (zi_cons zw_748 (zi_cons zw_108 (zi_cons zw_495 (zi_cons zw_1147 (zi_cons zw_1148 (zi_cons zw_1149 (zi_cons zw_113 (zi_cons zw_1168 (zi_cons zw_1169 (zi_cons zw_1170 (zi_cons zw_1164 (zi_cons zw_1165 (zi_cons zw_1166 zi_nil)))))))))))))))) (zi_app inX11 (zi_app zi_k155_X4_has (zi_app zi_k269_X1_findMatches (zi_app zi_k273_X1_matchDistance (zi_app zi_k274_X1_matchWindow zi_nil))))))
set_option maxHeartbeats 4000000 in
set_option maxRecDepth 100000 in
theorem k268_X11_match (l : Launch) (D : va_G) (zt : Nat × Nat × Nat × (Nat → Nat) × (Nat → Nat)) (q : Nat → Nat) (d : Nat → ClassId) (I : Nat → Int32) (A : Nat → Nat → Int32) (z1 : Int32) (z2 : Int32) (z3 : Int32) (hIv : IvX I A) : GM l D zt (tyX d) yX11_match wz_k268_X11_match ({ frames := 7, cells := 0, slots := 0, locals := 154 } : Room) [.ref (q 0), .int z1, .int z2, .int z3] (wX q d I A) (fun v _ w' => ∃ (I' : Nat → Int32) (A' : Nat → Nat → Int32), Md [28, 30, 31, 32, 33, 34, 37] I I' ∧ Md [21, 22, 23, 26, 27, 28] A A' ∧ IvX I' A' ∧ ∃ y0 : Int32, FE (fX11_match I A z1 z2 z3) (y0, I', A') ∧ v = some (.int y0) ∧ w' = wX q d I' A') 0 0 := by
  refine GM.of (cc := cX11_match) (maxL := 4) (ret := (some .int)) (own := RX11) (lv := [(0, .ref (q 0)), (1, .int z1), (2, .int z2), (3, .int z3)]) (by decide) rfl rfl (Nat.le_of_ble_eq_true rfl) rfl (fun κ sz hk hR hN => ?_)
  have hin11 : ∀ w ∈ u_ws RX11 TX11 10, w ∈ wz_k268_X11_match := fun w h => (List.mem_cons_of_mem _ (List.mem_append_right _ (List.mem_append_left _ h)))
  have hF : FE (fX11_match I A z1 z2 z3) (fX11_match I A z1 z2 z3) := FE.rf
  refine g_iload_n hk dX11_match_0 rfl ?_
  have b6636l := Int32.le_toInt z2
  have b6636h := Int32.toInt_lt z2
  refine g_if_lt (tgt := 24) (a := z2.toInt) hk dX11_match_1 (by decide) rfl (fun c6637 => ?_) (fun c6637 => ?_)
  · skip
    replace hF := FE.pos hF c6637
    refine g_iconst (v := (-1)) hk dX11_match_24 (by decide) ?_
    exact g_iret hk hR rfl ⟨I, A, (show Md [28, 30, 31, 32, 33, 34, 37] I I from Md.rf), (show Md [21, 22, 23, 26, 27, 28] A A from Md.rf), hIv, (-1), hF, rfl, rfl⟩ dX11_match_25
  · skip
    replace hF := FE.neg hF c6637
    refine g_iload_n hk dX11_match_4 rfl ?_
    have b6638l := Int32.le_toInt z3
    have b6638h := Int32.toInt_lt z3
    refine g_if_lt (tgt := 24) (a := z3.toInt) hk dX11_match_5 (by decide) rfl (fun c6639 => ?_) (fun c6639 => ?_)
    · skip
      replace hF := FE.pos hF c6639
      refine g_iconst (v := (-1)) hk dX11_match_24 (by decide) ?_
      exact g_iret hk hR rfl ⟨I, A, (show Md [28, 30, 31, 32, 33, 34, 37] I I from Md.rf), (show Md [21, 22, 23, 26, 27, 28] A A from Md.rf), hIv, (-1), hF, rfl, rfl⟩ dX11_match_25
    · skip
      replace hF := FE.neg hF c6639
      refine g_iload_n hk dX11_match_8 rfl ?_
      refine g_iconst (v := 1) hk dX11_match_9 (by decide) ?_
      refine g_icmp_gt (tgt := 24) (a := z3.toInt) (b := 1) hk dX11_match_10 (by decide) rfl rfl (fun c6640 => ?_) (fun c6640 => ?_)
      · skip
        replace hF := FE.pos hF c6640
        refine g_iconst (v := (-1)) hk dX11_match_24 (by decide) ?_
        exact g_iret hk hR rfl ⟨I, A, (show Md [28, 30, 31, 32, 33, 34, 37] I I from Md.rf), (show Md [21, 22, 23, 26, 27, 28] A A from Md.rf), hIv, (-1), hF, rfl, rfl⟩ dX11_match_25
      · skip
        replace hF := FE.neg hF c6640
        refine g_aload_n hk dX11_match_13 rfl ?_
        refine gX_r0_3 hk hin11 (List.mem_cons_of_mem _ (List.mem_append_left _ (List.mem_of_getElem? (i := 0) rfl))) dX11_match_14 ?_
        refine g_iload_n hk dX11_match_17 rfl ?_
        refine g_callV (n := 1) hk (k168_X4_has l D zt q d I A z1 hIv) (SP.same _) (fun _ h => h) (gi_V (List.mem_cons_of_mem _ (List.mem_append_left _ (List.mem_of_getElem? (i := 1) rfl))) (List.mem_cons_of_mem _ (List.mem_append_left _ (List.mem_of_getElem? (i := 2) rfl))) (List.mem_cons_of_mem _ (List.mem_append_left _ (List.mem_of_getElem? (i := 3) rfl))) (List.mem_cons_of_mem _ (List.mem_append_left _ (List.mem_of_getElem? (i := 4) rfl))) (gi_sub (fun w h => (List.mem_cons_of_mem _ (List.mem_append_right _ (List.mem_append_right _ (List.mem_append_left _ h))))) zg_k155_X4_has)) rfl rfl rfl (by decide +kernel) ⟨Nat.le_of_ble_eq_true rfl, Nat.le_of_ble_eq_true rfl⟩ 15 rfl rfl rfl rfl (Nat.le_of_ble_eq_true rfl) ⟨Nat.le_of_ble_eq_true rfl, Nat.le_of_ble_eq_true rfl⟩ dX11_match_18 (fun v ty' w' hp hk' => ?_)
        rcases hp with ⟨hC, rfl, rfl⟩ | ⟨c6642, c6643, c6644, c6645, hC, rfl, rfl⟩
        · skip
          replace hF := FE.pos hF hC
          show GW κ 4 0 0 (wX q d I A) 21 [(0, .ref (q 0)), (1, .int z1), (2, .int z2), (3, .int z3)] [.int 0]
          refine g_if_ne (tgt := 26) (a := 0) hk dX11_match_21 (by decide) rfl (fun z9 => absurd z9 (show ¬ ((0 : Int) ≠ (0 : Int)) from by decide)) (fun _ => ?_)
          refine g_iconst (v := (-1)) hk dX11_match_24 (by decide) ?_
          exact g_iret hk hR rfl ⟨I, A, (show Md [28, 30, 31, 32, 33, 34, 37] I I from Md.rf), (show Md [21, 22, 23, 26, 27, 28] A A from Md.rf), hIv, (-1), hF, rfl, rfl⟩ dX11_match_25
        · skip
          replace hF := FE.neg hF (fe_ne hC (by decide))
          show GW κ 4 0 0 (wX q d I A) 21 [(0, .ref (q 0)), (1, .int z1), (2, .int z2), (3, .int z3)] [.int 1]
          refine g_if_ne (tgt := 26) (a := 1) hk dX11_match_21 (by decide) rfl (fun _ => ?_) (fun z9 => absurd (show (1 : Int) ≠ (0 : Int) from by decide) z9)
          refine g_aload_n hk dX11_match_26 rfl ?_
          refine gX_r0_8 hk hin11 (List.mem_cons_of_mem _ (List.mem_append_left _ (List.mem_of_getElem? (i := 5) rfl))) dX11_match_27 ?_
          refine g_iload_n hk dX11_match_30 rfl ?_
          refine g_callV (n := 1) hk (k269_X1_findMatches l D zt q d I A z1 hIv) (SP.same _) (fun _ h => h) (gi_V (List.mem_cons_of_mem _ (List.mem_append_left _ (List.mem_of_getElem? (i := 6) rfl))) (List.mem_cons_of_mem _ (List.mem_append_left _ (List.mem_of_getElem? (i := 7) rfl))) (List.mem_cons_of_mem _ (List.mem_append_left _ (List.mem_of_getElem? (i := 8) rfl))) (List.mem_cons_of_mem _ (List.mem_append_left _ (List.mem_of_getElem? (i := 9) rfl))) (gi_sub (fun w h => (List.mem_cons_of_mem _ (List.mem_append_right _ (List.mem_append_right _ (List.mem_append_right _ (List.mem_append_left _ h)))))) zg_k269_X1_findMatches)) rfl rfl rfl (by decide +kernel) ⟨Nat.le_of_ble_eq_true rfl, Nat.le_of_ble_eq_true rfl⟩ 43 rfl rfl rfl rfl (Nat.le_of_ble_eq_true rfl) ⟨Nat.le_of_ble_eq_true rfl, Nat.le_of_ble_eq_true rfl⟩ dX11_match_31 (fun v ty' w' hp hk' => ?_)
          obtain ⟨I7059, A7059, hI7059, hA7059, hV7059, hC, rfl, rfl⟩ := hp
          replace hF := FE.bdX hF hC
          show GW κ 4 0 0 (wX q d I7059 A7059) 34 [(0, .ref (q 0)), (1, .int z1), (2, .int z2), (3, .int z3)] []
          refine g_iload_n hk dX11_match_34 rfl ?_
          refine g_if_ne (tgt := 49) (a := z3.toInt) hk dX11_match_35 (by decide) rfl (fun c7060 => ?_) (fun c7060 => ?_)
          · skip
            replace hF := FE.pos hF c7060
            refine g_aload_n hk dX11_match_49 rfl ?_
            refine gX_r0_8 hk hin11 (List.mem_cons_of_mem _ (List.mem_append_left _ (List.mem_of_getElem? (i := 5) rfl))) dX11_match_50 ?_
            refine g_iload_n hk dX11_match_53 rfl ?_
            refine g_callV (n := 1) hk (k273_X1_matchDistance l D zt q d I7059 A7059 z2 hV7059) (SP.same _) (fun _ h => h) (gi_V (List.mem_cons_of_mem _ (List.mem_append_left _ (List.mem_of_getElem? (i := 10) rfl))) (List.mem_cons_of_mem _ (List.mem_append_left _ (List.mem_of_getElem? (i := 11) rfl))) (List.mem_cons_of_mem _ (List.mem_append_left _ (List.mem_of_getElem? (i := 12) rfl))) (List.mem_cons_of_mem _ (List.mem_append_left _ (List.mem_of_getElem? (i := 9) rfl))) (gi_sub (fun w h => (List.mem_cons_of_mem _ (List.mem_append_right _ (List.mem_append_right _ (List.mem_append_right _ (List.mem_append_right _ (List.mem_append_left _ h))))))) zg_k273_X1_matchDistance)) rfl rfl rfl (by decide +kernel) ⟨Nat.le_of_ble_eq_true rfl, Nat.le_of_ble_eq_true rfl⟩ 43 rfl rfl rfl rfl (Nat.le_of_ble_eq_true rfl) ⟨Nat.le_of_ble_eq_true rfl, Nat.le_of_ble_eq_true rfl⟩ dX11_match_54 (fun v ty' w' hp hk' => ?_)
            obtain ⟨y7067, hC, rfl, rfl⟩ := hp
            replace hF := FE.lt hF (fe_s hC)
            show GW κ 4 0 0 (wX q d I7059 A7059) 57 [(0, .ref (q 0)), (1, .int z1), (2, .int z2), (3, .int z3)] [.int y7067]
            have b7068l := Int32.le_toInt y7067
            have b7068h := Int32.toInt_lt y7067
            exact g_iret hk hR rfl ⟨I7059, A7059, (show Md [28, 30, 31, 32, 33, 34, 37] I I7059 from (Md.tr Md.rf hI7059 rfl)), (show Md [21, 22, 23, 26, 27, 28] A A7059 from (Md.tr Md.rf hA7059 rfl)), hV7059, y7067, hF, rfl, rfl⟩ dX11_match_57
          · skip
            replace hF := FE.neg hF c7060
            refine g_aload_n hk dX11_match_38 rfl ?_
            refine gX_r0_8 hk hin11 (List.mem_cons_of_mem _ (List.mem_append_left _ (List.mem_of_getElem? (i := 5) rfl))) dX11_match_39 ?_
            refine g_iload_n hk dX11_match_42 rfl ?_
            refine g_callV (n := 1) hk (k274_X1_matchWindow l D zt q d I7059 A7059 z2 hV7059) (SP.same _) (fun _ h => h) (gi_V (List.mem_cons_of_mem _ (List.mem_append_left _ (List.mem_of_getElem? (i := 13) rfl))) (List.mem_cons_of_mem _ (List.mem_append_left _ (List.mem_of_getElem? (i := 14) rfl))) (List.mem_cons_of_mem _ (List.mem_append_left _ (List.mem_of_getElem? (i := 15) rfl))) (List.mem_cons_of_mem _ (List.mem_append_left _ (List.mem_of_getElem? (i := 9) rfl))) (gi_sub (fun w h => (List.mem_cons_of_mem _ (List.mem_append_right _ (List.mem_append_right _ (List.mem_append_right _ (List.mem_append_right _ (List.mem_append_right _ (List.mem_append_left _ h)))))))) zg_k274_X1_matchWindow)) rfl rfl rfl (by decide +kernel) ⟨Nat.le_of_ble_eq_true rfl, Nat.le_of_ble_eq_true rfl⟩ 43 rfl rfl rfl rfl (Nat.le_of_ble_eq_true rfl) ⟨Nat.le_of_ble_eq_true rfl, Nat.le_of_ble_eq_true rfl⟩ dX11_match_43 (fun v ty' w' hp hk' => ?_)
            obtain ⟨y7075, hC, rfl, rfl⟩ := hp
            replace hF := FE.lt hF (fe_s hC)
            show GW κ 4 0 0 (wX q d I7059 A7059) 46 [(0, .ref (q 0)), (1, .int z1), (2, .int z2), (3, .int z3)] [.int y7075]
            refine g_goto (tgt := 57) hk dX11_match_46 (by decide) ?_
            have b7076l := Int32.le_toInt y7075
            have b7076h := Int32.toInt_lt y7075
            exact g_iret hk hR rfl ⟨I7059, A7059, (show Md [28, 30, 31, 32, 33, 34, 37] I I7059 from (Md.tr Md.rf hI7059 rfl)), (show Md [21, 22, 23, 26, 27, 28] A A7059 from (Md.tr Md.rf hA7059 rfl)), hV7059, y7075, hF, rfl, rfl⟩ dX11_match_57
noncomputable def bX1_matchesWithin_4 (I : Nat → Int32) (A : Nat → Nat → Int32) (z1 : Int32) : (Int32 → Int32 → (Int32)) → Int32 → Int32 → (Int32) := fun kk7134 x7087 x7088 => if (I 37).toInt ≤ x7087.toInt then x7088 else f_lt (fX1_matchDistance I A x7087) fun y7140 => if z1.toInt < y7140.toInt then f_lt (x7087 + Int32.ofInt 1) fun y7144 => kk7134 y7144 x7088 else f_lt (x7088 + Int32.ofInt 1) fun y7146 => f_lt (x7087 + Int32.ofInt 1) fun y7147 => kk7134 y7147 y7146
noncomputable def fX1_matchesWithin (I : Nat → Int32) (A : Nat → Nat → Int32) (z1 : Int32) : Int32 := itr_ii (0 : Int32) (bX1_matchesWithin_4 I A z1) FU 0 0
def wo_k276_X1_matchesWithin : List Cond := [Cond.fieldLink RX1 119 "WarpDesk$Finder" "matches" "I", Cond.methodLink RX1 133 yX1_matchDistance, Cond.instanceMethod yX1_matchDistance, Cond.selects RX1 yX1_matchDistance yX1_matchDistance, Cond.initialized RX1]
def wz_k276_X1_matchesWithin : List Cond := .code yX1_matchesWithin cX1_matchesWithin 4 (some .int) :: (wo_k276_X1_matchesWithin ++ (wsX10 ++ (wz_k273_X1_matchDistance ++ ([] : List Cond))))
theorem zg_k276_X1_matchesWithin : ∀ w ∈ wz_k276_X1_matchesWithin, goodWord w = true := zg_cons rfl (zg_app (by decide +kernel) (zg_app zgU_wsX10 (zg_app zg_k273_X1_matchDistance zg_nil)))
theorem zi_k276_X1_matchesWithin : ∀ w ∈ wz_k276_X1_matchesWithin, w ∈ lw_tbl := zi_cons zw_1179 (zi_app (zi_cons zw_414 (zi_cons zw_1180 (zi_cons zw_1169 (zi_cons zw_1170 (zi_cons zw_113 zi_nil))))) (zi_app inX1 (zi_app zi_k273_X1_matchDistance zi_nil)))
set_option maxHeartbeats 4000000 in
set_option maxRecDepth 100000 in
theorem k276_X1_matchesWithin (l : Launch) (D : va_G) (zt : Nat × Nat × Nat × (Nat → Nat) × (Nat → Nat)) (q : Nat → Nat) (d : Nat → ClassId) (I : Nat → Int32) (A : Nat → Nat → Int32) (z1 : Int32) (hIv : IvX I A) : GM l D zt (tyX d) yX1_matchesWithin wz_k276_X1_matchesWithin ({ frames := 1, cells := 0, slots := 0, locals := 21 } : Room) [.ref (q 43), .int z1] (wX q d I A) (fun v _ w' => ∃ y0 : Int32, FE (fX1_matchesWithin I A z1) y0 ∧ v = some (.int y0) ∧ w' = wX q d I A) 0 0 := by
  refine GM.of (cc := cX1_matchesWithin) (maxL := 4) (ret := (some .int)) (own := RX1) (lv := [(0, .ref (q 43)), (1, .int z1)]) (by decide) rfl rfl (Nat.le_of_ble_eq_true rfl) rfl (fun κ sz hk hR hN => ?_)
  have hin1 : ∀ w ∈ u_ws RX1 TX1 11, w ∈ wz_k276_X1_matchesWithin := fun w h => (List.mem_cons_of_mem _ (List.mem_append_right _ (List.mem_append_left _ h)))
  have hF : FE (fX1_matchesWithin I A z1) (fX1_matchesWithin I A z1) := FE.rf
  refine g_iconst (v := 0) hk dX1_matchesWithin_0 (by decide) ?_
  refine g_istore_n (lv' := [(2, .int 0), (0, .ref (q 43)), (1, .int z1)]) hk dX1_matchesWithin_1 (by decide) rfl ?_
  refine g_iconst (v := 0) hk dX1_matchesWithin_2 (by decide) ?_
  refine g_istore_n (lv' := [(3, .int 0), (2, .int 0), (0, .ref (q 43)), (1, .int z1)]) hk dX1_matchesWithin_3 (by decide) rfl ?_
  have lp7131 : ∀ (n7132 : Nat) (x7087 : Int32) (x7088 : Int32), (0 ≤ x7087.toInt) → ((I 37).toInt + 1 - x7087.toInt < (n7132 : Int)) → (0 < n7132) → (FE (fX1_matchesWithin I A z1) (itr_ii (0 : Int32) (bX1_matchesWithin_4 I A z1) n7132 x7087 x7088)) → GW κ 4 0 0 (wX q d I A) 4 [(3, .int x7087), (2, .int x7088), (0, .ref (q 43)), (1, .int z1)] [] := by
    intro n7132
    induction n7132 with
    | zero =>
      intro x7087 x7088 h7130 m7133 m7133z hF
      exact absurd m7133z (Nat.lt_irrefl 0)
    | succ n7132 ih7135 =>
      intro x7087 x7088 h7130 m7133 m7133z hF
      replace hF := FE.itr_ii hF
      refine g_iload_n hk dX1_matchesWithin_4 rfl ?_
      refine g_aload_n hk dX1_matchesWithin_5 rfl ?_
      refine gX_i37 (v := (I 37)) hk hin1 (List.mem_cons_of_mem _ (List.mem_append_left _ (List.mem_of_getElem? (i := 0) rfl))) dX1_matchesWithin_6 rfl ?_
      have b7136l := Int32.le_toInt x7087
      have b7136h := Int32.toInt_lt x7087
      have b7137l := Int32.le_toInt (I 37)
      have b7137h := Int32.toInt_lt (I 37)
      refine g_icmp_ge (tgt := 30) (a := x7087.toInt) (b := (I 37).toInt) hk dX1_matchesWithin_9 (by decide) rfl rfl (fun c7138 => ?_) (fun c7138 => ?_)
      · skip
        replace hF := FE.pos hF c7138
        refine g_iload_n hk dX1_matchesWithin_30 rfl ?_
        have b7139l := Int32.le_toInt x7088
        have b7139h := Int32.toInt_lt x7088
        exact g_iret hk hR rfl ⟨x7088, hF, rfl, rfl⟩ dX1_matchesWithin_31
      · skip
        replace hF := FE.neg hF c7138
        refine g_aload_n hk dX1_matchesWithin_12 rfl ?_
        refine g_iload_n hk dX1_matchesWithin_13 rfl ?_
        refine g_callV (n := 1) hk (k273_X1_matchDistance l D zt q d I A x7087 hIv) (SP.same _) (fun _ h => h) (gi_V (List.mem_cons_of_mem _ (List.mem_append_left _ (List.mem_of_getElem? (i := 1) rfl))) (List.mem_cons_of_mem _ (List.mem_append_left _ (List.mem_of_getElem? (i := 2) rfl))) (List.mem_cons_of_mem _ (List.mem_append_left _ (List.mem_of_getElem? (i := 3) rfl))) (List.mem_cons_of_mem _ (List.mem_append_left _ (List.mem_of_getElem? (i := 4) rfl))) (gi_sub (fun w h => (List.mem_cons_of_mem _ (List.mem_append_right _ (List.mem_append_right _ (List.mem_append_left _ h))))) zg_k273_X1_matchDistance)) rfl rfl rfl (by decide +kernel) ⟨Nat.le_of_ble_eq_true rfl, Nat.le_of_ble_eq_true rfl⟩ 43 rfl rfl rfl rfl (Nat.le_of_ble_eq_true rfl) ⟨Nat.le_of_ble_eq_true rfl, Nat.le_of_ble_eq_true rfl⟩ dX1_matchesWithin_14 (fun v ty' w' hp hk' => ?_)
        obtain ⟨y7140, hC, rfl, rfl⟩ := hp
        replace hF := FE.lt hF (fe_s hC)
        show GW κ 4 0 0 (wX q d I A) 17 [(3, .int x7087), (2, .int x7088), (0, .ref (q 43)), (1, .int z1)] [.int y7140]
        refine g_iload_n hk dX1_matchesWithin_17 rfl ?_
        have b7141l := Int32.le_toInt y7140
        have b7141h := Int32.toInt_lt y7140
        have b7142l := Int32.le_toInt z1
        have b7142h := Int32.toInt_lt z1
        refine g_icmp_gt (tgt := 24) (a := y7140.toInt) (b := z1.toInt) hk dX1_matchesWithin_18 (by decide) rfl rfl (fun c7143 => ?_) (fun c7143 => ?_)
        · skip
          replace hF := FE.pos hF c7143
          obtain ⟨y7144, ey7144⟩ : ∃ y : Int32, y = x7087 + Int32.ofInt 1 := ⟨_, rfl⟩
          replace hF := FE.lt hF ey7144
          have hy7144 : y7144.toInt = x7087.toInt + 1 := i32_add ey7144 rfl (by decide) (by omega) (by omega)
          refine g_iinc (v := y7144) (lv' := [(3, .int y7144), (2, .int x7088), (0, .ref (q 43)), (1, .int z1)]) hk 0 dX1_matchesWithin_24 rfl ey7144.symm (by decide) rfl ?_
          refine g_goto (tgt := 4) hk dX1_matchesWithin_27 (by decide) ?_
          exact g_lv (List.forall_mem_cons.mpr ⟨List.mem_of_getElem? (i := 0) rfl, (List.forall_mem_cons.mpr ⟨List.mem_of_getElem? (i := 1) rfl, (List.forall_mem_cons.mpr ⟨List.mem_of_getElem? (i := 2) rfl, (List.forall_mem_cons.mpr ⟨List.mem_of_getElem? (i := 3) rfl, (fun _ h => absurd h List.not_mem_nil)⟩)⟩)⟩)⟩) (ih7135 y7144 x7088 (by omega) (by omega) (by omega) hF)
        · skip
          replace hF := FE.neg hF c7143
          have b7145l := Int32.le_toInt x7088
          have b7145h := Int32.toInt_lt x7088
          obtain ⟨y7146, ey7146⟩ : ∃ y : Int32, y = x7088 + Int32.ofInt 1 := ⟨_, rfl⟩
          replace hF := FE.lt hF ey7146
          refine g_iinc (v := y7146) (lv' := [(2, .int y7146), (3, .int x7087), (0, .ref (q 43)), (1, .int z1)]) hk 1 dX1_matchesWithin_21 rfl ey7146.symm (by decide) rfl ?_
          obtain ⟨y7147, ey7147⟩ : ∃ y : Int32, y = x7087 + Int32.ofInt 1 := ⟨_, rfl⟩
          replace hF := FE.lt hF ey7147
          have hy7147 : y7147.toInt = x7087.toInt + 1 := i32_add ey7147 rfl (by decide) (by omega) (by omega)
          refine g_iinc (v := y7147) (lv' := [(3, .int y7147), (2, .int y7146), (0, .ref (q 43)), (1, .int z1)]) hk 1 dX1_matchesWithin_24 rfl ey7147.symm (by decide) rfl ?_
          refine g_goto (tgt := 4) hk dX1_matchesWithin_27 (by decide) ?_
          exact g_lv (List.forall_mem_cons.mpr ⟨List.mem_of_getElem? (i := 0) rfl, (List.forall_mem_cons.mpr ⟨List.mem_of_getElem? (i := 1) rfl, (List.forall_mem_cons.mpr ⟨List.mem_of_getElem? (i := 2) rfl, (List.forall_mem_cons.mpr ⟨List.mem_of_getElem? (i := 3) rfl, (fun _ h => absurd h List.not_mem_nil)⟩)⟩)⟩)⟩) (ih7135 y7147 y7146 (by omega) (by omega) (by omega) hF)
  have k7149 : (0 : Int32).toInt = 0 := rfl
  have b7150 := Int32.le_toInt (I 37)
  have b7151 := Int32.toInt_lt (I 37)
  have n7148a : (I 37).toInt + 1 - 0 < (FU : Int) := by have := FU_eq; omega
  have n7148b : 0 < FU := by have := FU_eq; omega
  exact lp7131 FU 0 0 (by omega) n7148a n7148b hF
noncomputable def fX11_within (I : Nat → Int32) (A : Nat → Nat → Int32) (z1 : Int32) (z2 : Int32) : Int32 × (Nat → Int32) × (Nat → Nat → Int32) := if z2.toInt < 0 then ((-1), I, A) else if fX4_has_2 I A z1 = 0 then ((-1), I, A) else f_bdX (fX1_findMatches I A z1) fun _ I7086 A7086 => f_lt (fX1_matchesWithin I7086 A7086 z2) fun y7152 => (y7152, I7086, A7086)
def wo_k275_X11_within : List Cond := [Cond.fieldLink RX11 35 "WarpDesk" "queries" "LWarpDesk$Queries;", Cond.methodLink RX11 251 yX4_has, Cond.instanceMethod yX4_has, Cond.selects RX4 yX4_has yX4_has, Cond.initialized RX4, Cond.fieldLink RX11 74 "WarpDesk" "finder" "LWarpDesk$Finder;", Cond.methodLink RX11 284 yX1_findMatches, Cond.instanceMethod yX1_findMatches, Cond.selects RX1 yX1_findMatches yX1_findMatches, Cond.initialized RX1, Cond.methodLink RX11 293 yX1_matchesWithin, Cond.instanceMethod yX1_matchesWithin, Cond.selects RX1 yX1_matchesWithin yX1_matchesWithin]
def wz_k275_X11_within : List Cond := .code yX11_within cX11_within 3 (some .int) :: (wo_k275_X11_within ++ (wsX110 ++ (wz_k155_X4_has ++ (wz_k269_X1_findMatches ++ (wz_k276_X1_matchesWithin ++ ([] : List Cond))))))
theorem zg_k275_X11_within : ∀ w ∈ wz_k275_X11_within, goodWord w = true := zg_cons rfl (zg_app (by decide +kernel) (zg_app zgU_wsX110 (zg_app zg_k155_X4_has (zg_app zg_k269_X1_findMatches (zg_app zg_k276_X1_matchesWithin zg_nil)))))
theorem zi_k275_X11_within : ∀ w ∈ wz_k275_X11_within, w ∈ lw_tbl := zi_cons zw_1175 (zi_app (zi_cons zw_490 (zi_cons zw_1086 (zi_cons zw_747 (zi_cons zw_748 (zi_cons zw_108 (zi_cons zw_495 (zi_cons zw_1147 (zi_cons zw_1148 (zi_cons zw_1149 (zi_cons zw_113 (zi_cons zw_1176 (zi_cons zw_1177 (zi_cons zw_1178 zi_nil))))))))))))) (zi_app inX11 (zi_app zi_k155_X4_has (zi_app zi_k269_X1_findMatches (zi_app zi_k276_X1_matchesWithin zi_nil)))))
set_option maxHeartbeats 4000000 in
set_option maxRecDepth 100000 in
theorem k275_X11_within (l : Launch) (D : va_G) (zt : Nat × Nat × Nat × (Nat → Nat) × (Nat → Nat)) (q : Nat → Nat) (d : Nat → ClassId) (I : Nat → Int32) (A : Nat → Nat → Int32) (z1 : Int32) (z2 : Int32) (hIv : IvX I A) : GM l D zt (tyX d) yX11_within wz_k275_X11_within ({ frames := 7, cells := 0, slots := 0, locals := 154 } : Room) [.ref (q 0), .int z1, .int z2] (wX q d I A) (fun v _ w' => ∃ (I' : Nat → Int32) (A' : Nat → Nat → Int32), Md [28, 30, 31, 32, 33, 34, 37] I I' ∧ Md [21, 22, 23, 26, 27, 28] A A' ∧ IvX I' A' ∧ ∃ y0 : Int32, FE (fX11_within I A z1 z2) (y0, I', A') ∧ v = some (.int y0) ∧ w' = wX q d I' A') 0 0 := by
  refine GM.of (cc := cX11_within) (maxL := 3) (ret := (some .int)) (own := RX11) (lv := [(0, .ref (q 0)), (1, .int z1), (2, .int z2)]) (by decide) rfl rfl (Nat.le_of_ble_eq_true rfl) rfl (fun κ sz hk hR hN => ?_)
  have hin11 : ∀ w ∈ u_ws RX11 TX11 10, w ∈ wz_k275_X11_within := fun w h => (List.mem_cons_of_mem _ (List.mem_append_right _ (List.mem_append_left _ h)))
  have hF : FE (fX11_within I A z1 z2) (fX11_within I A z1 z2) := FE.rf
  refine g_iload_n hk dX11_within_0 rfl ?_
  have b7077l := Int32.le_toInt z2
  have b7077h := Int32.toInt_lt z2
  refine g_if_lt (tgt := 15) (a := z2.toInt) hk dX11_within_1 (by decide) rfl (fun c7078 => ?_) (fun c7078 => ?_)
  · skip
    replace hF := FE.pos hF c7078
    refine g_iconst (v := (-1)) hk dX11_within_15 (by decide) ?_
    exact g_iret hk hR rfl ⟨I, A, (show Md [28, 30, 31, 32, 33, 34, 37] I I from Md.rf), (show Md [21, 22, 23, 26, 27, 28] A A from Md.rf), hIv, (-1), hF, rfl, rfl⟩ dX11_within_16
  · skip
    replace hF := FE.neg hF c7078
    refine g_aload_n hk dX11_within_4 rfl ?_
    refine gX_r0_3 hk hin11 (List.mem_cons_of_mem _ (List.mem_append_left _ (List.mem_of_getElem? (i := 0) rfl))) dX11_within_5 ?_
    refine g_iload_n hk dX11_within_8 rfl ?_
    refine g_callV (n := 1) hk (k168_X4_has l D zt q d I A z1 hIv) (SP.same _) (fun _ h => h) (gi_V (List.mem_cons_of_mem _ (List.mem_append_left _ (List.mem_of_getElem? (i := 1) rfl))) (List.mem_cons_of_mem _ (List.mem_append_left _ (List.mem_of_getElem? (i := 2) rfl))) (List.mem_cons_of_mem _ (List.mem_append_left _ (List.mem_of_getElem? (i := 3) rfl))) (List.mem_cons_of_mem _ (List.mem_append_left _ (List.mem_of_getElem? (i := 4) rfl))) (gi_sub (fun w h => (List.mem_cons_of_mem _ (List.mem_append_right _ (List.mem_append_right _ (List.mem_append_left _ h))))) zg_k155_X4_has)) rfl rfl rfl (by decide +kernel) ⟨Nat.le_of_ble_eq_true rfl, Nat.le_of_ble_eq_true rfl⟩ 15 rfl rfl rfl rfl (Nat.le_of_ble_eq_true rfl) ⟨Nat.le_of_ble_eq_true rfl, Nat.le_of_ble_eq_true rfl⟩ dX11_within_9 (fun v ty' w' hp hk' => ?_)
    rcases hp with ⟨hC, rfl, rfl⟩ | ⟨c7080, c7081, c7082, c7083, hC, rfl, rfl⟩
    · skip
      replace hF := FE.pos hF hC
      show GW κ 3 0 0 (wX q d I A) 12 [(0, .ref (q 0)), (1, .int z1), (2, .int z2)] [.int 0]
      refine g_if_ne (tgt := 17) (a := 0) hk dX11_within_12 (by decide) rfl (fun z9 => absurd z9 (show ¬ ((0 : Int) ≠ (0 : Int)) from by decide)) (fun _ => ?_)
      refine g_iconst (v := (-1)) hk dX11_within_15 (by decide) ?_
      exact g_iret hk hR rfl ⟨I, A, (show Md [28, 30, 31, 32, 33, 34, 37] I I from Md.rf), (show Md [21, 22, 23, 26, 27, 28] A A from Md.rf), hIv, (-1), hF, rfl, rfl⟩ dX11_within_16
    · skip
      replace hF := FE.neg hF (fe_ne hC (by decide))
      show GW κ 3 0 0 (wX q d I A) 12 [(0, .ref (q 0)), (1, .int z1), (2, .int z2)] [.int 1]
      refine g_if_ne (tgt := 17) (a := 1) hk dX11_within_12 (by decide) rfl (fun _ => ?_) (fun z9 => absurd (show (1 : Int) ≠ (0 : Int) from by decide) z9)
      refine g_aload_n hk dX11_within_17 rfl ?_
      refine gX_r0_8 hk hin11 (List.mem_cons_of_mem _ (List.mem_append_left _ (List.mem_of_getElem? (i := 5) rfl))) dX11_within_18 ?_
      refine g_iload_n hk dX11_within_21 rfl ?_
      refine g_callV (n := 1) hk (k269_X1_findMatches l D zt q d I A z1 hIv) (SP.same _) (fun _ h => h) (gi_V (List.mem_cons_of_mem _ (List.mem_append_left _ (List.mem_of_getElem? (i := 6) rfl))) (List.mem_cons_of_mem _ (List.mem_append_left _ (List.mem_of_getElem? (i := 7) rfl))) (List.mem_cons_of_mem _ (List.mem_append_left _ (List.mem_of_getElem? (i := 8) rfl))) (List.mem_cons_of_mem _ (List.mem_append_left _ (List.mem_of_getElem? (i := 9) rfl))) (gi_sub (fun w h => (List.mem_cons_of_mem _ (List.mem_append_right _ (List.mem_append_right _ (List.mem_append_right _ (List.mem_append_left _ h)))))) zg_k269_X1_findMatches)) rfl rfl rfl (by decide +kernel) ⟨Nat.le_of_ble_eq_true rfl, Nat.le_of_ble_eq_true rfl⟩ 43 rfl rfl rfl rfl (Nat.le_of_ble_eq_true rfl) ⟨Nat.le_of_ble_eq_true rfl, Nat.le_of_ble_eq_true rfl⟩ dX11_within_22 (fun v ty' w' hp hk' => ?_)
      obtain ⟨I7086, A7086, hI7086, hA7086, hV7086, hC, rfl, rfl⟩ := hp
      replace hF := FE.bdX hF hC
      show GW κ 3 0 0 (wX q d I7086 A7086) 25 [(0, .ref (q 0)), (1, .int z1), (2, .int z2)] []
      refine g_aload_n hk dX11_within_25 rfl ?_
      refine gX_r0_8 hk hin11 (List.mem_cons_of_mem _ (List.mem_append_left _ (List.mem_of_getElem? (i := 5) rfl))) dX11_within_26 ?_
      refine g_iload_n hk dX11_within_29 rfl ?_
      refine g_callV (n := 1) hk (k276_X1_matchesWithin l D zt q d I7086 A7086 z2 hV7086) (SP.same _) (fun _ h => h) (gi_V (List.mem_cons_of_mem _ (List.mem_append_left _ (List.mem_of_getElem? (i := 10) rfl))) (List.mem_cons_of_mem _ (List.mem_append_left _ (List.mem_of_getElem? (i := 11) rfl))) (List.mem_cons_of_mem _ (List.mem_append_left _ (List.mem_of_getElem? (i := 12) rfl))) (List.mem_cons_of_mem _ (List.mem_append_left _ (List.mem_of_getElem? (i := 9) rfl))) (gi_sub (fun w h => (List.mem_cons_of_mem _ (List.mem_append_right _ (List.mem_append_right _ (List.mem_append_right _ (List.mem_append_right _ (List.mem_append_left _ h))))))) zg_k276_X1_matchesWithin)) rfl rfl rfl (by decide +kernel) ⟨Nat.le_of_ble_eq_true rfl, Nat.le_of_ble_eq_true rfl⟩ 43 rfl rfl rfl rfl (Nat.le_of_ble_eq_true rfl) ⟨Nat.le_of_ble_eq_true rfl, Nat.le_of_ble_eq_true rfl⟩ dX11_within_30 (fun v ty' w' hp hk' => ?_)
      obtain ⟨y7152, hC, rfl, rfl⟩ := hp
      replace hF := FE.lt hF (fe_s hC)
      show GW κ 3 0 0 (wX q d I7086 A7086) 33 [(0, .ref (q 0)), (1, .int z1), (2, .int z2)] [.int y7152]
      have b7153l := Int32.le_toInt y7152
      have b7153h := Int32.toInt_lt y7152
      exact g_iret hk hR rfl ⟨I7086, A7086, (show Md [28, 30, 31, 32, 33, 34, 37] I I7086 from (Md.tr Md.rf hI7086 rfl)), (show Md [21, 22, 23, 26, 27, 28] A A7086 from (Md.tr Md.rf hA7086 rfl)), hV7086, y7152, hF, rfl, rfl⟩ dX11_within_33
noncomputable def bX1_coverFrom_2 (z2 : Int32) (z1 : Int32) : (Int32 → (Nat → Int32) → (Nat → Nat → Int32) → (Int32 × (Nat → Int32) × (Nat → Nat → Int32))) → Int32 → (Nat → Int32) → (Nat → Nat → Int32) → (Int32 × (Nat → Int32) × (Nat → Nat → Int32)) := fun kk7289 x7249 I7253 A7253 => if z2.toInt ≤ x7249.toInt then (0, I7253, A7253) else f_lt (z1 + x7249) fun y7295 => if y7295.toInt < 0 then f_lt (x7249 + Int32.ofInt 1) fun y7298 => kk7289 y7298 I7253 A7253 else if 160 ≤ y7295.toInt then f_lt (x7249 + Int32.ofInt 1) fun y7300 => kk7289 y7300 I7253 A7253 else f_lt (x7249 + Int32.ofInt 1) fun y7302 => kk7289 y7302 I7253 (up3 A7253 29 (y7295.toNatClampNeg) (vp_nar .boolean 1))
noncomputable def fX1_coverFrom (I : Nat → Int32) (A : Nat → Nat → Int32) (z1 : Int32) (z2 : Int32) : Int32 × (Nat → Int32) × (Nat → Nat → Int32) := itr_iIA dfX (bX1_coverFrom_2 z2 z1) FU 0 I A
def wo_k279_X1_coverFrom : List Cond := [Cond.fieldLink RX1 24 "WarpDesk$Finder" "covered" "[Z"]
def wz_k279_X1_coverFrom : List Cond := .code yX1_coverFrom cX1_coverFrom 5 none :: (wo_k279_X1_coverFrom ++ (wsX10 ++ ([] : List Cond)))
theorem zg_k279_X1_coverFrom : ∀ w ∈ wz_k279_X1_coverFrom, goodWord w = true := zg_cons rfl (zg_app (by decide +kernel) (zg_app zgU_wsX10 zg_nil))
theorem zi_k279_X1_coverFrom : ∀ w ∈ wz_k279_X1_coverFrom, w ∈ lw_tbl := zi_cons zw_1193 (zi_app (zi_cons zw_415 zi_nil) (zi_app inX1 zi_nil))
set_option maxHeartbeats 4000000 in
set_option maxRecDepth 100000 in
theorem k279_X1_coverFrom (l : Launch) (D : va_G) (zt : Nat × Nat × Nat × (Nat → Nat) × (Nat → Nat)) (q : Nat → Nat) (d : Nat → ClassId) (I : Nat → Int32) (A : Nat → Nat → Int32) (z1 : Int32) (z2 : Int32) (hIv : IvX I A) : GM l D zt (tyX d) yX1_coverFrom wz_k279_X1_coverFrom ({ frames := 0, cells := 0, slots := 0, locals := 0 } : Room) [.ref (q 43), .int z1, .int z2] (wX q d I A) (fun v _ w' => ∃ (I' : Nat → Int32) (A' : Nat → Nat → Int32), Md [] I I' ∧ Md [29] A A' ∧ IvX I' A' ∧ FE (fX1_coverFrom I A z1 z2) (0, I', A') ∧ v = none ∧ w' = wX q d I' A') 0 0 := by
  refine GM.of (cc := cX1_coverFrom) (maxL := 5) (ret := none) (own := RX1) (lv := [(0, .ref (q 43)), (1, .int z1), (2, .int z2)]) (by decide) rfl rfl (Nat.le_of_ble_eq_true rfl) rfl (fun κ sz hk hR hN => ?_)
  have hin1 : ∀ w ∈ u_ws RX1 TX1 11, w ∈ wz_k279_X1_coverFrom := fun w h => (List.mem_cons_of_mem _ (List.mem_append_right _ (List.mem_append_left _ h)))
  have hF : FE (fX1_coverFrom I A z1 z2) (fX1_coverFrom I A z1 z2) := FE.rf
  refine g_iconst (v := 0) hk dX1_coverFrom_0 (by decide) ?_
  refine g_istore_n (lv' := [(3, .int 0), (0, .ref (q 43)), (1, .int z1), (2, .int z2)]) hk dX1_coverFrom_1 (by decide) rfl ?_
  have lp7286 : ∀ (n7287 : Nat) (x7249 : Int32) (I7253 : Nat → Int32) (A7253 : Nat → Nat → Int32), (Md [] I I7253) → (Md [29] A A7253) → (IvX I7253 A7253) → (0 ≤ x7249.toInt) → (z2.toInt + 1 - x7249.toInt < (n7287 : Int)) → (0 < n7287) → (FE (fX1_coverFrom I A z1 z2) (itr_iIA dfX (bX1_coverFrom_2 z2 z1) n7287 x7249 I7253 A7253)) → GW κ 5 0 0 (wX q d I7253 A7253) 2 [(3, .int x7249), (0, .ref (q 43)), (1, .int z1), (2, .int z2)] [] := by
    intro n7287
    induction n7287 with
    | zero =>
      intro x7249 I7253 A7253 hI7253 hA7253 hV7253 h7285 m7288 m7288z hF
      exact absurd m7288z (Nat.lt_irrefl 0)
    | succ n7287 ih7290 =>
      intro x7249 I7253 A7253 hI7253 hA7253 hV7253 h7285 m7288 m7288z hF
      replace hF := FE.itr_iIA hF
      refine g_iload_n hk dX1_coverFrom_2 rfl ?_
      refine g_iload_n hk dX1_coverFrom_3 rfl ?_
      have b7291l := Int32.le_toInt x7249
      have b7291h := Int32.toInt_lt x7249
      have b7292l := Int32.le_toInt z2
      have b7292h := Int32.toInt_lt z2
      refine g_icmp_ge (tgt := 39) (a := x7249.toInt) (b := z2.toInt) hk dX1_coverFrom_4 (by decide) rfl rfl (fun c7293 => ?_) (fun c7293 => ?_)
      · skip
        replace hF := FE.pos hF c7293
        exact g_vret hk hR ⟨I7253, A7253, (show Md [] I I7253 from (Md.tr Md.rf hI7253 rfl)), (show Md [29] A A7253 from (Md.tr Md.rf hA7253 rfl)), hV7253, hF, rfl, rfl⟩ dX1_coverFrom_39
      · skip
        replace hF := FE.neg hF c7293
        refine g_iload_n hk dX1_coverFrom_7 rfl ?_
        refine g_iload_n hk dX1_coverFrom_8 rfl ?_
        have b7294l := Int32.le_toInt z1
        have b7294h := Int32.toInt_lt z1
        refine g_iadd hk dX1_coverFrom_9 ?_
        refine g_topi (fun y7295 ey7295 => ?_)
        replace hF := FE.lt hF ey7295
        refine g_istore (lv' := [(4, .int y7295), (3, .int x7249), (0, .ref (q 43)), (1, .int z1), (2, .int z2)]) hk dX1_coverFrom_10 (by decide) rfl ?_
        refine g_iload hk dX1_coverFrom_12 rfl ?_
        have b7296l := Int32.le_toInt y7295
        have b7296h := Int32.toInt_lt y7295
        refine g_if_lt (tgt := 33) (a := y7295.toInt) hk dX1_coverFrom_14 (by decide) rfl (fun c7297 => ?_) (fun c7297 => ?_)
        · skip
          replace hF := FE.pos hF c7297
          obtain ⟨y7298, ey7298⟩ : ∃ y : Int32, y = x7249 + Int32.ofInt 1 := ⟨_, rfl⟩
          replace hF := FE.lt hF ey7298
          have hy7298 : y7298.toInt = x7249.toInt + 1 := i32_add ey7298 rfl (by decide) (by omega) (by omega)
          refine g_iinc (v := y7298) (lv' := [(3, .int y7298), (4, .int y7295), (0, .ref (q 43)), (1, .int z1), (2, .int z2)]) hk 1 dX1_coverFrom_33 rfl ey7298.symm (by decide) rfl ?_
          refine g_goto (tgt := 2) hk dX1_coverFrom_36 (by decide) ?_
          exact g_lv (List.forall_mem_cons.mpr ⟨List.mem_of_getElem? (i := 0) rfl, (List.forall_mem_cons.mpr ⟨List.mem_of_getElem? (i := 2) rfl, (List.forall_mem_cons.mpr ⟨List.mem_of_getElem? (i := 3) rfl, (List.forall_mem_cons.mpr ⟨List.mem_of_getElem? (i := 4) rfl, (fun _ h => absurd h List.not_mem_nil)⟩)⟩)⟩)⟩) (ih7290 y7298 I7253 A7253 (show Md [] I I7253 from Md.tr hI7253 (show Md [] I7253 I7253 from Md.rf) rfl) (show Md [29] A A7253 from Md.tr hA7253 (show Md [29] A7253 A7253 from Md.rf) rfl) hV7253 (by omega) (by omega) (by omega) hF)
        · skip
          replace hF := FE.neg hF c7297
          refine g_iload hk dX1_coverFrom_17 rfl ?_
          refine g_sipush (v := 160) hk dX1_coverFrom_19 (by decide) ?_
          refine g_icmp_ge (tgt := 33) (a := y7295.toInt) (b := 160) hk dX1_coverFrom_22 (by decide) rfl rfl (fun c7299 => ?_) (fun c7299 => ?_)
          · skip
            replace hF := FE.pos hF c7299
            obtain ⟨y7300, ey7300⟩ : ∃ y : Int32, y = x7249 + Int32.ofInt 1 := ⟨_, rfl⟩
            replace hF := FE.lt hF ey7300
            have hy7300 : y7300.toInt = x7249.toInt + 1 := i32_add ey7300 rfl (by decide) (by omega) (by omega)
            refine g_iinc (v := y7300) (lv' := [(3, .int y7300), (4, .int y7295), (0, .ref (q 43)), (1, .int z1), (2, .int z2)]) hk 1 dX1_coverFrom_33 rfl ey7300.symm (by decide) rfl ?_
            refine g_goto (tgt := 2) hk dX1_coverFrom_36 (by decide) ?_
            exact g_lv (List.forall_mem_cons.mpr ⟨List.mem_of_getElem? (i := 0) rfl, (List.forall_mem_cons.mpr ⟨List.mem_of_getElem? (i := 2) rfl, (List.forall_mem_cons.mpr ⟨List.mem_of_getElem? (i := 3) rfl, (List.forall_mem_cons.mpr ⟨List.mem_of_getElem? (i := 4) rfl, (fun _ h => absurd h List.not_mem_nil)⟩)⟩)⟩)⟩) (ih7290 y7300 I7253 A7253 (show Md [] I I7253 from Md.tr hI7253 (show Md [] I7253 I7253 from Md.rf) rfl) (show Md [29] A A7253 from Md.tr hA7253 (show Md [29] A7253 A7253 from Md.rf) rfl) hV7253 (by omega) (by omega) (by omega) hF)
          · skip
            replace hF := FE.neg hF c7299
            refine g_aload_n hk dX1_coverFrom_25 rfl ?_
            refine gX_r43_10 hk hin1 (List.mem_cons_of_mem _ (List.mem_append_left _ (List.mem_of_getElem? (i := 0) rfl))) dX1_coverFrom_26 ?_
            refine g_iload hk dX1_coverFrom_29 rfl ?_
            refine g_iconst (v := 1) hk dX1_coverFrom_31 (by decide) ?_
            have k7301 : (1 : Int32).toInt = 1 := rfl
            refine sX_29 (y := (vp_nar .boolean 1)) (j := y7295.toNatClampNeg) hk (vp_in_iff.mpr ⟨by omega, by omega⟩) rfl rfl dX1_coverFrom_32 ?_
            obtain ⟨y7302, ey7302⟩ : ∃ y : Int32, y = x7249 + Int32.ofInt 1 := ⟨_, rfl⟩
            replace hF := FE.lt hF ey7302
            have hy7302 : y7302.toInt = x7249.toInt + 1 := i32_add ey7302 rfl (by decide) (by omega) (by omega)
            refine g_iinc (v := y7302) (lv' := [(3, .int y7302), (4, .int y7295), (0, .ref (q 43)), (1, .int z1), (2, .int z2)]) hk 1 dX1_coverFrom_33 rfl ey7302.symm (by decide) rfl ?_
            refine g_goto (tgt := 2) hk dX1_coverFrom_36 (by decide) ?_
            exact g_lv (List.forall_mem_cons.mpr ⟨List.mem_of_getElem? (i := 0) rfl, (List.forall_mem_cons.mpr ⟨List.mem_of_getElem? (i := 2) rfl, (List.forall_mem_cons.mpr ⟨List.mem_of_getElem? (i := 3) rfl, (List.forall_mem_cons.mpr ⟨List.mem_of_getElem? (i := 4) rfl, (fun _ h => absurd h List.not_mem_nil)⟩)⟩)⟩)⟩) (ih7290 y7302 I7253 (up3 A7253 29 (y7295.toNatClampNeg) (vp_nar .boolean 1)) (show Md [] I I7253 from Md.tr hI7253 (show Md [] I7253 I7253 from Md.rf) rfl) (show Md [29] A (up3 A7253 29 (y7295.toNatClampNeg) (vp_nar .boolean 1)) from Md.tr hA7253 (show Md [29] A7253 (up3 A7253 29 (y7295.toNatClampNeg) (vp_nar .boolean 1)) from (Md.up3 Md.rf rfl)) rfl) ⟨(IvX_f0 (I := I7253) (A := A7253) hV7253), (IvX_f18 (I := I7253) (A := A7253) hV7253), (IvX_f30 (I := I7253) (A := A7253) hV7253), (IvX_f31 (I := I7253) (A := A7253) hV7253), (IvX_a4 (I := I7253) (A := A7253) hV7253), (IvX_a9 (I := I7253) (A := A7253) hV7253), trivial⟩ (by omega) (by omega) (by omega) hF)
  have k7304 : (0 : Int32).toInt = 0 := rfl
  have b7305 := Int32.le_toInt z2
  have b7306 := Int32.toInt_lt z2
  have n7303a : z2.toInt + 1 - 0 < (FU : Int) := by have := FU_eq; omega
  have n7303b : 0 < FU := by have := FU_eq; omega
  exact lp7286 FU 0 I A Md.rf Md.rf hIv (by omega) n7303a n7303b hF
noncomputable def bX1_placesWithin_62 (I7795 : Nat → Int32) (A7795 : Nat → Nat → Int32) : (Int32 → Int32 → (Int32 × (Nat → Int32) × (Nat → Nat → Int32))) → Int32 → Int32 → (Int32 × (Nat → Int32) × (Nat → Nat → Int32)) := fun kk8035 x7994 x7995 => if 160 ≤ x7994.toInt then (x7995, I7795, A7795) else if (A7795 29 x7994.toNatClampNeg).toInt = 0 then f_lt (x7994 + Int32.ofInt 1) fun y8041 => kk8035 y8041 x7995 else f_lt (x7995 + Int32.ofInt 1) fun y8043 => f_lt (x7994 + Int32.ofInt 1) fun y8044 => kk8035 y8044 y8043
noncomputable def bX1_placesWithin_24 (I : Nat → Int32) (z1 : Int32) (z2 : Int32) : (Int32 → (Nat → Int32) → (Nat → Nat → Int32) → (Int32 × (Nat → Int32) × (Nat → Nat → Int32))) → Int32 → (Nat → Int32) → (Nat → Nat → Int32) → (Int32 × (Nat → Int32) × (Nat → Nat → Int32)) := fun kk7989 x7791 I7795 A7795 => if (I 37).toInt ≤ x7791.toInt then itr_ii dfX (bX1_placesWithin_62 I7795 A7795) FU 0 0 else f_lt (fX1_matchDistance I7795 A7795 x7791) fun y8047 => if z1.toInt < y8047.toInt then f_lt (x7791 + Int32.ofInt 1) fun y8051 => kk7989 y8051 I7795 A7795 else f_lt (fX1_matchWindow I7795 A7795 x7791) fun y8052 => f_bdX (fX1_coverFrom I7795 A7795 y8052 z2) fun _ I8054 A8054 => f_lt (x7791 + Int32.ofInt 1) fun y8055 => kk7989 y8055 I8054 A8054
noncomputable def bX1_placesWithin_2 (I : Nat → Int32) (z1 : Int32) (z2 : Int32) : (Int32 → (Nat → Int32) → (Nat → Nat → Int32) → (Int32 × (Nat → Int32) × (Nat → Nat → Int32))) → Int32 → (Nat → Int32) → (Nat → Nat → Int32) → (Int32 × (Nat → Int32) × (Nat → Nat → Int32)) := fun kk7788 x7174 I7178 A7178 => if 160 ≤ x7174.toInt then itr_iIA dfX (bX1_placesWithin_24 I z1 z2) FU 0 I7178 A7178 else f_lt (x7174 + Int32.ofInt 1) fun y8061 => kk7788 y8061 I7178 (up3 A7178 29 (x7174.toNatClampNeg) (vp_nar .boolean 0))
noncomputable def fX1_placesWithin (I : Nat → Int32) (A : Nat → Nat → Int32) (z1 : Int32) (z2 : Int32) : Int32 × (Nat → Int32) × (Nat → Nat → Int32) := itr_iIA dfX (bX1_placesWithin_2 I z1 z2) FU 0 I A
def wo_k278_X1_placesWithin : List Cond := [Cond.fieldLink RX1 24 "WarpDesk$Finder" "covered" "[Z", Cond.fieldLink RX1 119 "WarpDesk$Finder" "matches" "I", Cond.methodLink RX1 133 yX1_matchDistance, Cond.instanceMethod yX1_matchDistance, Cond.selects RX1 yX1_matchDistance yX1_matchDistance, Cond.initialized RX1, Cond.methodLink RX1 136 yX1_matchWindow, Cond.instanceMethod yX1_matchWindow, Cond.selects RX1 yX1_matchWindow yX1_matchWindow, Cond.methodLink RX1 139 yX1_coverFrom, Cond.instanceMethod yX1_coverFrom, Cond.selects RX1 yX1_coverFrom yX1_coverFrom]
def wz_k278_X1_placesWithin : List Cond := .code yX1_placesWithin cX1_placesWithin 5 (some .int) :: (wo_k278_X1_placesWithin ++ (wsX10 ++ (wz_k273_X1_matchDistance ++ (wz_k274_X1_matchWindow ++ (wz_k279_X1_coverFrom ++ ([] : List Cond))))))
theorem zg_k278_X1_placesWithin : ∀ w ∈ wz_k278_X1_placesWithin, goodWord w = true := zg_cons rfl (zg_app (by decide +kernel) (zg_app zgU_wsX10 (zg_app zg_k273_X1_matchDistance (zg_app zg_k274_X1_matchWindow (zg_app zg_k279_X1_coverFrom zg_nil)))))
theorem zi_k278_X1_placesWithin : ∀ w ∈ wz_k278_X1_placesWithin, w ∈ lw_tbl := zi_cons zw_1188 (zi_app (zi_cons zw_415 (zi_cons zw_414 (zi_cons zw_1180 (zi_cons zw_1169 (zi_cons zw_1170 (zi_cons zw_113 (zi_cons zw_1189 (zi_cons zw_1165 (zi_cons zw_1166 (zi_cons zw_1190 (zi_cons zw_1192 (zi_cons zw_38 zi_nil)))))))))))) (zi_app inX1 (zi_app zi_k273_X1_matchDistance (zi_app zi_k274_X1_matchWindow (zi_app zi_k279_X1_coverFrom zi_nil)))))
set_option maxHeartbeats 4000000 in
set_option maxRecDepth 100000 in
theorem k278_X1_placesWithin (l : Launch) (D : va_G) (zt : Nat × Nat × Nat × (Nat → Nat) × (Nat → Nat)) (q : Nat → Nat) (d : Nat → ClassId) (I : Nat → Int32) (A : Nat → Nat → Int32) (z1 : Int32) (z2 : Int32) (hIv : IvX I A) : GM l D zt (tyX d) yX1_placesWithin wz_k278_X1_placesWithin ({ frames := 1, cells := 0, slots := 0, locals := 24 } : Room) [.ref (q 43), .int z1, .int z2] (wX q d I A) (fun v _ w' => ∃ (I' : Nat → Int32) (A' : Nat → Nat → Int32), Md [] I I' ∧ Md [29] A A' ∧ IvX I' A' ∧ ∃ y0 : Int32, FE (fX1_placesWithin I A z1 z2) (y0, I', A') ∧ v = some (.int y0) ∧ w' = wX q d I' A') 0 0 := by
  refine GM.of (cc := cX1_placesWithin) (maxL := 5) (ret := (some .int)) (own := RX1) (lv := [(0, .ref (q 43)), (1, .int z1), (2, .int z2)]) (by decide) rfl rfl (Nat.le_of_ble_eq_true rfl) rfl (fun κ sz hk hR hN => ?_)
  have hin1 : ∀ w ∈ u_ws RX1 TX1 11, w ∈ wz_k278_X1_placesWithin := fun w h => (List.mem_cons_of_mem _ (List.mem_append_right _ (List.mem_append_left _ h)))
  have hF : FE (fX1_placesWithin I A z1 z2) (fX1_placesWithin I A z1 z2) := FE.rf
  refine g_iconst (v := 0) hk dX1_placesWithin_0 (by decide) ?_
  refine g_istore_n (lv' := [(3, .int 0), (0, .ref (q 43)), (1, .int z1), (2, .int z2)]) hk dX1_placesWithin_1 (by decide) rfl ?_
  have lp7785 : ∀ (n7786 : Nat) (x7174 : Int32) (I7178 : Nat → Int32) (A7178 : Nat → Nat → Int32), (Md [] I I7178) → (Md [29] A A7178) → (IvX I7178 A7178) → (0 ≤ x7174.toInt) → (x7174.toInt ≤ 160) → (161 - x7174.toInt < (n7786 : Int)) → (0 < n7786) → (FE (fX1_placesWithin I A z1 z2) (itr_iIA dfX (bX1_placesWithin_2 I z1 z2) n7786 x7174 I7178 A7178)) → GW κ 5 0 0 (wX q d I7178 A7178) 2 [(3, .int x7174), (0, .ref (q 43)), (1, .int z1), (2, .int z2)] [] := by
    intro n7786
    induction n7786 with
    | zero =>
      intro x7174 I7178 A7178 hI7178 hA7178 hV7178 h7783 h7784 m7787 m7787z hF
      exact absurd m7787z (Nat.lt_irrefl 0)
    | succ n7786 ih7789 =>
      intro x7174 I7178 A7178 hI7178 hA7178 hV7178 h7783 h7784 m7787 m7787z hF
      replace hF := FE.itr_iIA hF
      refine g_iload_n hk dX1_placesWithin_2 rfl ?_
      refine g_sipush (v := 160) hk dX1_placesWithin_3 (by decide) ?_
      refine g_icmp_ge (tgt := 22) (a := x7174.toInt) (b := 160) hk dX1_placesWithin_6 (by decide) rfl rfl (fun c7790 => ?_) (fun c7790 => ?_)
      · skip
        replace hF := FE.pos hF c7790
        refine g_iconst (v := 0) hk dX1_placesWithin_22 (by decide) ?_
        refine g_istore_n (lv' := [(3, .int 0), (0, .ref (q 43)), (1, .int z1), (2, .int z2)]) hk dX1_placesWithin_23 (by decide) rfl ?_
        have lp7986 : ∀ (n7987 : Nat) (x7791 : Int32) (I7795 : Nat → Int32) (A7795 : Nat → Nat → Int32), (Md [] I7178 I7795) → (Md [29] A7178 A7795) → (IvX I7795 A7795) → (0 ≤ x7791.toInt) → ((I 37).toInt + 1 - x7791.toInt < (n7987 : Int)) → (0 < n7987) → (FE (fX1_placesWithin I A z1 z2) (itr_iIA dfX (bX1_placesWithin_24 I z1 z2) n7987 x7791 I7795 A7795)) → GW κ 5 0 0 (wX q d I7795 A7795) 24 [(3, .int x7791), (0, .ref (q 43)), (1, .int z1), (2, .int z2)] [] := by
          intro n7987
          induction n7987 with
          | zero =>
            intro x7791 I7795 A7795 hI7795 hA7795 hV7795 h7985 m7988 m7988z hF
            exact absurd m7988z (Nat.lt_irrefl 0)
          | succ n7987 ih7990 =>
            intro x7791 I7795 A7795 hI7795 hA7795 hV7795 h7985 m7988 m7988z hF
            replace hF := FE.itr_iIA hF
            refine g_iload_n hk dX1_placesWithin_24 rfl ?_
            refine g_aload_n hk dX1_placesWithin_25 rfl ?_
            refine gX_i37 (v := (I 37)) hk hin1 (List.mem_cons_of_mem _ (List.mem_append_left _ (List.mem_of_getElem? (i := 1) rfl))) dX1_placesWithin_26 ((hI7795 37 rfl).trans (hI7178 37 rfl)) ?_
            have b7991l := Int32.le_toInt x7791
            have b7991h := Int32.toInt_lt x7791
            have b7992l := Int32.le_toInt (I 37)
            have b7992h := Int32.toInt_lt (I 37)
            refine g_icmp_ge (tgt := 57) (a := x7791.toInt) (b := (I 37).toInt) hk dX1_placesWithin_29 (by decide) rfl rfl (fun c7993 => ?_) (fun c7993 => ?_)
            · skip
              replace hF := FE.pos hF c7993
              refine g_iconst (v := 0) hk dX1_placesWithin_57 (by decide) ?_
              refine g_istore_n (lv' := [(3, .int 0), (0, .ref (q 43)), (1, .int z1), (2, .int z2)]) hk dX1_placesWithin_58 (by decide) rfl ?_
              refine g_iconst (v := 0) hk dX1_placesWithin_59 (by decide) ?_
              refine g_istore (lv' := [(4, .int 0), (3, .int 0), (0, .ref (q 43)), (1, .int z1), (2, .int z2)]) hk dX1_placesWithin_60 (by decide) rfl ?_
              have lp8032 : ∀ (n8033 : Nat) (x7994 : Int32) (x7995 : Int32), (0 ≤ x7994.toInt) → (x7994.toInt ≤ 160) → (161 - x7994.toInt < (n8033 : Int)) → (0 < n8033) → (FE (fX1_placesWithin I A z1 z2) (itr_ii dfX (bX1_placesWithin_62 I7795 A7795) n8033 x7994 x7995)) → GW κ 5 0 0 (wX q d I7795 A7795) 62 [(4, .int x7994), (3, .int x7995), (0, .ref (q 43)), (1, .int z1), (2, .int z2)] [] := by
                intro n8033
                induction n8033 with
                | zero =>
                  intro x7994 x7995 h8030 h8031 m8034 m8034z hF
                  exact absurd m8034z (Nat.lt_irrefl 0)
                | succ n8033 ih8036 =>
                  intro x7994 x7995 h8030 h8031 m8034 m8034z hF
                  replace hF := FE.itr_ii hF
                  refine g_iload hk dX1_placesWithin_62 rfl ?_
                  refine g_sipush (v := 160) hk dX1_placesWithin_64 (by decide) ?_
                  refine g_icmp_ge (tgt := 89) (a := x7994.toInt) (b := 160) hk dX1_placesWithin_67 (by decide) rfl rfl (fun c8037 => ?_) (fun c8037 => ?_)
                  · skip
                    replace hF := FE.pos hF c8037
                    refine g_iload_n hk dX1_placesWithin_89 rfl ?_
                    have b8038l := Int32.le_toInt x7995
                    have b8038h := Int32.toInt_lt x7995
                    exact g_iret hk hR rfl ⟨I7795, A7795, (show Md [] I I7795 from (Md.tr (Md.tr Md.rf hI7178 rfl) hI7795 rfl)), (show Md [29] A A7795 from (Md.tr (Md.tr Md.rf hA7178 rfl) hA7795 rfl)), hV7795, x7995, hF, rfl, rfl⟩ dX1_placesWithin_90
                  · skip
                    replace hF := FE.neg hF c8037
                    refine g_aload_n hk dX1_placesWithin_70 rfl ?_
                    refine gX_r43_10 hk hin1 (List.mem_cons_of_mem _ (List.mem_append_left _ (List.mem_of_getElem? (i := 0) rfl))) dX1_placesWithin_71 ?_
                    refine g_iload hk dX1_placesWithin_74 rfl ?_
                    refine lX_29 (v := (A7795 29 x7994.toNatClampNeg)) hk (vp_in_iff.mpr ⟨by omega, by omega⟩) rfl dX1_placesWithin_76 ?_
                    have b8039l := Int32.le_toInt (A7795 29 x7994.toNatClampNeg)
                    have b8039h := Int32.toInt_lt (A7795 29 x7994.toNatClampNeg)
                    refine g_if_eq (tgt := 83) (a := (A7795 29 x7994.toNatClampNeg).toInt) hk dX1_placesWithin_77 (by decide) rfl (fun c8040 => ?_) (fun c8040 => ?_)
                    · skip
                      replace hF := FE.pos hF c8040
                      obtain ⟨y8041, ey8041⟩ : ∃ y : Int32, y = x7994 + Int32.ofInt 1 := ⟨_, rfl⟩
                      replace hF := FE.lt hF ey8041
                      have hy8041 : y8041.toInt = x7994.toInt + 1 := i32_add ey8041 rfl (by decide) (by omega) (by omega)
                      refine g_iinc (v := y8041) (lv' := [(4, .int y8041), (3, .int x7995), (0, .ref (q 43)), (1, .int z1), (2, .int z2)]) hk 0 dX1_placesWithin_83 rfl ey8041.symm (by decide) rfl ?_
                      refine g_goto (tgt := 62) hk dX1_placesWithin_86 (by decide) ?_
                      exact g_lv (List.forall_mem_cons.mpr ⟨List.mem_of_getElem? (i := 0) rfl, (List.forall_mem_cons.mpr ⟨List.mem_of_getElem? (i := 1) rfl, (List.forall_mem_cons.mpr ⟨List.mem_of_getElem? (i := 2) rfl, (List.forall_mem_cons.mpr ⟨List.mem_of_getElem? (i := 3) rfl, (List.forall_mem_cons.mpr ⟨List.mem_of_getElem? (i := 4) rfl, (fun _ h => absurd h List.not_mem_nil)⟩)⟩)⟩)⟩)⟩) (ih8036 y8041 x7995 (by omega) (by omega) (by omega) (by omega) hF)
                    · skip
                      replace hF := FE.neg hF c8040
                      have b8042l := Int32.le_toInt x7995
                      have b8042h := Int32.toInt_lt x7995
                      obtain ⟨y8043, ey8043⟩ : ∃ y : Int32, y = x7995 + Int32.ofInt 1 := ⟨_, rfl⟩
                      replace hF := FE.lt hF ey8043
                      refine g_iinc (v := y8043) (lv' := [(3, .int y8043), (4, .int x7994), (0, .ref (q 43)), (1, .int z1), (2, .int z2)]) hk 1 dX1_placesWithin_80 rfl ey8043.symm (by decide) rfl ?_
                      obtain ⟨y8044, ey8044⟩ : ∃ y : Int32, y = x7994 + Int32.ofInt 1 := ⟨_, rfl⟩
                      replace hF := FE.lt hF ey8044
                      have hy8044 : y8044.toInt = x7994.toInt + 1 := i32_add ey8044 rfl (by decide) (by omega) (by omega)
                      refine g_iinc (v := y8044) (lv' := [(4, .int y8044), (3, .int y8043), (0, .ref (q 43)), (1, .int z1), (2, .int z2)]) hk 1 dX1_placesWithin_83 rfl ey8044.symm (by decide) rfl ?_
                      refine g_goto (tgt := 62) hk dX1_placesWithin_86 (by decide) ?_
                      exact g_lv (List.forall_mem_cons.mpr ⟨List.mem_of_getElem? (i := 0) rfl, (List.forall_mem_cons.mpr ⟨List.mem_of_getElem? (i := 1) rfl, (List.forall_mem_cons.mpr ⟨List.mem_of_getElem? (i := 2) rfl, (List.forall_mem_cons.mpr ⟨List.mem_of_getElem? (i := 3) rfl, (List.forall_mem_cons.mpr ⟨List.mem_of_getElem? (i := 4) rfl, (fun _ h => absurd h List.not_mem_nil)⟩)⟩)⟩)⟩)⟩) (ih8036 y8044 y8043 (by omega) (by omega) (by omega) (by omega) hF)
              have k8046 : (0 : Int32).toInt = 0 := rfl
              have n8045a : 161 - 0 < (FU : Int) := by have := FU_eq; omega
              have n8045b : 0 < FU := by have := FU_eq; omega
              exact lp8032 FU 0 0 (by omega) (by omega) n8045a n8045b hF
            · skip
              replace hF := FE.neg hF c7993
              refine g_aload_n hk dX1_placesWithin_32 rfl ?_
              refine g_iload_n hk dX1_placesWithin_33 rfl ?_
              refine g_callV (n := 1) hk (k273_X1_matchDistance l D zt q d I7795 A7795 x7791 hV7795) (SP.same _) (fun _ h => h) (gi_V (List.mem_cons_of_mem _ (List.mem_append_left _ (List.mem_of_getElem? (i := 2) rfl))) (List.mem_cons_of_mem _ (List.mem_append_left _ (List.mem_of_getElem? (i := 3) rfl))) (List.mem_cons_of_mem _ (List.mem_append_left _ (List.mem_of_getElem? (i := 4) rfl))) (List.mem_cons_of_mem _ (List.mem_append_left _ (List.mem_of_getElem? (i := 5) rfl))) (gi_sub (fun w h => (List.mem_cons_of_mem _ (List.mem_append_right _ (List.mem_append_right _ (List.mem_append_left _ h))))) zg_k273_X1_matchDistance)) rfl rfl rfl (by decide +kernel) ⟨Nat.le_of_ble_eq_true rfl, Nat.le_of_ble_eq_true rfl⟩ 43 rfl rfl rfl rfl (Nat.le_of_ble_eq_true rfl) ⟨Nat.le_of_ble_eq_true rfl, Nat.le_of_ble_eq_true rfl⟩ dX1_placesWithin_34 (fun v ty' w' hp hk' => ?_)
              obtain ⟨y8047, hC, rfl, rfl⟩ := hp
              replace hF := FE.lt hF (fe_s hC)
              show GW κ 5 0 0 (wX q d I7795 A7795) 37 [(3, .int x7791), (0, .ref (q 43)), (1, .int z1), (2, .int z2)] [.int y8047]
              refine g_iload_n hk dX1_placesWithin_37 rfl ?_
              have b8048l := Int32.le_toInt y8047
              have b8048h := Int32.toInt_lt y8047
              have b8049l := Int32.le_toInt z1
              have b8049h := Int32.toInt_lt z1
              refine g_icmp_gt (tgt := 51) (a := y8047.toInt) (b := z1.toInt) hk dX1_placesWithin_38 (by decide) rfl rfl (fun c8050 => ?_) (fun c8050 => ?_)
              · skip
                replace hF := FE.pos hF c8050
                obtain ⟨y8051, ey8051⟩ : ∃ y : Int32, y = x7791 + Int32.ofInt 1 := ⟨_, rfl⟩
                replace hF := FE.lt hF ey8051
                have hy8051 : y8051.toInt = x7791.toInt + 1 := i32_add ey8051 rfl (by decide) (by omega) (by omega)
                refine g_iinc (v := y8051) (lv' := [(3, .int y8051), (0, .ref (q 43)), (1, .int z1), (2, .int z2)]) hk 0 dX1_placesWithin_51 rfl ey8051.symm (by decide) rfl ?_
                refine g_goto (tgt := 24) hk dX1_placesWithin_54 (by decide) ?_
                exact g_lv (List.forall_mem_cons.mpr ⟨List.mem_of_getElem? (i := 0) rfl, (List.forall_mem_cons.mpr ⟨List.mem_of_getElem? (i := 1) rfl, (List.forall_mem_cons.mpr ⟨List.mem_of_getElem? (i := 2) rfl, (List.forall_mem_cons.mpr ⟨List.mem_of_getElem? (i := 3) rfl, (fun _ h => absurd h List.not_mem_nil)⟩)⟩)⟩)⟩) (ih7990 y8051 I7795 A7795 (show Md [] I7178 I7795 from Md.tr hI7795 (show Md [] I7795 I7795 from Md.rf) rfl) (show Md [29] A7178 A7795 from Md.tr hA7795 (show Md [29] A7795 A7795 from Md.rf) rfl) hV7795 (by omega) (by omega) (by omega) hF)
              · skip
                replace hF := FE.neg hF c8050
                refine g_aload_n hk dX1_placesWithin_41 rfl ?_
                refine g_aload_n hk dX1_placesWithin_42 rfl ?_
                refine g_iload_n hk dX1_placesWithin_43 rfl ?_
                refine g_callV (n := 1) hk (k274_X1_matchWindow l D zt q d I7795 A7795 x7791 hV7795) (SP.same _) (fun _ h => h) (gi_V (List.mem_cons_of_mem _ (List.mem_append_left _ (List.mem_of_getElem? (i := 6) rfl))) (List.mem_cons_of_mem _ (List.mem_append_left _ (List.mem_of_getElem? (i := 7) rfl))) (List.mem_cons_of_mem _ (List.mem_append_left _ (List.mem_of_getElem? (i := 8) rfl))) (List.mem_cons_of_mem _ (List.mem_append_left _ (List.mem_of_getElem? (i := 5) rfl))) (gi_sub (fun w h => (List.mem_cons_of_mem _ (List.mem_append_right _ (List.mem_append_right _ (List.mem_append_right _ (List.mem_append_left _ h)))))) zg_k274_X1_matchWindow)) rfl rfl rfl (by decide +kernel) ⟨Nat.le_of_ble_eq_true rfl, Nat.le_of_ble_eq_true rfl⟩ 43 rfl rfl rfl rfl (Nat.le_of_ble_eq_true rfl) ⟨Nat.le_of_ble_eq_true rfl, Nat.le_of_ble_eq_true rfl⟩ dX1_placesWithin_44 (fun v ty' w' hp hk' => ?_)
                obtain ⟨y8052, hC, rfl, rfl⟩ := hp
                replace hF := FE.lt hF (fe_s hC)
                show GW κ 5 0 0 (wX q d I7795 A7795) 47 [(3, .int x7791), (0, .ref (q 43)), (1, .int z1), (2, .int z2)] [.int y8052, .ref (q 43)]
                refine g_iload_n hk dX1_placesWithin_47 rfl ?_
                refine g_callV (n := 2) hk (k279_X1_coverFrom l D zt q d I7795 A7795 y8052 z2 hV7795) (SP.same _) (fun _ h => h) (gi_V (List.mem_cons_of_mem _ (List.mem_append_left _ (List.mem_of_getElem? (i := 9) rfl))) (List.mem_cons_of_mem _ (List.mem_append_left _ (List.mem_of_getElem? (i := 10) rfl))) (List.mem_cons_of_mem _ (List.mem_append_left _ (List.mem_of_getElem? (i := 11) rfl))) (List.mem_cons_of_mem _ (List.mem_append_left _ (List.mem_of_getElem? (i := 5) rfl))) (gi_sub (fun w h => (List.mem_cons_of_mem _ (List.mem_append_right _ (List.mem_append_right _ (List.mem_append_right _ (List.mem_append_right _ (List.mem_append_left _ h))))))) zg_k279_X1_coverFrom)) rfl rfl rfl (by decide +kernel) ⟨Nat.le_of_ble_eq_true rfl, Nat.le_of_ble_eq_true rfl⟩ 43 rfl rfl rfl rfl (Nat.le_of_ble_eq_true rfl) ⟨Nat.le_of_ble_eq_true rfl, Nat.le_of_ble_eq_true rfl⟩ dX1_placesWithin_48 (fun v ty' w' hp hk' => ?_)
                obtain ⟨I8054, A8054, hI8054, hA8054, hV8054, hC, rfl, rfl⟩ := hp
                replace hF := FE.bdX hF hC
                show GW κ 5 0 0 (wX q d I8054 A8054) 51 [(3, .int x7791), (0, .ref (q 43)), (1, .int z1), (2, .int z2)] []
                obtain ⟨y8055, ey8055⟩ : ∃ y : Int32, y = x7791 + Int32.ofInt 1 := ⟨_, rfl⟩
                replace hF := FE.lt hF ey8055
                have hy8055 : y8055.toInt = x7791.toInt + 1 := i32_add ey8055 rfl (by decide) (by omega) (by omega)
                refine g_iinc (v := y8055) (lv' := [(3, .int y8055), (0, .ref (q 43)), (1, .int z1), (2, .int z2)]) hk 0 dX1_placesWithin_51 rfl ey8055.symm (by decide) rfl ?_
                refine g_goto (tgt := 24) hk dX1_placesWithin_54 (by decide) ?_
                exact g_lv (List.forall_mem_cons.mpr ⟨List.mem_of_getElem? (i := 0) rfl, (List.forall_mem_cons.mpr ⟨List.mem_of_getElem? (i := 1) rfl, (List.forall_mem_cons.mpr ⟨List.mem_of_getElem? (i := 2) rfl, (List.forall_mem_cons.mpr ⟨List.mem_of_getElem? (i := 3) rfl, (fun _ h => absurd h List.not_mem_nil)⟩)⟩)⟩)⟩) (ih7990 y8055 I8054 A8054 (show Md [] I7178 I8054 from Md.tr hI7795 (show Md [] I7795 I8054 from (Md.tr Md.rf hI8054 rfl)) rfl) (show Md [29] A7178 A8054 from Md.tr hA7795 (show Md [29] A7795 A8054 from (Md.tr Md.rf hA8054 rfl)) rfl) hV8054 (by omega) (by omega) (by omega) hF)
        have k8057 : (0 : Int32).toInt = 0 := rfl
        have b8058 := Int32.le_toInt (I 37)
        have b8059 := Int32.toInt_lt (I 37)
        have n8056a : (I 37).toInt + 1 - 0 < (FU : Int) := by have := FU_eq; omega
        have n8056b : 0 < FU := by have := FU_eq; omega
        exact lp7986 FU 0 I7178 A7178 Md.rf Md.rf hV7178 (by omega) n8056a n8056b hF
      · skip
        replace hF := FE.neg hF c7790
        refine g_aload_n hk dX1_placesWithin_9 rfl ?_
        refine gX_r43_10 hk hin1 (List.mem_cons_of_mem _ (List.mem_append_left _ (List.mem_of_getElem? (i := 0) rfl))) dX1_placesWithin_10 ?_
        refine g_iload_n hk dX1_placesWithin_13 rfl ?_
        refine g_iconst (v := 0) hk dX1_placesWithin_14 (by decide) ?_
        have k8060 : (0 : Int32).toInt = 0 := rfl
        refine sX_29 (y := (vp_nar .boolean 0)) (j := x7174.toNatClampNeg) hk (vp_in_iff.mpr ⟨by omega, by omega⟩) rfl rfl dX1_placesWithin_15 ?_
        obtain ⟨y8061, ey8061⟩ : ∃ y : Int32, y = x7174 + Int32.ofInt 1 := ⟨_, rfl⟩
        replace hF := FE.lt hF ey8061
        have hy8061 : y8061.toInt = x7174.toInt + 1 := i32_add ey8061 rfl (by decide) (by omega) (by omega)
        refine g_iinc (v := y8061) (lv' := [(3, .int y8061), (0, .ref (q 43)), (1, .int z1), (2, .int z2)]) hk 0 dX1_placesWithin_16 rfl ey8061.symm (by decide) rfl ?_
        refine g_goto (tgt := 2) hk dX1_placesWithin_19 (by decide) ?_
        exact g_lv (List.forall_mem_cons.mpr ⟨List.mem_of_getElem? (i := 0) rfl, (List.forall_mem_cons.mpr ⟨List.mem_of_getElem? (i := 1) rfl, (List.forall_mem_cons.mpr ⟨List.mem_of_getElem? (i := 2) rfl, (List.forall_mem_cons.mpr ⟨List.mem_of_getElem? (i := 3) rfl, (fun _ h => absurd h List.not_mem_nil)⟩)⟩)⟩)⟩) (ih7789 y8061 I7178 (up3 A7178 29 (x7174.toNatClampNeg) (vp_nar .boolean 0)) (show Md [] I I7178 from Md.tr hI7178 (show Md [] I7178 I7178 from Md.rf) rfl) (show Md [29] A (up3 A7178 29 (x7174.toNatClampNeg) (vp_nar .boolean 0)) from Md.tr hA7178 (show Md [29] A7178 (up3 A7178 29 (x7174.toNatClampNeg) (vp_nar .boolean 0)) from (Md.up3 Md.rf rfl)) rfl) ⟨(IvX_f0 (I := I7178) (A := A7178) hV7178), (IvX_f18 (I := I7178) (A := A7178) hV7178), (IvX_f30 (I := I7178) (A := A7178) hV7178), (IvX_f31 (I := I7178) (A := A7178) hV7178), (IvX_a4 (I := I7178) (A := A7178) hV7178), (IvX_a9 (I := I7178) (A := A7178) hV7178), trivial⟩ (by omega) (by omega) (by omega) (by omega) hF)
  have k8063 : (0 : Int32).toInt = 0 := rfl
  have n8062a : 161 - 0 < (FU : Int) := by have := FU_eq; omega
  have n8062b : 0 < FU := by have := FU_eq; omega
  exact lp7785 FU 0 I A Md.rf Md.rf hIv (by omega) (by omega) n8062a n8062b hF
noncomputable def fX11_cover (I : Nat → Int32) (A : Nat → Nat → Int32) (z1 : Int32) (z2 : Int32) : Int32 × (Nat → Int32) × (Nat → Nat → Int32) := if z2.toInt < 0 then ((-1), I, A) else if fX4_has_2 I A z1 = 0 then ((-1), I, A) else f_bdX (fX1_findMatches I A z1) fun _ I7163 A7163 => if (fX4_lengthOf_2 I7163 A7163 z1).2 = 0 then f_bdX (fX1_placesWithin I7163 A7163 z2 0) fun y8065 I8066 A8066 => (y8065, I8066, A8066) else f_lt (fX4_lengthOf_2 I7163 A7163 z1).1 fun y7171 => f_bdX (fX1_placesWithin I7163 A7163 z2 y7171) fun y8068 I8069 A8069 => (y8068, I8069, A8069)
def wo_k277_X11_cover : List Cond := [Cond.fieldLink RX11 35 "WarpDesk" "queries" "LWarpDesk$Queries;", Cond.methodLink RX11 251 yX4_has, Cond.instanceMethod yX4_has, Cond.selects RX4 yX4_has yX4_has, Cond.initialized RX4, Cond.fieldLink RX11 74 "WarpDesk" "finder" "LWarpDesk$Finder;", Cond.methodLink RX11 284 yX1_findMatches, Cond.instanceMethod yX1_findMatches, Cond.selects RX1 yX1_findMatches yX1_findMatches, Cond.initialized RX1, Cond.methodLink RX11 254 yX4_lengthOf, Cond.instanceMethod yX4_lengthOf, Cond.selects RX4 yX4_lengthOf yX4_lengthOf, Cond.methodLink RX11 296 yX1_placesWithin, Cond.instanceMethod yX1_placesWithin, Cond.selects RX1 yX1_placesWithin yX1_placesWithin]
def wz_k277_X11_cover : List Cond := .code yX11_cover cX11_cover 3 (some .int) :: (wo_k277_X11_cover ++ (wsX110 ++ (wz_k155_X4_has ++ (wz_k269_X1_findMatches ++ (wz_k165_X4_lengthOf ++ (wz_k278_X1_placesWithin ++ ([] : List Cond)))))))
theorem zg_k277_X11_cover : ∀ w ∈ wz_k277_X11_cover, goodWord w = true := zg_cons rfl (zg_app (by decide +kernel) (zg_app zgU_wsX110 (zg_app zg_k155_X4_has (zg_app zg_k269_X1_findMatches (zg_app zg_k165_X4_lengthOf (zg_app zg_k278_X1_placesWithin zg_nil))))))
theorem zi_k277_X11_cover : ∀ w ∈ wz_k277_X11_cover, w ∈ lw_tbl := zi_cons zw_1184 (zi_app (zi_cons zw_490 (zi_cons zw_1086 (zi_cons zw_747 (zi_cons zw_748 (zi_cons zw_108 (zi_cons zw_495 (zi_cons zw_1147 (zi_cons zw_1148 (zi_cons zw_1149 (zi_cons zw_113 (zi_cons zw_1087 (zi_cons zw_757 (zi_cons zw_758 (zi_cons zw_1185 (zi_cons zw_1186 (zi_cons zw_1187 zi_nil)))))))))))))))) (zi_app inX11 (zi_app zi_k155_X4_has (zi_app zi_k269_X1_findMatches (zi_app zi_k165_X4_lengthOf (zi_app zi_k278_X1_placesWithin zi_nil))))))
set_option maxHeartbeats 4000000 in
set_option maxRecDepth 100000 in
theorem k277_X11_cover (l : Launch) (D : va_G) (zt : Nat × Nat × Nat × (Nat → Nat) × (Nat → Nat)) (q : Nat → Nat) (d : Nat → ClassId) (I : Nat → Int32) (A : Nat → Nat → Int32) (z1 : Int32) (z2 : Int32) (hIv : IvX I A) : GM l D zt (tyX d) yX11_cover wz_k277_X11_cover ({ frames := 7, cells := 0, slots := 0, locals := 154 } : Room) [.ref (q 0), .int z1, .int z2] (wX q d I A) (fun v _ w' => ∃ (I' : Nat → Int32) (A' : Nat → Nat → Int32), Md [28, 30, 31, 32, 33, 34, 37] I I' ∧ Md [21, 22, 23, 26, 27, 28, 29] A A' ∧ IvX I' A' ∧ ∃ y0 : Int32, FE (fX11_cover I A z1 z2) (y0, I', A') ∧ v = some (.int y0) ∧ w' = wX q d I' A') 0 0 := by
  refine GM.of (cc := cX11_cover) (maxL := 3) (ret := (some .int)) (own := RX11) (lv := [(0, .ref (q 0)), (1, .int z1), (2, .int z2)]) (by decide) rfl rfl (Nat.le_of_ble_eq_true rfl) rfl (fun κ sz hk hR hN => ?_)
  have hin11 : ∀ w ∈ u_ws RX11 TX11 10, w ∈ wz_k277_X11_cover := fun w h => (List.mem_cons_of_mem _ (List.mem_append_right _ (List.mem_append_left _ h)))
  have hF : FE (fX11_cover I A z1 z2) (fX11_cover I A z1 z2) := FE.rf
  refine g_iload_n hk dX11_cover_0 rfl ?_
  have b7154l := Int32.le_toInt z2
  have b7154h := Int32.toInt_lt z2
  refine g_if_lt (tgt := 15) (a := z2.toInt) hk dX11_cover_1 (by decide) rfl (fun c7155 => ?_) (fun c7155 => ?_)
  · skip
    replace hF := FE.pos hF c7155
    refine g_iconst (v := (-1)) hk dX11_cover_15 (by decide) ?_
    exact g_iret hk hR rfl ⟨I, A, (show Md [28, 30, 31, 32, 33, 34, 37] I I from Md.rf), (show Md [21, 22, 23, 26, 27, 28, 29] A A from Md.rf), hIv, (-1), hF, rfl, rfl⟩ dX11_cover_16
  · skip
    replace hF := FE.neg hF c7155
    refine g_aload_n hk dX11_cover_4 rfl ?_
    refine gX_r0_3 hk hin11 (List.mem_cons_of_mem _ (List.mem_append_left _ (List.mem_of_getElem? (i := 0) rfl))) dX11_cover_5 ?_
    refine g_iload_n hk dX11_cover_8 rfl ?_
    refine g_callV (n := 1) hk (k168_X4_has l D zt q d I A z1 hIv) (SP.same _) (fun _ h => h) (gi_V (List.mem_cons_of_mem _ (List.mem_append_left _ (List.mem_of_getElem? (i := 1) rfl))) (List.mem_cons_of_mem _ (List.mem_append_left _ (List.mem_of_getElem? (i := 2) rfl))) (List.mem_cons_of_mem _ (List.mem_append_left _ (List.mem_of_getElem? (i := 3) rfl))) (List.mem_cons_of_mem _ (List.mem_append_left _ (List.mem_of_getElem? (i := 4) rfl))) (gi_sub (fun w h => (List.mem_cons_of_mem _ (List.mem_append_right _ (List.mem_append_right _ (List.mem_append_left _ h))))) zg_k155_X4_has)) rfl rfl rfl (by decide +kernel) ⟨Nat.le_of_ble_eq_true rfl, Nat.le_of_ble_eq_true rfl⟩ 15 rfl rfl rfl rfl (Nat.le_of_ble_eq_true rfl) ⟨Nat.le_of_ble_eq_true rfl, Nat.le_of_ble_eq_true rfl⟩ dX11_cover_9 (fun v ty' w' hp hk' => ?_)
    rcases hp with ⟨hC, rfl, rfl⟩ | ⟨c7157, c7158, c7159, c7160, hC, rfl, rfl⟩
    · skip
      replace hF := FE.pos hF hC
      show GW κ 3 0 0 (wX q d I A) 12 [(0, .ref (q 0)), (1, .int z1), (2, .int z2)] [.int 0]
      refine g_if_ne (tgt := 17) (a := 0) hk dX11_cover_12 (by decide) rfl (fun z9 => absurd z9 (show ¬ ((0 : Int) ≠ (0 : Int)) from by decide)) (fun _ => ?_)
      refine g_iconst (v := (-1)) hk dX11_cover_15 (by decide) ?_
      exact g_iret hk hR rfl ⟨I, A, (show Md [28, 30, 31, 32, 33, 34, 37] I I from Md.rf), (show Md [21, 22, 23, 26, 27, 28, 29] A A from Md.rf), hIv, (-1), hF, rfl, rfl⟩ dX11_cover_16
    · skip
      replace hF := FE.neg hF (fe_ne hC (by decide))
      show GW κ 3 0 0 (wX q d I A) 12 [(0, .ref (q 0)), (1, .int z1), (2, .int z2)] [.int 1]
      refine g_if_ne (tgt := 17) (a := 1) hk dX11_cover_12 (by decide) rfl (fun _ => ?_) (fun z9 => absurd (show (1 : Int) ≠ (0 : Int) from by decide) z9)
      refine g_aload_n hk dX11_cover_17 rfl ?_
      refine gX_r0_8 hk hin11 (List.mem_cons_of_mem _ (List.mem_append_left _ (List.mem_of_getElem? (i := 5) rfl))) dX11_cover_18 ?_
      refine g_iload_n hk dX11_cover_21 rfl ?_
      refine g_callV (n := 1) hk (k269_X1_findMatches l D zt q d I A z1 hIv) (SP.same _) (fun _ h => h) (gi_V (List.mem_cons_of_mem _ (List.mem_append_left _ (List.mem_of_getElem? (i := 6) rfl))) (List.mem_cons_of_mem _ (List.mem_append_left _ (List.mem_of_getElem? (i := 7) rfl))) (List.mem_cons_of_mem _ (List.mem_append_left _ (List.mem_of_getElem? (i := 8) rfl))) (List.mem_cons_of_mem _ (List.mem_append_left _ (List.mem_of_getElem? (i := 9) rfl))) (gi_sub (fun w h => (List.mem_cons_of_mem _ (List.mem_append_right _ (List.mem_append_right _ (List.mem_append_right _ (List.mem_append_left _ h)))))) zg_k269_X1_findMatches)) rfl rfl rfl (by decide +kernel) ⟨Nat.le_of_ble_eq_true rfl, Nat.le_of_ble_eq_true rfl⟩ 43 rfl rfl rfl rfl (Nat.le_of_ble_eq_true rfl) ⟨Nat.le_of_ble_eq_true rfl, Nat.le_of_ble_eq_true rfl⟩ dX11_cover_22 (fun v ty' w' hp hk' => ?_)
      obtain ⟨I7163, A7163, hI7163, hA7163, hV7163, hC, rfl, rfl⟩ := hp
      replace hF := FE.bdX hF hC
      show GW κ 3 0 0 (wX q d I7163 A7163) 25 [(0, .ref (q 0)), (1, .int z1), (2, .int z2)] []
      refine g_aload_n hk dX11_cover_25 rfl ?_
      refine gX_r0_8 hk hin11 (List.mem_cons_of_mem _ (List.mem_append_left _ (List.mem_of_getElem? (i := 5) rfl))) dX11_cover_26 ?_
      refine g_iload_n hk dX11_cover_29 rfl ?_
      refine g_aload_n hk dX11_cover_30 rfl ?_
      refine gX_r0_3 hk hin11 (List.mem_cons_of_mem _ (List.mem_append_left _ (List.mem_of_getElem? (i := 0) rfl))) dX11_cover_31 ?_
      refine g_iload_n hk dX11_cover_34 rfl ?_
      refine g_callV (n := 1) hk (k182_X4_lengthOf l D zt q d I7163 A7163 z1 hV7163) (SP.same _) (fun _ h => h) (gi_V (List.mem_cons_of_mem _ (List.mem_append_left _ (List.mem_of_getElem? (i := 10) rfl))) (List.mem_cons_of_mem _ (List.mem_append_left _ (List.mem_of_getElem? (i := 11) rfl))) (List.mem_cons_of_mem _ (List.mem_append_left _ (List.mem_of_getElem? (i := 12) rfl))) (List.mem_cons_of_mem _ (List.mem_append_left _ (List.mem_of_getElem? (i := 4) rfl))) (gi_sub (fun w h => (List.mem_cons_of_mem _ (List.mem_append_right _ (List.mem_append_right _ (List.mem_append_right _ (List.mem_append_right _ (List.mem_append_left _ h))))))) zg_k165_X4_lengthOf)) rfl rfl rfl (by decide +kernel) ⟨Nat.le_of_ble_eq_true rfl, Nat.le_of_ble_eq_true rfl⟩ 15 rfl rfl rfl rfl (Nat.le_of_ble_eq_true rfl) ⟨Nat.le_of_ble_eq_true rfl, Nat.le_of_ble_eq_true rfl⟩ dX11_cover_35 (fun v ty' w' hp hk' => ?_)
      rcases hp with ⟨hC, rfl, rfl⟩ | ⟨y7171, c7165, c7166, c7167, c7168, c7169, c7170, c7172, c7173, hC, rfl, rfl⟩
      · skip
        replace hF := FE.pos hF (fe_2 hC)
        show GW κ 3 0 0 (wX q d I7163 A7163) 38 [(0, .ref (q 0)), (1, .int z1), (2, .int z2)] [.int 0, .int z2, .ref (q 43)]
        have k8064 : (0 : Int32).toInt = 0 := rfl
        refine g_callV (n := 2) hk (k278_X1_placesWithin l D zt q d I7163 A7163 z2 0 hV7163) (SP.same _) (fun _ h => h) (gi_V (List.mem_cons_of_mem _ (List.mem_append_left _ (List.mem_of_getElem? (i := 13) rfl))) (List.mem_cons_of_mem _ (List.mem_append_left _ (List.mem_of_getElem? (i := 14) rfl))) (List.mem_cons_of_mem _ (List.mem_append_left _ (List.mem_of_getElem? (i := 15) rfl))) (List.mem_cons_of_mem _ (List.mem_append_left _ (List.mem_of_getElem? (i := 9) rfl))) (gi_sub (fun w h => (List.mem_cons_of_mem _ (List.mem_append_right _ (List.mem_append_right _ (List.mem_append_right _ (List.mem_append_right _ (List.mem_append_right _ (List.mem_append_left _ h)))))))) zg_k278_X1_placesWithin)) rfl rfl rfl (by decide +kernel) ⟨Nat.le_of_ble_eq_true rfl, Nat.le_of_ble_eq_true rfl⟩ 43 rfl rfl rfl rfl (Nat.le_of_ble_eq_true rfl) ⟨Nat.le_of_ble_eq_true rfl, Nat.le_of_ble_eq_true rfl⟩ dX11_cover_38 (fun v ty' w' hp hk' => ?_)
        obtain ⟨I8066, A8066, hI8066, hA8066, hV8066, y8065, hC, rfl, rfl⟩ := hp
        replace hF := FE.bdX hF hC
        show GW κ 3 0 0 (wX q d I8066 A8066) 41 [(0, .ref (q 0)), (1, .int z1), (2, .int z2)] [.int y8065]
        have b8067l := Int32.le_toInt y8065
        have b8067h := Int32.toInt_lt y8065
        exact g_iret hk hR rfl ⟨I8066, A8066, (show Md [28, 30, 31, 32, 33, 34, 37] I I8066 from (Md.tr (Md.tr Md.rf hI7163 rfl) hI8066 rfl)), (show Md [21, 22, 23, 26, 27, 28, 29] A A8066 from (Md.tr (Md.tr Md.rf hA7163 rfl) hA8066 rfl)), hV8066, y8065, hF, rfl, rfl⟩ dX11_cover_41
      · skip
        replace hF := FE.neg hF (fe_ne2 hC (by decide))
        replace hF := FE.lt hF (fe_1 hC)
        show GW κ 3 0 0 (wX q d I7163 A7163) 38 [(0, .ref (q 0)), (1, .int z1), (2, .int z2)] [.int y7171, .int z2, .ref (q 43)]
        refine g_callV (n := 2) hk (k278_X1_placesWithin l D zt q d I7163 A7163 z2 y7171 hV7163) (SP.same _) (fun _ h => h) (gi_V (List.mem_cons_of_mem _ (List.mem_append_left _ (List.mem_of_getElem? (i := 13) rfl))) (List.mem_cons_of_mem _ (List.mem_append_left _ (List.mem_of_getElem? (i := 14) rfl))) (List.mem_cons_of_mem _ (List.mem_append_left _ (List.mem_of_getElem? (i := 15) rfl))) (List.mem_cons_of_mem _ (List.mem_append_left _ (List.mem_of_getElem? (i := 9) rfl))) (gi_sub (fun w h => (List.mem_cons_of_mem _ (List.mem_append_right _ (List.mem_append_right _ (List.mem_append_right _ (List.mem_append_right _ (List.mem_append_right _ (List.mem_append_left _ h)))))))) zg_k278_X1_placesWithin)) rfl rfl rfl (by decide +kernel) ⟨Nat.le_of_ble_eq_true rfl, Nat.le_of_ble_eq_true rfl⟩ 43 rfl rfl rfl rfl (Nat.le_of_ble_eq_true rfl) ⟨Nat.le_of_ble_eq_true rfl, Nat.le_of_ble_eq_true rfl⟩ dX11_cover_38 (fun v ty' w' hp hk' => ?_)
        obtain ⟨I8069, A8069, hI8069, hA8069, hV8069, y8068, hC, rfl, rfl⟩ := hp
        replace hF := FE.bdX hF hC
        show GW κ 3 0 0 (wX q d I8069 A8069) 41 [(0, .ref (q 0)), (1, .int z1), (2, .int z2)] [.int y8068]
        have b8070l := Int32.le_toInt y8068
        have b8070h := Int32.toInt_lt y8068
        exact g_iret hk hR rfl ⟨I8069, A8069, (show Md [28, 30, 31, 32, 33, 34, 37] I I8069 from (Md.tr (Md.tr Md.rf hI7163 rfl) hI8069 rfl)), (show Md [21, 22, 23, 26, 27, 28, 29] A A8069 from (Md.tr (Md.tr Md.rf hA7163 rfl) hA8069 rfl)), hV8069, y8068, hF, rfl, rfl⟩ dX11_cover_41
noncomputable def bX1_neededBand_2 (z1 : Int32) (z2 : Int32) : (Int32 → (Nat → Int32) → (Nat → Nat → Int32) → (Int32 × (Nat → Int32) × (Nat → Nat → Int32))) → Int32 → (Nat → Int32) → (Nat → Nat → Int32) → (Int32 × (Nat → Int32) × (Nat → Nat → Int32)) := fun kk8161 x8081 I8085 A8085 => if (fX4_lengthOf_2 I8085 A8085 z1).2 = 0 then ((-2), I8085, A8085) else f_lt (fX4_lengthOf_2 I8085 A8085 z1).1 fun y8170 => if y8170.toInt ≤ x8081.toInt then ((-2), I8085, A8085) else f_bdX (fX1_findBest I8085 A8085 z1 x8081) fun _ I8175 A8175 => if (I8175 35).toInt ≠ z2.toInt then f_lt (x8081 + Int32.ofInt 1) fun y8179 => kk8161 y8179 I8175 A8175 else (x8081, I8175, A8175)
noncomputable def fX1_neededBand (I : Nat → Int32) (A : Nat → Nat → Int32) (z1 : Int32) (z2 : Int32) : Int32 × (Nat → Int32) × (Nat → Nat → Int32) := itr_iIA dfX (bX1_neededBand_2 z1 z2) FU 0 I A
def wo_k281_X1_neededBand : List Cond := [Cond.fieldLink RX1 43 "WarpDesk$Finder" "queries" "LWarpDesk$Queries;", Cond.methodLink RX1 65 yX4_lengthOf, Cond.instanceMethod yX4_lengthOf, Cond.selects RX4 yX4_lengthOf yX4_lengthOf, Cond.initialized RX4, Cond.methodLink RX1 110 yX1_findBest, Cond.instanceMethod yX1_findBest, Cond.selects RX1 yX1_findBest yX1_findBest, Cond.initialized RX1, Cond.fieldLink RX1 100 "WarpDesk$Finder" "bestWindow" "I"]
def wz_k281_X1_neededBand : List Cond := .code yX1_neededBand cX1_neededBand 4 (some .int) :: (wo_k281_X1_neededBand ++ (wsX10 ++ (wz_k165_X4_lengthOf ++ (wz_k263_X1_findBest ++ ([] : List Cond)))))
theorem zg_k281_X1_neededBand : ∀ w ∈ wz_k281_X1_neededBand, goodWord w = true := zg_cons rfl (zg_app (by decide +kernel) (zg_app zgU_wsX10 (zg_app zg_k165_X4_lengthOf (zg_app zg_k263_X1_findBest zg_nil))))
theorem zi_k281_X1_neededBand : ∀ w ∈ wz_k281_X1_neededBand, w ∈ lw_tbl := zi_cons zw_1202 (zi_app (zi_cons zw_404 (zi_cons zw_1102 (zi_cons zw_757 (zi_cons zw_758 (zi_cons zw_108 (zi_cons zw_1203 (zi_cons zw_1118 (zi_cons zw_1119 (zi_cons zw_113 (zi_cons zw_407 zi_nil)))))))))) (zi_app inX1 (zi_app zi_k165_X4_lengthOf (zi_app zi_k263_X1_findBest zi_nil))))
set_option maxHeartbeats 4000000 in
set_option maxRecDepth 100000 in
theorem k281_X1_neededBand (l : Launch) (D : va_G) (zt : Nat × Nat × Nat × (Nat → Nat) × (Nat → Nat)) (q : Nat → Nat) (d : Nat → ClassId) (I : Nat → Int32) (A : Nat → Nat → Int32) (z1 : Int32) (z2 : Int32) (hIv : IvX I A) : GM l D zt (tyX d) yX1_neededBand wz_k281_X1_neededBand ({ frames := 6, cells := 0, slots := 0, locals := 133 } : Room) [.ref (q 43), .int z1, .int z2] (wX q d I A) (fun v _ w' => ∃ (I' : Nat → Int32) (A' : Nat → Nat → Int32), Md [28, 30, 31, 32, 33, 34, 35, 36] I I' ∧ Md [21, 22, 23] A A' ∧ IvX I' A' ∧ ∃ y0 : Int32, ((-2) ≤ y0.toInt) ∧ (y0.toInt ≤ 15) ∧ FE (fX1_neededBand I A z1 z2) (y0, I', A') ∧ v = some (.int y0) ∧ w' = wX q d I' A') 0 0 := by
  refine GM.of (cc := cX1_neededBand) (maxL := 4) (ret := (some .int)) (own := RX1) (lv := [(0, .ref (q 43)), (1, .int z1), (2, .int z2)]) (by decide) rfl rfl (Nat.le_of_ble_eq_true rfl) rfl (fun κ sz hk hR hN => ?_)
  have hin1 : ∀ w ∈ u_ws RX1 TX1 11, w ∈ wz_k281_X1_neededBand := fun w h => (List.mem_cons_of_mem _ (List.mem_append_right _ (List.mem_append_left _ h)))
  have hF : FE (fX1_neededBand I A z1 z2) (fX1_neededBand I A z1 z2) := FE.rf
  refine g_iconst (v := 0) hk dX1_neededBand_0 (by decide) ?_
  refine g_istore_n (lv' := [(3, .int 0), (0, .ref (q 43)), (1, .int z1), (2, .int z2)]) hk dX1_neededBand_1 (by decide) rfl ?_
  have lp8158 : ∀ (n8159 : Nat) (x8081 : Int32) (I8085 : Nat → Int32) (A8085 : Nat → Nat → Int32), (Md [28, 30, 31, 32, 33, 34, 35, 36] I I8085) → (Md [21, 22, 23] A A8085) → (IvX I8085 A8085) → (0 ≤ x8081.toInt) → (x8081.toInt ≤ 16) → (17 - x8081.toInt < (n8159 : Int)) → (0 < n8159) → (FE (fX1_neededBand I A z1 z2) (itr_iIA dfX (bX1_neededBand_2 z1 z2) n8159 x8081 I8085 A8085)) → GW κ 4 0 0 (wX q d I8085 A8085) 2 [(3, .int x8081), (0, .ref (q 43)), (1, .int z1), (2, .int z2)] [] := by
    intro n8159
    induction n8159 with
    | zero =>
      intro x8081 I8085 A8085 hI8085 hA8085 hV8085 h8156 h8157 m8160 m8160z hF
      exact absurd m8160z (Nat.lt_irrefl 0)
    | succ n8159 ih8162 =>
      intro x8081 I8085 A8085 hI8085 hA8085 hV8085 h8156 h8157 m8160 m8160z hF
      replace hF := FE.itr_iIA hF
      refine g_iload_n hk dX1_neededBand_2 rfl ?_
      refine g_aload_n hk dX1_neededBand_3 rfl ?_
      refine gX_r43_2 hk hin1 (List.mem_cons_of_mem _ (List.mem_append_left _ (List.mem_of_getElem? (i := 0) rfl))) dX1_neededBand_4 ?_
      refine g_iload_n hk dX1_neededBand_7 rfl ?_
      refine g_callV (n := 1) hk (k182_X4_lengthOf l D zt q d I8085 A8085 z1 hV8085) (SP.same _) (fun _ h => h) (gi_V (List.mem_cons_of_mem _ (List.mem_append_left _ (List.mem_of_getElem? (i := 1) rfl))) (List.mem_cons_of_mem _ (List.mem_append_left _ (List.mem_of_getElem? (i := 2) rfl))) (List.mem_cons_of_mem _ (List.mem_append_left _ (List.mem_of_getElem? (i := 3) rfl))) (List.mem_cons_of_mem _ (List.mem_append_left _ (List.mem_of_getElem? (i := 4) rfl))) (gi_sub (fun w h => (List.mem_cons_of_mem _ (List.mem_append_right _ (List.mem_append_right _ (List.mem_append_left _ h))))) zg_k165_X4_lengthOf)) rfl rfl rfl (by decide +kernel) ⟨Nat.le_of_ble_eq_true rfl, Nat.le_of_ble_eq_true rfl⟩ 15 rfl rfl rfl rfl (Nat.le_of_ble_eq_true rfl) ⟨Nat.le_of_ble_eq_true rfl, Nat.le_of_ble_eq_true rfl⟩ dX1_neededBand_8 (fun v ty' w' hp hk' => ?_)
      rcases hp with ⟨hC, rfl, rfl⟩ | ⟨y8170, c8164, c8165, c8166, c8167, c8168, c8169, c8171, c8172, hC, rfl, rfl⟩
      · skip
        replace hF := FE.pos hF (fe_2 hC)
        show GW κ 4 0 0 (wX q d I8085 A8085) 11 [(3, .int x8081), (0, .ref (q 43)), (1, .int z1), (2, .int z2)] [.int 0, .int x8081]
        refine g_icmp_ge (tgt := 36) (a := x8081.toInt) (b := 0) hk dX1_neededBand_11 (by decide) rfl rfl (fun _ => ?_) (fun z9 => absurd (show 0 ≤ x8081.toInt from by omega) z9)
        refine g_bipush (v := (-2)) hk dX1_neededBand_36 (by decide) ?_
        exact g_iret hk hR rfl ⟨I8085, A8085, (show Md [28, 30, 31, 32, 33, 34, 35, 36] I I8085 from (Md.tr Md.rf hI8085 rfl)), (show Md [21, 22, 23] A A8085 from (Md.tr Md.rf hA8085 rfl)), hV8085, (-2), (by decide), (by decide), hF, rfl, rfl⟩ dX1_neededBand_38
      · skip
        replace hF := FE.neg hF (fe_ne2 hC (by decide))
        replace hF := FE.lt hF (fe_1 hC)
        show GW κ 4 0 0 (wX q d I8085 A8085) 11 [(3, .int x8081), (0, .ref (q 43)), (1, .int z1), (2, .int z2)] [.int y8170, .int x8081]
        refine g_icmp_ge (tgt := 36) (a := x8081.toInt) (b := y8170.toInt) hk dX1_neededBand_11 (by decide) rfl rfl (fun c8173 => ?_) (fun c8173 => ?_)
        · skip
          replace hF := FE.pos hF c8173
          refine g_bipush (v := (-2)) hk dX1_neededBand_36 (by decide) ?_
          exact g_iret hk hR rfl ⟨I8085, A8085, (show Md [28, 30, 31, 32, 33, 34, 35, 36] I I8085 from (Md.tr Md.rf hI8085 rfl)), (show Md [21, 22, 23] A A8085 from (Md.tr Md.rf hA8085 rfl)), hV8085, (-2), (by decide), (by decide), hF, rfl, rfl⟩ dX1_neededBand_38
        · skip
          replace hF := FE.neg hF c8173
          refine g_aload_n hk dX1_neededBand_14 rfl ?_
          refine g_iload_n hk dX1_neededBand_15 rfl ?_
          refine g_iload_n hk dX1_neededBand_16 rfl ?_
          refine g_callV (n := 2) hk (k263_X1_findBest l D zt q d I8085 A8085 z1 x8081 hV8085) (SP.same _) (fun _ h => h) (gi_V (List.mem_cons_of_mem _ (List.mem_append_left _ (List.mem_of_getElem? (i := 5) rfl))) (List.mem_cons_of_mem _ (List.mem_append_left _ (List.mem_of_getElem? (i := 6) rfl))) (List.mem_cons_of_mem _ (List.mem_append_left _ (List.mem_of_getElem? (i := 7) rfl))) (List.mem_cons_of_mem _ (List.mem_append_left _ (List.mem_of_getElem? (i := 8) rfl))) (gi_sub (fun w h => (List.mem_cons_of_mem _ (List.mem_append_right _ (List.mem_append_right _ (List.mem_append_right _ (List.mem_append_left _ h)))))) zg_k263_X1_findBest)) rfl rfl rfl (by decide +kernel) ⟨Nat.le_of_ble_eq_true rfl, Nat.le_of_ble_eq_true rfl⟩ 43 rfl rfl rfl rfl (Nat.le_of_ble_eq_true rfl) ⟨Nat.le_of_ble_eq_true rfl, Nat.le_of_ble_eq_true rfl⟩ dX1_neededBand_17 (fun v ty' w' hp hk' => ?_)
          obtain ⟨I8175, A8175, hI8175, hA8175, hV8175, hC, rfl, rfl⟩ := hp
          replace hF := FE.bdX hF hC
          show GW κ 4 0 0 (wX q d I8175 A8175) 20 [(3, .int x8081), (0, .ref (q 43)), (1, .int z1), (2, .int z2)] []
          refine g_aload_n hk dX1_neededBand_20 rfl ?_
          refine gX_i35 (v := (I8175 35)) hk hin1 (List.mem_cons_of_mem _ (List.mem_append_left _ (List.mem_of_getElem? (i := 9) rfl))) dX1_neededBand_21 rfl ?_
          refine g_iload_n hk dX1_neededBand_24 rfl ?_
          have b8176l := Int32.le_toInt (I8175 35)
          have b8176h := Int32.toInt_lt (I8175 35)
          have b8177l := Int32.le_toInt z2
          have b8177h := Int32.toInt_lt z2
          refine g_icmp_ne (tgt := 30) (a := (I8175 35).toInt) (b := z2.toInt) hk dX1_neededBand_25 (by decide) rfl rfl (fun c8178 => ?_) (fun c8178 => ?_)
          · skip
            replace hF := FE.pos hF c8178
            obtain ⟨y8179, ey8179⟩ : ∃ y : Int32, y = x8081 + Int32.ofInt 1 := ⟨_, rfl⟩
            replace hF := FE.lt hF ey8179
            have hy8179 : y8179.toInt = x8081.toInt + 1 := i32_add ey8179 rfl (by decide) (by omega) (by omega)
            refine g_iinc (v := y8179) (lv' := [(3, .int y8179), (0, .ref (q 43)), (1, .int z1), (2, .int z2)]) hk 0 dX1_neededBand_30 rfl ey8179.symm (by decide) rfl ?_
            refine g_goto (tgt := 2) hk dX1_neededBand_33 (by decide) ?_
            exact g_lv (List.forall_mem_cons.mpr ⟨List.mem_of_getElem? (i := 0) rfl, (List.forall_mem_cons.mpr ⟨List.mem_of_getElem? (i := 1) rfl, (List.forall_mem_cons.mpr ⟨List.mem_of_getElem? (i := 2) rfl, (List.forall_mem_cons.mpr ⟨List.mem_of_getElem? (i := 3) rfl, (fun _ h => absurd h List.not_mem_nil)⟩)⟩)⟩)⟩) (ih8162 y8179 I8175 A8175 (show Md [28, 30, 31, 32, 33, 34, 35, 36] I I8175 from Md.tr hI8085 (show Md [28, 30, 31, 32, 33, 34, 35, 36] I8085 I8175 from (Md.tr Md.rf hI8175 rfl)) rfl) (show Md [21, 22, 23] A A8175 from Md.tr hA8085 (show Md [21, 22, 23] A8085 A8175 from (Md.tr Md.rf hA8175 rfl)) rfl) hV8175 (by omega) (by omega) (by omega) (by omega) hF)
          · skip
            replace hF := FE.neg hF c8178
            refine g_iload_n hk dX1_neededBand_28 rfl ?_
            exact g_iret hk hR rfl ⟨I8175, A8175, (show Md [28, 30, 31, 32, 33, 34, 35, 36] I I8175 from (Md.tr (Md.tr Md.rf hI8085 rfl) hI8175 rfl)), (show Md [21, 22, 23] A A8175 from (Md.tr (Md.tr Md.rf hA8085 rfl) hA8175 rfl)), hV8175, x8081, (by omega), (by omega), hF, rfl, rfl⟩ dX1_neededBand_29
  have k8181 : (0 : Int32).toInt = 0 := rfl
  have n8180a : 17 - 0 < (FU : Int) := by have := FU_eq; omega
  have n8180b : 0 < FU := by have := FU_eq; omega
  exact lp8158 FU 0 I A Md.rf Md.rf hIv (by omega) (by omega) n8180a n8180b hF
noncomputable def fX11_needs (I : Nat → Int32) (A : Nat → Nat → Int32) (z1 : Int32) (z2 : Int32) : Int32 × (Nat → Int32) × (Nat → Nat → Int32) := if fX0_hasBoth I A z1 z2 = 0 then ((-1), I, A) else f_bdX (fX1_neededBand I A z1 z2) fun y8182 I8185 A8185 => (y8182, I8185, A8185)
def wo_k280_X11_needs : List Cond := [Cond.fieldLink RX11 65 "WarpDesk" "bench" "LWarpDesk$Bench;", Cond.methodLink RX11 299 yX0_hasBoth, Cond.instanceMethod yX0_hasBoth, Cond.selects RX0 yX0_hasBoth yX0_hasBoth, Cond.initialized RX0, Cond.fieldLink RX11 74 "WarpDesk" "finder" "LWarpDesk$Finder;", Cond.methodLink RX11 302 yX1_neededBand, Cond.instanceMethod yX1_neededBand, Cond.selects RX1 yX1_neededBand yX1_neededBand, Cond.initialized RX1]
def wz_k280_X11_needs : List Cond := .code yX11_needs cX11_needs 3 (some .int) :: (wo_k280_X11_needs ++ (wsX110 ++ (wz_k223_X0_hasBoth ++ (wz_k281_X1_neededBand ++ ([] : List Cond)))))
theorem zg_k280_X11_needs : ∀ w ∈ wz_k280_X11_needs, goodWord w = true := zg_cons rfl (zg_app (by decide +kernel) (zg_app zgU_wsX110 (zg_app zg_k223_X0_hasBoth (zg_app zg_k281_X1_neededBand zg_nil))))
theorem zi_k280_X11_needs : ∀ w ∈ wz_k280_X11_needs, w ∈ lw_tbl := zi_cons zw_1197 (zi_app (zi_cons zw_494 (zi_cons zw_1198 (zi_cons zw_974 (zi_cons zw_975 (zi_cons zw_111 (zi_cons zw_495 (zi_cons zw_1199 (zi_cons zw_1200 (zi_cons zw_1201 (zi_cons zw_113 zi_nil)))))))))) (zi_app inX11 (zi_app zi_k223_X0_hasBoth (zi_app zi_k281_X1_neededBand zi_nil))))
set_option maxHeartbeats 4000000 in
set_option maxRecDepth 100000 in
theorem k280_X11_needs (l : Launch) (D : va_G) (zt : Nat × Nat × Nat × (Nat → Nat) × (Nat → Nat)) (q : Nat → Nat) (d : Nat → ClassId) (I : Nat → Int32) (A : Nat → Nat → Int32) (z1 : Int32) (z2 : Int32) (hIv : IvX I A) : GM l D zt (tyX d) yX11_needs wz_k280_X11_needs ({ frames := 7, cells := 0, slots := 0, locals := 156 } : Room) [.ref (q 0), .int z1, .int z2] (wX q d I A) (fun v _ w' => ∃ (I' : Nat → Int32) (A' : Nat → Nat → Int32), Md [28, 30, 31, 32, 33, 34, 35, 36] I I' ∧ Md [21, 22, 23] A A' ∧ IvX I' A' ∧ ∃ y0 : Int32, ((-2) ≤ y0.toInt) ∧ (y0.toInt ≤ 15) ∧ FE (fX11_needs I A z1 z2) (y0, I', A') ∧ v = some (.int y0) ∧ w' = wX q d I' A') 0 0 := by
  refine GM.of (cc := cX11_needs) (maxL := 3) (ret := (some .int)) (own := RX11) (lv := [(0, .ref (q 0)), (1, .int z1), (2, .int z2)]) (by decide) rfl rfl (Nat.le_of_ble_eq_true rfl) rfl (fun κ sz hk hR hN => ?_)
  have hin11 : ∀ w ∈ u_ws RX11 TX11 10, w ∈ wz_k280_X11_needs := fun w h => (List.mem_cons_of_mem _ (List.mem_append_right _ (List.mem_append_left _ h)))
  have hF : FE (fX11_needs I A z1 z2) (fX11_needs I A z1 z2) := FE.rf
  refine g_aload_n hk dX11_needs_0 rfl ?_
  refine gX_r0_7 hk hin11 (List.mem_cons_of_mem _ (List.mem_append_left _ (List.mem_of_getElem? (i := 0) rfl))) dX11_needs_1 ?_
  refine g_iload_n hk dX11_needs_4 rfl ?_
  refine g_iload_n hk dX11_needs_5 rfl ?_
  refine g_callV (n := 2) hk (k223_X0_hasBoth l D zt q d I A z1 z2 hIv) (SP.same _) (fun _ h => h) (gi_V (List.mem_cons_of_mem _ (List.mem_append_left _ (List.mem_of_getElem? (i := 1) rfl))) (List.mem_cons_of_mem _ (List.mem_append_left _ (List.mem_of_getElem? (i := 2) rfl))) (List.mem_cons_of_mem _ (List.mem_append_left _ (List.mem_of_getElem? (i := 3) rfl))) (List.mem_cons_of_mem _ (List.mem_append_left _ (List.mem_of_getElem? (i := 4) rfl))) (gi_sub (fun w h => (List.mem_cons_of_mem _ (List.mem_append_right _ (List.mem_append_right _ (List.mem_append_left _ h))))) zg_k223_X0_hasBoth)) rfl rfl rfl (by decide +kernel) ⟨Nat.le_of_ble_eq_true rfl, Nat.le_of_ble_eq_true rfl⟩ 37 rfl rfl rfl rfl (Nat.le_of_ble_eq_true rfl) ⟨Nat.le_of_ble_eq_true rfl, Nat.le_of_ble_eq_true rfl⟩ dX11_needs_6 (fun v ty' w' hp hk' => ?_)
  rcases hp with ⟨hC, rfl, rfl⟩ | ⟨c8072, c8073, c8074, c8075, c8076, c8077, c8078, c8079, hC, rfl, rfl⟩
  · skip
    replace hF := FE.pos hF hC
    show GW κ 3 0 0 (wX q d I A) 9 [(0, .ref (q 0)), (1, .int z1), (2, .int z2)] [.int 0]
    refine g_if_eq (tgt := 24) (a := 0) hk dX11_needs_9 (by decide) rfl (fun _ => ?_) (fun z9 => absurd (show (0 : Int) = (0 : Int) from by decide) z9)
    refine g_iconst (v := (-1)) hk dX11_needs_24 (by decide) ?_
    exact g_iret hk hR rfl ⟨I, A, (show Md [28, 30, 31, 32, 33, 34, 35, 36] I I from Md.rf), (show Md [21, 22, 23] A A from Md.rf), hIv, (-1), (by decide), (by decide), hF, rfl, rfl⟩ dX11_needs_25
  · skip
    replace hF := FE.neg hF (fe_ne hC (by decide))
    show GW κ 3 0 0 (wX q d I A) 9 [(0, .ref (q 0)), (1, .int z1), (2, .int z2)] [.int 1]
    refine g_if_eq (tgt := 24) (a := 1) hk dX11_needs_9 (by decide) rfl (fun z9 => absurd z9 (show ¬ ((1 : Int) = (0 : Int)) from by decide)) (fun _ => ?_)
    refine g_aload_n hk dX11_needs_12 rfl ?_
    refine gX_r0_8 hk hin11 (List.mem_cons_of_mem _ (List.mem_append_left _ (List.mem_of_getElem? (i := 5) rfl))) dX11_needs_13 ?_
    refine g_iload_n hk dX11_needs_16 rfl ?_
    refine g_iload_n hk dX11_needs_17 rfl ?_
    refine g_callV (n := 2) hk (k281_X1_neededBand l D zt q d I A z1 z2 hIv) (SP.same _) (fun _ h => h) (gi_V (List.mem_cons_of_mem _ (List.mem_append_left _ (List.mem_of_getElem? (i := 6) rfl))) (List.mem_cons_of_mem _ (List.mem_append_left _ (List.mem_of_getElem? (i := 7) rfl))) (List.mem_cons_of_mem _ (List.mem_append_left _ (List.mem_of_getElem? (i := 8) rfl))) (List.mem_cons_of_mem _ (List.mem_append_left _ (List.mem_of_getElem? (i := 9) rfl))) (gi_sub (fun w h => (List.mem_cons_of_mem _ (List.mem_append_right _ (List.mem_append_right _ (List.mem_append_right _ (List.mem_append_left _ h)))))) zg_k281_X1_neededBand)) rfl rfl rfl (by decide +kernel) ⟨Nat.le_of_ble_eq_true rfl, Nat.le_of_ble_eq_true rfl⟩ 43 rfl rfl rfl rfl (Nat.le_of_ble_eq_true rfl) ⟨Nat.le_of_ble_eq_true rfl, Nat.le_of_ble_eq_true rfl⟩ dX11_needs_18 (fun v ty' w' hp hk' => ?_)
    obtain ⟨I8185, A8185, hI8185, hA8185, hV8185, y8182, c8183, c8184, hC, rfl, rfl⟩ := hp
    replace hF := FE.bdX hF hC
    show GW κ 3 0 0 (wX q d I8185 A8185) 21 [(0, .ref (q 0)), (1, .int z1), (2, .int z2)] [.int y8182]
    refine g_goto (tgt := 25) hk dX11_needs_21 (by decide) ?_
    exact g_iret hk hR rfl ⟨I8185, A8185, (show Md [28, 30, 31, 32, 33, 34, 35, 36] I I8185 from (Md.tr Md.rf hI8185 rfl)), (show Md [21, 22, 23] A A8185 from (Md.tr Md.rf hA8185 rfl)), hV8185, y8182, (by omega), (by omega), hF, rfl, rfl⟩ dX11_needs_25
noncomputable def fX1_scannedDistance (I : Nat → Int32) (A : Nat → Nat → Int32) (z1 : Int32) : Int32 := if z1.toInt < 0 then (-2) else if 160 ≤ z1.toInt then (-2) else (A 26 z1.toNatClampNeg)
def wz_k284_X1_scannedDistance : List Cond := .code yX1_scannedDistance cX1_scannedDistance 2 (some .int) :: (wo_k271_X1_leastScanned ++ (wsX10 ++ ([] : List Cond)))
theorem zg_k284_X1_scannedDistance : ∀ w ∈ wz_k284_X1_scannedDistance, goodWord w = true := zg_cons rfl (zg_app (by decide +kernel) (zg_app zgU_wsX10 zg_nil))
theorem zi_k284_X1_scannedDistance : ∀ w ∈ wz_k284_X1_scannedDistance, w ∈ lw_tbl := zi_cons zw_1216 (zi_app (zi_cons zw_411 zi_nil) (zi_app inX1 zi_nil))
set_option maxHeartbeats 4000000 in
set_option maxRecDepth 100000 in
theorem k284_X1_scannedDistance (l : Launch) (D : va_G) (zt : Nat × Nat × Nat × (Nat → Nat) × (Nat → Nat)) (q : Nat → Nat) (d : Nat → ClassId) (I : Nat → Int32) (A : Nat → Nat → Int32) (z1 : Int32) (hIv : IvX I A) : GM l D zt (tyX d) yX1_scannedDistance wz_k284_X1_scannedDistance ({ frames := 0, cells := 0, slots := 0, locals := 0 } : Room) [.ref (q 43), .int z1] (wX q d I A) (fun v _ w' => ∃ y0 : Int32, FE (fX1_scannedDistance I A z1) y0 ∧ v = some (.int y0) ∧ w' = wX q d I A) 0 0 := by
  refine GM.of (cc := cX1_scannedDistance) (maxL := 2) (ret := (some .int)) (own := RX1) (lv := [(0, .ref (q 43)), (1, .int z1)]) (by decide) rfl rfl (Nat.le_of_ble_eq_true rfl) rfl (fun κ sz hk hR hN => ?_)
  have hin1 : ∀ w ∈ u_ws RX1 TX1 11, w ∈ wz_k284_X1_scannedDistance := fun w h => (List.mem_cons_of_mem _ (List.mem_append_right _ (List.mem_append_left _ h)))
  have hF : FE (fX1_scannedDistance I A z1) (fX1_scannedDistance I A z1) := FE.rf
  refine g_iload_n hk dX1_scannedDistance_0 rfl ?_
  have b8198l := Int32.le_toInt z1
  have b8198h := Int32.toInt_lt z1
  refine g_if_lt (tgt := 20) (a := z1.toInt) hk dX1_scannedDistance_1 (by decide) rfl (fun c8199 => ?_) (fun c8199 => ?_)
  · skip
    replace hF := FE.pos hF c8199
    refine g_bipush (v := (-2)) hk dX1_scannedDistance_20 (by decide) ?_
    exact g_iret hk hR rfl ⟨(-2), hF, rfl, rfl⟩ dX1_scannedDistance_22
  · skip
    replace hF := FE.neg hF c8199
    refine g_iload_n hk dX1_scannedDistance_4 rfl ?_
    refine g_sipush (v := 160) hk dX1_scannedDistance_5 (by decide) ?_
    refine g_icmp_ge (tgt := 20) (a := z1.toInt) (b := 160) hk dX1_scannedDistance_8 (by decide) rfl rfl (fun c8200 => ?_) (fun c8200 => ?_)
    · skip
      replace hF := FE.pos hF c8200
      refine g_bipush (v := (-2)) hk dX1_scannedDistance_20 (by decide) ?_
      exact g_iret hk hR rfl ⟨(-2), hF, rfl, rfl⟩ dX1_scannedDistance_22
    · skip
      replace hF := FE.neg hF c8200
      refine g_aload_n hk dX1_scannedDistance_11 rfl ?_
      refine gX_r43_6 hk hin1 (List.mem_cons_of_mem _ (List.mem_append_left _ (List.mem_of_getElem? (i := 0) rfl))) dX1_scannedDistance_12 ?_
      refine g_iload_n hk dX1_scannedDistance_15 rfl ?_
      refine lX_26 (v := (A 26 z1.toNatClampNeg)) hk (vp_in_iff.mpr ⟨by omega, by omega⟩) rfl dX1_scannedDistance_16 ?_
      refine g_goto (tgt := 22) hk dX1_scannedDistance_17 (by decide) ?_
      have b8201l := Int32.le_toInt (A 26 z1.toNatClampNeg)
      have b8201h := Int32.toInt_lt (A 26 z1.toNatClampNeg)
      exact g_iret hk hR rfl ⟨(A 26 z1.toNatClampNeg), hF, rfl, rfl⟩ dX1_scannedDistance_22
noncomputable def bX1_rankOf_11 (I : Nat → Int32) (A : Nat → Nat → Int32) (y8202 : Int32) (z1 : Int32) : (Int32 → Int32 → (Int32)) → Int32 → Int32 → (Int32) := fun kk8288 x8203 x8204 => if 160 ≤ x8203.toInt then x8204 else if (A 26 x8203.toNatClampNeg).toInt < 0 then f_lt (x8203 + Int32.ofInt 1) fun y8294 => kk8288 y8294 x8204 else if (A 26 x8203.toNatClampNeg).toInt < y8202.toInt then f_lt (x8204 + Int32.ofInt 1) fun y8298 => f_lt (x8203 + Int32.ofInt 1) fun y8299 => kk8288 y8299 y8298 else if (A 26 x8203.toNatClampNeg).toInt ≠ y8202.toInt then f_lt (x8203 + Int32.ofInt 1) fun y8301 => kk8288 y8301 x8204 else if z1.toInt ≤ x8203.toInt then f_lt (x8203 + Int32.ofInt 1) fun y8304 => kk8288 y8304 x8204 else f_lt (x8204 + Int32.ofInt 1) fun y8306 => f_lt (x8203 + Int32.ofInt 1) fun y8307 => kk8288 y8307 y8306
noncomputable def fX1_rankOf (I : Nat → Int32) (A : Nat → Nat → Int32) (z1 : Int32) : Int32 := f_lt (fX1_scannedDistance I A z1) fun y8202 => itr_ii (0 : Int32) (bX1_rankOf_11 I A y8202 z1) FU 0 0
def wo_k283_X1_rankOf : List Cond := [Cond.methodLink RX1 142 yX1_scannedDistance, Cond.instanceMethod yX1_scannedDistance, Cond.selects RX1 yX1_scannedDistance yX1_scannedDistance, Cond.initialized RX1, Cond.fieldLink RX1 15 "WarpDesk$Finder" "distances" "[I"]
def wz_k283_X1_rankOf : List Cond := .code yX1_rankOf cX1_rankOf 6 (some .int) :: (wo_k283_X1_rankOf ++ (wsX10 ++ (wz_k284_X1_scannedDistance ++ ([] : List Cond))))
theorem zg_k283_X1_rankOf : ∀ w ∈ wz_k283_X1_rankOf, goodWord w = true := zg_cons rfl (zg_app (by decide +kernel) (zg_app zgU_wsX10 (zg_app zg_k284_X1_scannedDistance zg_nil)))
theorem zi_k283_X1_rankOf : ∀ w ∈ wz_k283_X1_rankOf, w ∈ lw_tbl := zi_cons zw_1212 (zi_app (zi_cons zw_1213 (zi_cons zw_1214 (zi_cons zw_1215 (zi_cons zw_113 (zi_cons zw_411 zi_nil))))) (zi_app inX1 (zi_app zi_k284_X1_scannedDistance zi_nil)))
set_option maxHeartbeats 4000000 in
set_option maxRecDepth 100000 in
theorem k283_X1_rankOf (l : Launch) (D : va_G) (zt : Nat × Nat × Nat × (Nat → Nat) × (Nat → Nat)) (q : Nat → Nat) (d : Nat → ClassId) (I : Nat → Int32) (A : Nat → Nat → Int32) (z1 : Int32) (hIv : IvX I A) : GM l D zt (tyX d) yX1_rankOf wz_k283_X1_rankOf ({ frames := 1, cells := 0, slots := 0, locals := 21 } : Room) [.ref (q 43), .int z1] (wX q d I A) (fun v _ w' => ∃ y0 : Int32, FE (fX1_rankOf I A z1) y0 ∧ v = some (.int y0) ∧ w' = wX q d I A) 0 0 := by
  refine GM.of (cc := cX1_rankOf) (maxL := 6) (ret := (some .int)) (own := RX1) (lv := [(0, .ref (q 43)), (1, .int z1)]) (by decide) rfl rfl (Nat.le_of_ble_eq_true rfl) rfl (fun κ sz hk hR hN => ?_)
  have hin1 : ∀ w ∈ u_ws RX1 TX1 11, w ∈ wz_k283_X1_rankOf := fun w h => (List.mem_cons_of_mem _ (List.mem_append_right _ (List.mem_append_left _ h)))
  have hF : FE (fX1_rankOf I A z1) (fX1_rankOf I A z1) := FE.rf
  refine g_aload_n hk dX1_rankOf_0 rfl ?_
  refine g_iload_n hk dX1_rankOf_1 rfl ?_
  refine g_callV (n := 1) hk (k284_X1_scannedDistance l D zt q d I A z1 hIv) (SP.same _) (fun _ h => h) (gi_V (List.mem_cons_of_mem _ (List.mem_append_left _ (List.mem_of_getElem? (i := 0) rfl))) (List.mem_cons_of_mem _ (List.mem_append_left _ (List.mem_of_getElem? (i := 1) rfl))) (List.mem_cons_of_mem _ (List.mem_append_left _ (List.mem_of_getElem? (i := 2) rfl))) (List.mem_cons_of_mem _ (List.mem_append_left _ (List.mem_of_getElem? (i := 3) rfl))) (gi_sub (fun w h => (List.mem_cons_of_mem _ (List.mem_append_right _ (List.mem_append_right _ (List.mem_append_left _ h))))) zg_k284_X1_scannedDistance)) rfl rfl rfl (by decide +kernel) ⟨Nat.le_of_ble_eq_true rfl, Nat.le_of_ble_eq_true rfl⟩ 43 rfl rfl rfl rfl (Nat.le_of_ble_eq_true rfl) ⟨Nat.le_of_ble_eq_true rfl, Nat.le_of_ble_eq_true rfl⟩ dX1_rankOf_2 (fun v ty' w' hp hk' => ?_)
  obtain ⟨y8202, hC, rfl, rfl⟩ := hp
  replace hF := FE.lt hF (fe_s hC)
  show GW κ 6 0 0 (wX q d I A) 5 [(0, .ref (q 43)), (1, .int z1)] [.int y8202]
  refine g_istore_n (lv' := [(2, .int y8202), (0, .ref (q 43)), (1, .int z1)]) hk dX1_rankOf_5 (by decide) rfl ?_
  refine g_iconst (v := 0) hk dX1_rankOf_6 (by decide) ?_
  refine g_istore_n (lv' := [(3, .int 0), (2, .int y8202), (0, .ref (q 43)), (1, .int z1)]) hk dX1_rankOf_7 (by decide) rfl ?_
  refine g_iconst (v := 0) hk dX1_rankOf_8 (by decide) ?_
  refine g_istore (lv' := [(4, .int 0), (3, .int 0), (2, .int y8202), (0, .ref (q 43)), (1, .int z1)]) hk dX1_rankOf_9 (by decide) rfl ?_
  have lp8285 : ∀ (n8286 : Nat) (x8203 : Int32) (x8204 : Int32), (0 ≤ x8203.toInt) → (x8203.toInt ≤ 160) → (161 - x8203.toInt < (n8286 : Int)) → (0 < n8286) → (FE (fX1_rankOf I A z1) (itr_ii (0 : Int32) (bX1_rankOf_11 I A y8202 z1) n8286 x8203 x8204)) → GW κ 6 0 0 (wX q d I A) 11 [(4, .int x8203), (3, .int x8204), (2, .int y8202), (0, .ref (q 43)), (1, .int z1)] [] := by
    intro n8286
    induction n8286 with
    | zero =>
      intro x8203 x8204 h8283 h8284 m8287 m8287z hF
      exact absurd m8287z (Nat.lt_irrefl 0)
    | succ n8286 ih8289 =>
      intro x8203 x8204 h8283 h8284 m8287 m8287z hF
      replace hF := FE.itr_ii hF
      refine g_iload hk dX1_rankOf_11 rfl ?_
      refine g_sipush (v := 160) hk dX1_rankOf_13 (by decide) ?_
      refine g_icmp_ge (tgt := 60) (a := x8203.toInt) (b := 160) hk dX1_rankOf_16 (by decide) rfl rfl (fun c8290 => ?_) (fun c8290 => ?_)
      · skip
        replace hF := FE.pos hF c8290
        refine g_iload_n hk dX1_rankOf_60 rfl ?_
        have b8291l := Int32.le_toInt x8204
        have b8291h := Int32.toInt_lt x8204
        exact g_iret hk hR rfl ⟨x8204, hF, rfl, rfl⟩ dX1_rankOf_61
      · skip
        replace hF := FE.neg hF c8290
        refine g_aload_n hk dX1_rankOf_19 rfl ?_
        refine gX_r43_6 hk hin1 (List.mem_cons_of_mem _ (List.mem_append_left _ (List.mem_of_getElem? (i := 4) rfl))) dX1_rankOf_20 ?_
        refine g_iload hk dX1_rankOf_23 rfl ?_
        refine lX_26 (v := (A 26 x8203.toNatClampNeg)) hk (vp_in_iff.mpr ⟨by omega, by omega⟩) rfl dX1_rankOf_25 ?_
        refine g_istore (lv' := [(5, .int (A 26 x8203.toNatClampNeg)), (4, .int x8203), (3, .int x8204), (2, .int y8202), (0, .ref (q 43)), (1, .int z1)]) hk dX1_rankOf_26 (by decide) rfl ?_
        refine g_iload hk dX1_rankOf_28 rfl ?_
        have b8292l := Int32.le_toInt (A 26 x8203.toNatClampNeg)
        have b8292h := Int32.toInt_lt (A 26 x8203.toNatClampNeg)
        refine g_if_lt (tgt := 54) (a := (A 26 x8203.toNatClampNeg).toInt) hk dX1_rankOf_30 (by decide) rfl (fun c8293 => ?_) (fun c8293 => ?_)
        · skip
          replace hF := FE.pos hF c8293
          obtain ⟨y8294, ey8294⟩ : ∃ y : Int32, y = x8203 + Int32.ofInt 1 := ⟨_, rfl⟩
          replace hF := FE.lt hF ey8294
          have hy8294 : y8294.toInt = x8203.toInt + 1 := i32_add ey8294 rfl (by decide) (by omega) (by omega)
          refine g_iinc (v := y8294) (lv' := [(4, .int y8294), (5, .int (A 26 x8203.toNatClampNeg)), (3, .int x8204), (2, .int y8202), (0, .ref (q 43)), (1, .int z1)]) hk 1 dX1_rankOf_54 rfl ey8294.symm (by decide) rfl ?_
          refine g_goto (tgt := 11) hk dX1_rankOf_57 (by decide) ?_
          exact g_lv (List.forall_mem_cons.mpr ⟨List.mem_of_getElem? (i := 0) rfl, (List.forall_mem_cons.mpr ⟨List.mem_of_getElem? (i := 2) rfl, (List.forall_mem_cons.mpr ⟨List.mem_of_getElem? (i := 3) rfl, (List.forall_mem_cons.mpr ⟨List.mem_of_getElem? (i := 4) rfl, (List.forall_mem_cons.mpr ⟨List.mem_of_getElem? (i := 5) rfl, (fun _ h => absurd h List.not_mem_nil)⟩)⟩)⟩)⟩)⟩) (ih8289 y8294 x8204 (by omega) (by omega) (by omega) (by omega) hF)
        · skip
          replace hF := FE.neg hF c8293
          refine g_iload hk dX1_rankOf_33 rfl ?_
          refine g_iload_n hk dX1_rankOf_35 rfl ?_
          have b8295l := Int32.le_toInt y8202
          have b8295h := Int32.toInt_lt y8202
          refine g_icmp_lt (tgt := 51) (a := (A 26 x8203.toNatClampNeg).toInt) (b := y8202.toInt) hk dX1_rankOf_36 (by decide) rfl rfl (fun c8296 => ?_) (fun c8296 => ?_)
          · skip
            replace hF := FE.pos hF c8296
            have b8297l := Int32.le_toInt x8204
            have b8297h := Int32.toInt_lt x8204
            obtain ⟨y8298, ey8298⟩ : ∃ y : Int32, y = x8204 + Int32.ofInt 1 := ⟨_, rfl⟩
            replace hF := FE.lt hF ey8298
            refine g_iinc (v := y8298) (lv' := [(3, .int y8298), (5, .int (A 26 x8203.toNatClampNeg)), (4, .int x8203), (2, .int y8202), (0, .ref (q 43)), (1, .int z1)]) hk 2 dX1_rankOf_51 rfl ey8298.symm (by decide) rfl ?_
            obtain ⟨y8299, ey8299⟩ : ∃ y : Int32, y = x8203 + Int32.ofInt 1 := ⟨_, rfl⟩
            replace hF := FE.lt hF ey8299
            have hy8299 : y8299.toInt = x8203.toInt + 1 := i32_add ey8299 rfl (by decide) (by omega) (by omega)
            refine g_iinc (v := y8299) (lv' := [(4, .int y8299), (3, .int y8298), (5, .int (A 26 x8203.toNatClampNeg)), (2, .int y8202), (0, .ref (q 43)), (1, .int z1)]) hk 2 dX1_rankOf_54 rfl ey8299.symm (by decide) rfl ?_
            refine g_goto (tgt := 11) hk dX1_rankOf_57 (by decide) ?_
            exact g_lv (List.forall_mem_cons.mpr ⟨List.mem_of_getElem? (i := 0) rfl, (List.forall_mem_cons.mpr ⟨List.mem_of_getElem? (i := 1) rfl, (List.forall_mem_cons.mpr ⟨List.mem_of_getElem? (i := 3) rfl, (List.forall_mem_cons.mpr ⟨List.mem_of_getElem? (i := 4) rfl, (List.forall_mem_cons.mpr ⟨List.mem_of_getElem? (i := 5) rfl, (fun _ h => absurd h List.not_mem_nil)⟩)⟩)⟩)⟩)⟩) (ih8289 y8299 y8298 (by omega) (by omega) (by omega) (by omega) hF)
          · skip
            replace hF := FE.neg hF c8296
            refine g_iload hk dX1_rankOf_39 rfl ?_
            refine g_iload_n hk dX1_rankOf_41 rfl ?_
            refine g_icmp_ne (tgt := 54) (a := (A 26 x8203.toNatClampNeg).toInt) (b := y8202.toInt) hk dX1_rankOf_42 (by decide) rfl rfl (fun c8300 => ?_) (fun c8300 => ?_)
            · skip
              replace hF := FE.pos hF c8300
              obtain ⟨y8301, ey8301⟩ : ∃ y : Int32, y = x8203 + Int32.ofInt 1 := ⟨_, rfl⟩
              replace hF := FE.lt hF ey8301
              have hy8301 : y8301.toInt = x8203.toInt + 1 := i32_add ey8301 rfl (by decide) (by omega) (by omega)
              refine g_iinc (v := y8301) (lv' := [(4, .int y8301), (5, .int (A 26 x8203.toNatClampNeg)), (3, .int x8204), (2, .int y8202), (0, .ref (q 43)), (1, .int z1)]) hk 1 dX1_rankOf_54 rfl ey8301.symm (by decide) rfl ?_
              refine g_goto (tgt := 11) hk dX1_rankOf_57 (by decide) ?_
              exact g_lv (List.forall_mem_cons.mpr ⟨List.mem_of_getElem? (i := 0) rfl, (List.forall_mem_cons.mpr ⟨List.mem_of_getElem? (i := 2) rfl, (List.forall_mem_cons.mpr ⟨List.mem_of_getElem? (i := 3) rfl, (List.forall_mem_cons.mpr ⟨List.mem_of_getElem? (i := 4) rfl, (List.forall_mem_cons.mpr ⟨List.mem_of_getElem? (i := 5) rfl, (fun _ h => absurd h List.not_mem_nil)⟩)⟩)⟩)⟩)⟩) (ih8289 y8301 x8204 (by omega) (by omega) (by omega) (by omega) hF)
            · skip
              replace hF := FE.neg hF c8300
              refine g_iload hk dX1_rankOf_45 rfl ?_
              refine g_iload_n hk dX1_rankOf_47 rfl ?_
              have b8302l := Int32.le_toInt z1
              have b8302h := Int32.toInt_lt z1
              refine g_icmp_ge (tgt := 54) (a := x8203.toInt) (b := z1.toInt) hk dX1_rankOf_48 (by decide) rfl rfl (fun c8303 => ?_) (fun c8303 => ?_)
              · skip
                replace hF := FE.pos hF c8303
                obtain ⟨y8304, ey8304⟩ : ∃ y : Int32, y = x8203 + Int32.ofInt 1 := ⟨_, rfl⟩
                replace hF := FE.lt hF ey8304
                have hy8304 : y8304.toInt = x8203.toInt + 1 := i32_add ey8304 rfl (by decide) (by omega) (by omega)
                refine g_iinc (v := y8304) (lv' := [(4, .int y8304), (5, .int (A 26 x8203.toNatClampNeg)), (3, .int x8204), (2, .int y8202), (0, .ref (q 43)), (1, .int z1)]) hk 1 dX1_rankOf_54 rfl ey8304.symm (by decide) rfl ?_
                refine g_goto (tgt := 11) hk dX1_rankOf_57 (by decide) ?_
                exact g_lv (List.forall_mem_cons.mpr ⟨List.mem_of_getElem? (i := 0) rfl, (List.forall_mem_cons.mpr ⟨List.mem_of_getElem? (i := 2) rfl, (List.forall_mem_cons.mpr ⟨List.mem_of_getElem? (i := 3) rfl, (List.forall_mem_cons.mpr ⟨List.mem_of_getElem? (i := 4) rfl, (List.forall_mem_cons.mpr ⟨List.mem_of_getElem? (i := 5) rfl, (fun _ h => absurd h List.not_mem_nil)⟩)⟩)⟩)⟩)⟩) (ih8289 y8304 x8204 (by omega) (by omega) (by omega) (by omega) hF)
              · skip
                replace hF := FE.neg hF c8303
                have b8305l := Int32.le_toInt x8204
                have b8305h := Int32.toInt_lt x8204
                obtain ⟨y8306, ey8306⟩ : ∃ y : Int32, y = x8204 + Int32.ofInt 1 := ⟨_, rfl⟩
                replace hF := FE.lt hF ey8306
                refine g_iinc (v := y8306) (lv' := [(3, .int y8306), (5, .int (A 26 x8203.toNatClampNeg)), (4, .int x8203), (2, .int y8202), (0, .ref (q 43)), (1, .int z1)]) hk 2 dX1_rankOf_51 rfl ey8306.symm (by decide) rfl ?_
                obtain ⟨y8307, ey8307⟩ : ∃ y : Int32, y = x8203 + Int32.ofInt 1 := ⟨_, rfl⟩
                replace hF := FE.lt hF ey8307
                have hy8307 : y8307.toInt = x8203.toInt + 1 := i32_add ey8307 rfl (by decide) (by omega) (by omega)
                refine g_iinc (v := y8307) (lv' := [(4, .int y8307), (3, .int y8306), (5, .int (A 26 x8203.toNatClampNeg)), (2, .int y8202), (0, .ref (q 43)), (1, .int z1)]) hk 2 dX1_rankOf_54 rfl ey8307.symm (by decide) rfl ?_
                refine g_goto (tgt := 11) hk dX1_rankOf_57 (by decide) ?_
                exact g_lv (List.forall_mem_cons.mpr ⟨List.mem_of_getElem? (i := 0) rfl, (List.forall_mem_cons.mpr ⟨List.mem_of_getElem? (i := 1) rfl, (List.forall_mem_cons.mpr ⟨List.mem_of_getElem? (i := 3) rfl, (List.forall_mem_cons.mpr ⟨List.mem_of_getElem? (i := 4) rfl, (List.forall_mem_cons.mpr ⟨List.mem_of_getElem? (i := 5) rfl, (fun _ h => absurd h List.not_mem_nil)⟩)⟩)⟩)⟩)⟩) (ih8289 y8307 y8306 (by omega) (by omega) (by omega) (by omega) hF)
  have k8309 : (0 : Int32).toInt = 0 := rfl
  have n8308a : 161 - 0 < (FU : Int) := by have := FU_eq; omega
  have n8308b : 0 < FU := by have := FU_eq; omega
  exact lp8285 FU 0 0 (by omega) (by omega) n8308a n8308b hF
noncomputable def fX11_rank (I : Nat → Int32) (A : Nat → Nat → Int32) (z1 : Int32) (z2 : Int32) : Int32 × (Nat → Int32) × (Nat → Nat → Int32) := if fX0_hasBoth I A z1 z2 = 0 then ((-1), I, A) else f_bdX (fX1_scan I A z1) fun _ I8197 A8197 => f_lt (fX1_rankOf I8197 A8197 z2) fun y8310 => (y8310, I8197, A8197)
def wo_k282_X11_rank : List Cond := [Cond.fieldLink RX11 65 "WarpDesk" "bench" "LWarpDesk$Bench;", Cond.methodLink RX11 299 yX0_hasBoth, Cond.instanceMethod yX0_hasBoth, Cond.selects RX0 yX0_hasBoth yX0_hasBoth, Cond.initialized RX0, Cond.fieldLink RX11 74 "WarpDesk" "finder" "LWarpDesk$Finder;", Cond.methodLink RX11 305 yX1_scan, Cond.instanceMethod yX1_scan, Cond.selects RX1 yX1_scan yX1_scan, Cond.initialized RX1, Cond.methodLink RX11 308 yX1_rankOf, Cond.instanceMethod yX1_rankOf, Cond.selects RX1 yX1_rankOf yX1_rankOf]
def wz_k282_X11_rank : List Cond := .code yX11_rank cX11_rank 3 (some .int) :: (wo_k282_X11_rank ++ (wsX110 ++ (wz_k223_X0_hasBoth ++ (wz_k270_X1_scan ++ (wz_k283_X1_rankOf ++ ([] : List Cond))))))
theorem zg_k282_X11_rank : ∀ w ∈ wz_k282_X11_rank, goodWord w = true := zg_cons rfl (zg_app (by decide +kernel) (zg_app zgU_wsX110 (zg_app zg_k223_X0_hasBoth (zg_app zg_k270_X1_scan (zg_app zg_k283_X1_rankOf zg_nil)))))
theorem zi_k282_X11_rank : ∀ w ∈ wz_k282_X11_rank, w ∈ lw_tbl := zi_cons zw_1207 (zi_app (zi_cons zw_494 (zi_cons zw_1198 (zi_cons zw_974 (zi_cons zw_975 (zi_cons zw_111 (zi_cons zw_495 (zi_cons zw_1208 (zi_cons zw_1152 (zi_cons zw_1153 (zi_cons zw_113 (zi_cons zw_1209 (zi_cons zw_1210 (zi_cons zw_1211 zi_nil))))))))))))) (zi_app inX11 (zi_app zi_k223_X0_hasBoth (zi_app zi_k270_X1_scan (zi_app zi_k283_X1_rankOf zi_nil)))))
set_option maxHeartbeats 4000000 in
set_option maxRecDepth 100000 in
theorem k282_X11_rank (l : Launch) (D : va_G) (zt : Nat × Nat × Nat × (Nat → Nat) × (Nat → Nat)) (q : Nat → Nat) (d : Nat → ClassId) (I : Nat → Int32) (A : Nat → Nat → Int32) (z1 : Int32) (z2 : Int32) (hIv : IvX I A) : GM l D zt (tyX d) yX11_rank wz_k282_X11_rank ({ frames := 6, cells := 0, slots := 0, locals := 131 } : Room) [.ref (q 0), .int z1, .int z2] (wX q d I A) (fun v _ w' => ∃ (I' : Nat → Int32) (A' : Nat → Nat → Int32), Md [28, 30, 31, 32, 33, 34] I I' ∧ Md [21, 22, 23, 26] A A' ∧ IvX I' A' ∧ ∃ y0 : Int32, FE (fX11_rank I A z1 z2) (y0, I', A') ∧ v = some (.int y0) ∧ w' = wX q d I' A') 0 0 := by
  refine GM.of (cc := cX11_rank) (maxL := 3) (ret := (some .int)) (own := RX11) (lv := [(0, .ref (q 0)), (1, .int z1), (2, .int z2)]) (by decide) rfl rfl (Nat.le_of_ble_eq_true rfl) rfl (fun κ sz hk hR hN => ?_)
  have hin11 : ∀ w ∈ u_ws RX11 TX11 10, w ∈ wz_k282_X11_rank := fun w h => (List.mem_cons_of_mem _ (List.mem_append_right _ (List.mem_append_left _ h)))
  have hF : FE (fX11_rank I A z1 z2) (fX11_rank I A z1 z2) := FE.rf
  refine g_aload_n hk dX11_rank_0 rfl ?_
  refine gX_r0_7 hk hin11 (List.mem_cons_of_mem _ (List.mem_append_left _ (List.mem_of_getElem? (i := 0) rfl))) dX11_rank_1 ?_
  refine g_iload_n hk dX11_rank_4 rfl ?_
  refine g_iload_n hk dX11_rank_5 rfl ?_
  refine g_callV (n := 2) hk (k223_X0_hasBoth l D zt q d I A z1 z2 hIv) (SP.same _) (fun _ h => h) (gi_V (List.mem_cons_of_mem _ (List.mem_append_left _ (List.mem_of_getElem? (i := 1) rfl))) (List.mem_cons_of_mem _ (List.mem_append_left _ (List.mem_of_getElem? (i := 2) rfl))) (List.mem_cons_of_mem _ (List.mem_append_left _ (List.mem_of_getElem? (i := 3) rfl))) (List.mem_cons_of_mem _ (List.mem_append_left _ (List.mem_of_getElem? (i := 4) rfl))) (gi_sub (fun w h => (List.mem_cons_of_mem _ (List.mem_append_right _ (List.mem_append_right _ (List.mem_append_left _ h))))) zg_k223_X0_hasBoth)) rfl rfl rfl (by decide +kernel) ⟨Nat.le_of_ble_eq_true rfl, Nat.le_of_ble_eq_true rfl⟩ 37 rfl rfl rfl rfl (Nat.le_of_ble_eq_true rfl) ⟨Nat.le_of_ble_eq_true rfl, Nat.le_of_ble_eq_true rfl⟩ dX11_rank_6 (fun v ty' w' hp hk' => ?_)
  rcases hp with ⟨hC, rfl, rfl⟩ | ⟨c8187, c8188, c8189, c8190, c8191, c8192, c8193, c8194, hC, rfl, rfl⟩
  · skip
    replace hF := FE.pos hF hC
    show GW κ 3 0 0 (wX q d I A) 9 [(0, .ref (q 0)), (1, .int z1), (2, .int z2)] [.int 0]
    refine g_if_ne (tgt := 14) (a := 0) hk dX11_rank_9 (by decide) rfl (fun z9 => absurd z9 (show ¬ ((0 : Int) ≠ (0 : Int)) from by decide)) (fun _ => ?_)
    refine g_iconst (v := (-1)) hk dX11_rank_12 (by decide) ?_
    exact g_iret hk hR rfl ⟨I, A, (show Md [28, 30, 31, 32, 33, 34] I I from Md.rf), (show Md [21, 22, 23, 26] A A from Md.rf), hIv, (-1), hF, rfl, rfl⟩ dX11_rank_13
  · skip
    replace hF := FE.neg hF (fe_ne hC (by decide))
    show GW κ 3 0 0 (wX q d I A) 9 [(0, .ref (q 0)), (1, .int z1), (2, .int z2)] [.int 1]
    refine g_if_ne (tgt := 14) (a := 1) hk dX11_rank_9 (by decide) rfl (fun _ => ?_) (fun z9 => absurd (show (1 : Int) ≠ (0 : Int) from by decide) z9)
    refine g_aload_n hk dX11_rank_14 rfl ?_
    refine gX_r0_8 hk hin11 (List.mem_cons_of_mem _ (List.mem_append_left _ (List.mem_of_getElem? (i := 5) rfl))) dX11_rank_15 ?_
    refine g_iload_n hk dX11_rank_18 rfl ?_
    refine g_callV (n := 1) hk (k270_X1_scan l D zt q d I A z1 hIv) (SP.same _) (fun _ h => h) (gi_V (List.mem_cons_of_mem _ (List.mem_append_left _ (List.mem_of_getElem? (i := 6) rfl))) (List.mem_cons_of_mem _ (List.mem_append_left _ (List.mem_of_getElem? (i := 7) rfl))) (List.mem_cons_of_mem _ (List.mem_append_left _ (List.mem_of_getElem? (i := 8) rfl))) (List.mem_cons_of_mem _ (List.mem_append_left _ (List.mem_of_getElem? (i := 9) rfl))) (gi_sub (fun w h => (List.mem_cons_of_mem _ (List.mem_append_right _ (List.mem_append_right _ (List.mem_append_right _ (List.mem_append_left _ h)))))) zg_k270_X1_scan)) rfl rfl rfl (by decide +kernel) ⟨Nat.le_of_ble_eq_true rfl, Nat.le_of_ble_eq_true rfl⟩ 43 rfl rfl rfl rfl (Nat.le_of_ble_eq_true rfl) ⟨Nat.le_of_ble_eq_true rfl, Nat.le_of_ble_eq_true rfl⟩ dX11_rank_19 (fun v ty' w' hp hk' => ?_)
    obtain ⟨I8197, A8197, hI8197, hA8197, hV8197, hC, rfl, rfl⟩ := hp
    replace hF := FE.bdX hF hC
    show GW κ 3 0 0 (wX q d I8197 A8197) 22 [(0, .ref (q 0)), (1, .int z1), (2, .int z2)] []
    refine g_aload_n hk dX11_rank_22 rfl ?_
    refine gX_r0_8 hk hin11 (List.mem_cons_of_mem _ (List.mem_append_left _ (List.mem_of_getElem? (i := 5) rfl))) dX11_rank_23 ?_
    refine g_iload_n hk dX11_rank_26 rfl ?_
    refine g_callV (n := 1) hk (k283_X1_rankOf l D zt q d I8197 A8197 z2 hV8197) (SP.same _) (fun _ h => h) (gi_V (List.mem_cons_of_mem _ (List.mem_append_left _ (List.mem_of_getElem? (i := 10) rfl))) (List.mem_cons_of_mem _ (List.mem_append_left _ (List.mem_of_getElem? (i := 11) rfl))) (List.mem_cons_of_mem _ (List.mem_append_left _ (List.mem_of_getElem? (i := 12) rfl))) (List.mem_cons_of_mem _ (List.mem_append_left _ (List.mem_of_getElem? (i := 9) rfl))) (gi_sub (fun w h => (List.mem_cons_of_mem _ (List.mem_append_right _ (List.mem_append_right _ (List.mem_append_right _ (List.mem_append_right _ (List.mem_append_left _ h))))))) zg_k283_X1_rankOf)) rfl rfl rfl (by decide +kernel) ⟨Nat.le_of_ble_eq_true rfl, Nat.le_of_ble_eq_true rfl⟩ 43 rfl rfl rfl rfl (Nat.le_of_ble_eq_true rfl) ⟨Nat.le_of_ble_eq_true rfl, Nat.le_of_ble_eq_true rfl⟩ dX11_rank_27 (fun v ty' w' hp hk' => ?_)
    obtain ⟨y8310, hC, rfl, rfl⟩ := hp
    replace hF := FE.lt hF (fe_s hC)
    show GW κ 3 0 0 (wX q d I8197 A8197) 30 [(0, .ref (q 0)), (1, .int z1), (2, .int z2)] [.int y8310]
    have b8311l := Int32.le_toInt y8310
    have b8311h := Int32.toInt_lt y8310
    exact g_iret hk hR rfl ⟨I8197, A8197, (show Md [28, 30, 31, 32, 33, 34] I I8197 from (Md.tr Md.rf hI8197 rfl)), (show Md [21, 22, 23, 26] A A8197 from (Md.tr Md.rf hA8197 rfl)), hV8197, y8310, hF, rfl, rfl⟩ dX11_rank_30
noncomputable def bX1_windowOfRank_2 (I : Nat → Int32) (A : Nat → Nat → Int32) (z1 : Int32) : (Int32 → (Int32)) → Int32 → (Int32) := fun kk8368 x8325 => if 160 ≤ x8325.toInt then (-2) else if (A 26 x8325.toNatClampNeg).toInt < 0 then f_lt (x8325 + Int32.ofInt 1) fun y8373 => kk8368 y8373 else f_lt (fX1_rankOf I A x8325) fun y8374 => if y8374.toInt ≠ z1.toInt then f_lt (x8325 + Int32.ofInt 1) fun y8378 => kk8368 y8378 else x8325
noncomputable def fX1_windowOfRank (I : Nat → Int32) (A : Nat → Nat → Int32) (z1 : Int32) : Int32 := itr_i (0 : Int32) (bX1_windowOfRank_2 I A z1) FU 0
def wo_k286_X1_windowOfRank : List Cond := [Cond.fieldLink RX1 15 "WarpDesk$Finder" "distances" "[I", Cond.methodLink RX1 145 yX1_rankOf, Cond.instanceMethod yX1_rankOf, Cond.selects RX1 yX1_rankOf yX1_rankOf, Cond.initialized RX1]
def wz_k286_X1_windowOfRank : List Cond := .code yX1_windowOfRank cX1_windowOfRank 3 (some .int) :: (wo_k286_X1_windowOfRank ++ (wsX10 ++ (wz_k283_X1_rankOf ++ ([] : List Cond))))
theorem zg_k286_X1_windowOfRank : ∀ w ∈ wz_k286_X1_windowOfRank, goodWord w = true := zg_cons rfl (zg_app (by decide +kernel) (zg_app zgU_wsX10 (zg_app zg_k283_X1_rankOf zg_nil)))
theorem zi_k286_X1_windowOfRank : ∀ w ∈ wz_k286_X1_windowOfRank, w ∈ lw_tbl := zi_cons zw_1224 (zi_app (zi_cons zw_411 (zi_cons zw_1225 (zi_cons zw_1210 (zi_cons zw_1211 (zi_cons zw_113 zi_nil))))) (zi_app inX1 (zi_app zi_k283_X1_rankOf zi_nil)))
set_option maxHeartbeats 4000000 in
set_option maxRecDepth 100000 in
theorem k286_X1_windowOfRank (l : Launch) (D : va_G) (zt : Nat × Nat × Nat × (Nat → Nat) × (Nat → Nat)) (q : Nat → Nat) (d : Nat → ClassId) (I : Nat → Int32) (A : Nat → Nat → Int32) (z1 : Int32) (hIv : IvX I A) : GM l D zt (tyX d) yX1_windowOfRank wz_k286_X1_windowOfRank ({ frames := 2, cells := 0, slots := 0, locals := 46 } : Room) [.ref (q 43), .int z1] (wX q d I A) (fun v _ w' => ∃ y0 : Int32, ((-2) ≤ y0.toInt) ∧ (y0.toInt ≤ 159) ∧ FE (fX1_windowOfRank I A z1) y0 ∧ v = some (.int y0) ∧ w' = wX q d I A) 0 0 := by
  refine GM.of (cc := cX1_windowOfRank) (maxL := 3) (ret := (some .int)) (own := RX1) (lv := [(0, .ref (q 43)), (1, .int z1)]) (by decide) rfl rfl (Nat.le_of_ble_eq_true rfl) rfl (fun κ sz hk hR hN => ?_)
  have hin1 : ∀ w ∈ u_ws RX1 TX1 11, w ∈ wz_k286_X1_windowOfRank := fun w h => (List.mem_cons_of_mem _ (List.mem_append_right _ (List.mem_append_left _ h)))
  have hF : FE (fX1_windowOfRank I A z1) (fX1_windowOfRank I A z1) := FE.rf
  refine g_iconst (v := 0) hk dX1_windowOfRank_0 (by decide) ?_
  refine g_istore_n (lv' := [(2, .int 0), (0, .ref (q 43)), (1, .int z1)]) hk dX1_windowOfRank_1 (by decide) rfl ?_
  have lp8365 : ∀ (n8366 : Nat) (x8325 : Int32), (0 ≤ x8325.toInt) → (x8325.toInt ≤ 160) → (161 - x8325.toInt < (n8366 : Int)) → (0 < n8366) → (FE (fX1_windowOfRank I A z1) (itr_i (0 : Int32) (bX1_windowOfRank_2 I A z1) n8366 x8325)) → GW κ 3 0 0 (wX q d I A) 2 [(2, .int x8325), (0, .ref (q 43)), (1, .int z1)] [] := by
    intro n8366
    induction n8366 with
    | zero =>
      intro x8325 h8363 h8364 m8367 m8367z hF
      exact absurd m8367z (Nat.lt_irrefl 0)
    | succ n8366 ih8369 =>
      intro x8325 h8363 h8364 m8367 m8367z hF
      replace hF := FE.itr_i hF
      refine g_iload_n hk dX1_windowOfRank_2 rfl ?_
      refine g_sipush (v := 160) hk dX1_windowOfRank_3 (by decide) ?_
      refine g_icmp_ge (tgt := 35) (a := x8325.toInt) (b := 160) hk dX1_windowOfRank_6 (by decide) rfl rfl (fun c8370 => ?_) (fun c8370 => ?_)
      · skip
        replace hF := FE.pos hF c8370
        refine g_bipush (v := (-2)) hk dX1_windowOfRank_35 (by decide) ?_
        exact g_iret hk hR rfl ⟨(-2), (by decide), (by decide), hF, rfl, rfl⟩ dX1_windowOfRank_37
      · skip
        replace hF := FE.neg hF c8370
        refine g_aload_n hk dX1_windowOfRank_9 rfl ?_
        refine gX_r43_6 hk hin1 (List.mem_cons_of_mem _ (List.mem_append_left _ (List.mem_of_getElem? (i := 0) rfl))) dX1_windowOfRank_10 ?_
        refine g_iload_n hk dX1_windowOfRank_13 rfl ?_
        refine lX_26 (v := (A 26 x8325.toNatClampNeg)) hk (vp_in_iff.mpr ⟨by omega, by omega⟩) rfl dX1_windowOfRank_14 ?_
        have b8371l := Int32.le_toInt (A 26 x8325.toNatClampNeg)
        have b8371h := Int32.toInt_lt (A 26 x8325.toNatClampNeg)
        refine g_if_lt (tgt := 29) (a := (A 26 x8325.toNatClampNeg).toInt) hk dX1_windowOfRank_15 (by decide) rfl (fun c8372 => ?_) (fun c8372 => ?_)
        · skip
          replace hF := FE.pos hF c8372
          obtain ⟨y8373, ey8373⟩ : ∃ y : Int32, y = x8325 + Int32.ofInt 1 := ⟨_, rfl⟩
          replace hF := FE.lt hF ey8373
          have hy8373 : y8373.toInt = x8325.toInt + 1 := i32_add ey8373 rfl (by decide) (by omega) (by omega)
          refine g_iinc (v := y8373) (lv' := [(2, .int y8373), (0, .ref (q 43)), (1, .int z1)]) hk 0 dX1_windowOfRank_29 rfl ey8373.symm (by decide) rfl ?_
          refine g_goto (tgt := 2) hk dX1_windowOfRank_32 (by decide) ?_
          exact g_lv (List.forall_mem_cons.mpr ⟨List.mem_of_getElem? (i := 0) rfl, (List.forall_mem_cons.mpr ⟨List.mem_of_getElem? (i := 1) rfl, (List.forall_mem_cons.mpr ⟨List.mem_of_getElem? (i := 2) rfl, (fun _ h => absurd h List.not_mem_nil)⟩)⟩)⟩) (ih8369 y8373 (by omega) (by omega) (by omega) (by omega) hF)
        · skip
          replace hF := FE.neg hF c8372
          refine g_aload_n hk dX1_windowOfRank_18 rfl ?_
          refine g_iload_n hk dX1_windowOfRank_19 rfl ?_
          refine g_callV (n := 1) hk (k283_X1_rankOf l D zt q d I A x8325 hIv) (SP.same _) (fun _ h => h) (gi_V (List.mem_cons_of_mem _ (List.mem_append_left _ (List.mem_of_getElem? (i := 1) rfl))) (List.mem_cons_of_mem _ (List.mem_append_left _ (List.mem_of_getElem? (i := 2) rfl))) (List.mem_cons_of_mem _ (List.mem_append_left _ (List.mem_of_getElem? (i := 3) rfl))) (List.mem_cons_of_mem _ (List.mem_append_left _ (List.mem_of_getElem? (i := 4) rfl))) (gi_sub (fun w h => (List.mem_cons_of_mem _ (List.mem_append_right _ (List.mem_append_right _ (List.mem_append_left _ h))))) zg_k283_X1_rankOf)) rfl rfl rfl (by decide +kernel) ⟨Nat.le_of_ble_eq_true rfl, Nat.le_of_ble_eq_true rfl⟩ 43 rfl rfl rfl rfl (Nat.le_of_ble_eq_true rfl) ⟨Nat.le_of_ble_eq_true rfl, Nat.le_of_ble_eq_true rfl⟩ dX1_windowOfRank_20 (fun v ty' w' hp hk' => ?_)
          obtain ⟨y8374, hC, rfl, rfl⟩ := hp
          replace hF := FE.lt hF (fe_s hC)
          show GW κ 3 0 0 (wX q d I A) 23 [(2, .int x8325), (0, .ref (q 43)), (1, .int z1)] [.int y8374]
          refine g_iload_n hk dX1_windowOfRank_23 rfl ?_
          have b8375l := Int32.le_toInt y8374
          have b8375h := Int32.toInt_lt y8374
          have b8376l := Int32.le_toInt z1
          have b8376h := Int32.toInt_lt z1
          refine g_icmp_ne (tgt := 29) (a := y8374.toInt) (b := z1.toInt) hk dX1_windowOfRank_24 (by decide) rfl rfl (fun c8377 => ?_) (fun c8377 => ?_)
          · skip
            replace hF := FE.pos hF c8377
            obtain ⟨y8378, ey8378⟩ : ∃ y : Int32, y = x8325 + Int32.ofInt 1 := ⟨_, rfl⟩
            replace hF := FE.lt hF ey8378
            have hy8378 : y8378.toInt = x8325.toInt + 1 := i32_add ey8378 rfl (by decide) (by omega) (by omega)
            refine g_iinc (v := y8378) (lv' := [(2, .int y8378), (0, .ref (q 43)), (1, .int z1)]) hk 0 dX1_windowOfRank_29 rfl ey8378.symm (by decide) rfl ?_
            refine g_goto (tgt := 2) hk dX1_windowOfRank_32 (by decide) ?_
            exact g_lv (List.forall_mem_cons.mpr ⟨List.mem_of_getElem? (i := 0) rfl, (List.forall_mem_cons.mpr ⟨List.mem_of_getElem? (i := 1) rfl, (List.forall_mem_cons.mpr ⟨List.mem_of_getElem? (i := 2) rfl, (fun _ h => absurd h List.not_mem_nil)⟩)⟩)⟩) (ih8369 y8378 (by omega) (by omega) (by omega) (by omega) hF)
          · skip
            replace hF := FE.neg hF c8377
            refine g_iload_n hk dX1_windowOfRank_27 rfl ?_
            exact g_iret hk hR rfl ⟨x8325, (by omega), (by omega), hF, rfl, rfl⟩ dX1_windowOfRank_28
  have k8380 : (0 : Int32).toInt = 0 := rfl
  have n8379a : 161 - 0 < (FU : Int) := by have := FU_eq; omega
  have n8379b : 0 < FU := by have := FU_eq; omega
  exact lp8365 FU 0 (by omega) (by omega) n8379a n8379b hF
noncomputable def fX11_kth (I : Nat → Int32) (A : Nat → Nat → Int32) (z1 : Int32) (z2 : Int32) (z3 : Int32) : Int32 × (Nat → Int32) × (Nat → Nat → Int32) := if z2.toInt < 0 then ((-1), I, A) else if z3.toInt < 0 then ((-1), I, A) else if 1 < z3.toInt then ((-1), I, A) else if fX4_has_2 I A z1 = 0 then ((-1), I, A) else f_bdX (fX1_scan I A z1) fun _ I8324 A8324 => f_lt (fX1_windowOfRank I8324 A8324 z2) fun y8381 => if z3.toInt ≠ 0 then f_lt (fX1_scannedDistance I8324 A8324 y8381) fun y8385 => (y8385, I8324, A8324) else (y8381, I8324, A8324)
def wo_k285_X11_kth : List Cond := [Cond.fieldLink RX11 35 "WarpDesk" "queries" "LWarpDesk$Queries;", Cond.methodLink RX11 251 yX4_has, Cond.instanceMethod yX4_has, Cond.selects RX4 yX4_has yX4_has, Cond.initialized RX4, Cond.fieldLink RX11 74 "WarpDesk" "finder" "LWarpDesk$Finder;", Cond.methodLink RX11 305 yX1_scan, Cond.instanceMethod yX1_scan, Cond.selects RX1 yX1_scan yX1_scan, Cond.initialized RX1, Cond.methodLink RX11 311 yX1_windowOfRank, Cond.instanceMethod yX1_windowOfRank, Cond.selects RX1 yX1_windowOfRank yX1_windowOfRank, Cond.methodLink RX11 314 yX1_scannedDistance, Cond.instanceMethod yX1_scannedDistance, Cond.selects RX1 yX1_scannedDistance yX1_scannedDistance]
def wz_k285_X11_kth : List Cond := .code yX11_kth cX11_kth 5 (some .int) :: (wo_k285_X11_kth ++ (wsX110 ++ (wz_k155_X4_has ++ (wz_k270_X1_scan ++ (wz_k286_X1_windowOfRank ++ (wz_k284_X1_scannedDistance ++ ([] : List Cond)))))))
theorem zg_k285_X11_kth : ∀ w ∈ wz_k285_X11_kth, goodWord w = true := zg_cons rfl (zg_app (by decide +kernel) (zg_app zgU_wsX110 (zg_app zg_k155_X4_has (zg_app zg_k270_X1_scan (zg_app zg_k286_X1_windowOfRank (zg_app zg_k284_X1_scannedDistance zg_nil))))))
theorem zi_k285_X11_kth : ∀ w ∈ wz_k285_X11_kth, w ∈ lw_tbl := zi_cons zw_1220 (zi_app (zi_cons zw_490 (zi_cons zw_1086 (zi_cons zw_747 (zi_cons zw_748 (zi_cons zw_108 (zi_cons zw_495 (zi_cons zw_1208 (zi_cons zw_1152 (zi_cons zw_1153 (zi_cons zw_113 (zi_cons zw_1221 (zi_cons zw_1222 (zi_cons zw_1223 (zi_cons zw_1226 (zi_cons zw_1214 (zi_cons zw_1215 zi_nil)))))))))))))))) (zi_app inX11 (zi_app zi_k155_X4_has (zi_app zi_k270_X1_scan (zi_app zi_k286_X1_windowOfRank (zi_app zi_k284_X1_scannedDistance zi_nil))))))
set_option maxHeartbeats 4000000 in
set_option maxRecDepth 100000 in
theorem k285_X11_kth (l : Launch) (D : va_G) (zt : Nat × Nat × Nat × (Nat → Nat) × (Nat → Nat)) (q : Nat → Nat) (d : Nat → ClassId) (I : Nat → Int32) (A : Nat → Nat → Int32) (z1 : Int32) (z2 : Int32) (z3 : Int32) (hIv : IvX I A) : GM l D zt (tyX d) yX11_kth wz_k285_X11_kth ({ frames := 6, cells := 0, slots := 0, locals := 131 } : Room) [.ref (q 0), .int z1, .int z2, .int z3] (wX q d I A) (fun v _ w' => ∃ (I' : Nat → Int32) (A' : Nat → Nat → Int32), Md [28, 30, 31, 32, 33, 34] I I' ∧ Md [21, 22, 23, 26] A A' ∧ IvX I' A' ∧ ∃ y0 : Int32, FE (fX11_kth I A z1 z2 z3) (y0, I', A') ∧ v = some (.int y0) ∧ w' = wX q d I' A') 0 0 := by
  refine GM.of (cc := cX11_kth) (maxL := 5) (ret := (some .int)) (own := RX11) (lv := [(0, .ref (q 0)), (1, .int z1), (2, .int z2), (3, .int z3)]) (by decide) rfl rfl (Nat.le_of_ble_eq_true rfl) rfl (fun κ sz hk hR hN => ?_)
  have hin11 : ∀ w ∈ u_ws RX11 TX11 10, w ∈ wz_k285_X11_kth := fun w h => (List.mem_cons_of_mem _ (List.mem_append_right _ (List.mem_append_left _ h)))
  have hF : FE (fX11_kth I A z1 z2 z3) (fX11_kth I A z1 z2 z3) := FE.rf
  refine g_iload_n hk dX11_kth_0 rfl ?_
  have b8312l := Int32.le_toInt z2
  have b8312h := Int32.toInt_lt z2
  refine g_if_lt (tgt := 24) (a := z2.toInt) hk dX11_kth_1 (by decide) rfl (fun c8313 => ?_) (fun c8313 => ?_)
  · skip
    replace hF := FE.pos hF c8313
    refine g_iconst (v := (-1)) hk dX11_kth_24 (by decide) ?_
    exact g_iret hk hR rfl ⟨I, A, (show Md [28, 30, 31, 32, 33, 34] I I from Md.rf), (show Md [21, 22, 23, 26] A A from Md.rf), hIv, (-1), hF, rfl, rfl⟩ dX11_kth_25
  · skip
    replace hF := FE.neg hF c8313
    refine g_iload_n hk dX11_kth_4 rfl ?_
    have b8314l := Int32.le_toInt z3
    have b8314h := Int32.toInt_lt z3
    refine g_if_lt (tgt := 24) (a := z3.toInt) hk dX11_kth_5 (by decide) rfl (fun c8315 => ?_) (fun c8315 => ?_)
    · skip
      replace hF := FE.pos hF c8315
      refine g_iconst (v := (-1)) hk dX11_kth_24 (by decide) ?_
      exact g_iret hk hR rfl ⟨I, A, (show Md [28, 30, 31, 32, 33, 34] I I from Md.rf), (show Md [21, 22, 23, 26] A A from Md.rf), hIv, (-1), hF, rfl, rfl⟩ dX11_kth_25
    · skip
      replace hF := FE.neg hF c8315
      refine g_iload_n hk dX11_kth_8 rfl ?_
      refine g_iconst (v := 1) hk dX11_kth_9 (by decide) ?_
      refine g_icmp_gt (tgt := 24) (a := z3.toInt) (b := 1) hk dX11_kth_10 (by decide) rfl rfl (fun c8316 => ?_) (fun c8316 => ?_)
      · skip
        replace hF := FE.pos hF c8316
        refine g_iconst (v := (-1)) hk dX11_kth_24 (by decide) ?_
        exact g_iret hk hR rfl ⟨I, A, (show Md [28, 30, 31, 32, 33, 34] I I from Md.rf), (show Md [21, 22, 23, 26] A A from Md.rf), hIv, (-1), hF, rfl, rfl⟩ dX11_kth_25
      · skip
        replace hF := FE.neg hF c8316
        refine g_aload_n hk dX11_kth_13 rfl ?_
        refine gX_r0_3 hk hin11 (List.mem_cons_of_mem _ (List.mem_append_left _ (List.mem_of_getElem? (i := 0) rfl))) dX11_kth_14 ?_
        refine g_iload_n hk dX11_kth_17 rfl ?_
        refine g_callV (n := 1) hk (k168_X4_has l D zt q d I A z1 hIv) (SP.same _) (fun _ h => h) (gi_V (List.mem_cons_of_mem _ (List.mem_append_left _ (List.mem_of_getElem? (i := 1) rfl))) (List.mem_cons_of_mem _ (List.mem_append_left _ (List.mem_of_getElem? (i := 2) rfl))) (List.mem_cons_of_mem _ (List.mem_append_left _ (List.mem_of_getElem? (i := 3) rfl))) (List.mem_cons_of_mem _ (List.mem_append_left _ (List.mem_of_getElem? (i := 4) rfl))) (gi_sub (fun w h => (List.mem_cons_of_mem _ (List.mem_append_right _ (List.mem_append_right _ (List.mem_append_left _ h))))) zg_k155_X4_has)) rfl rfl rfl (by decide +kernel) ⟨Nat.le_of_ble_eq_true rfl, Nat.le_of_ble_eq_true rfl⟩ 15 rfl rfl rfl rfl (Nat.le_of_ble_eq_true rfl) ⟨Nat.le_of_ble_eq_true rfl, Nat.le_of_ble_eq_true rfl⟩ dX11_kth_18 (fun v ty' w' hp hk' => ?_)
        rcases hp with ⟨hC, rfl, rfl⟩ | ⟨c8318, c8319, c8320, c8321, hC, rfl, rfl⟩
        · skip
          replace hF := FE.pos hF hC
          show GW κ 5 0 0 (wX q d I A) 21 [(0, .ref (q 0)), (1, .int z1), (2, .int z2), (3, .int z3)] [.int 0]
          refine g_if_ne (tgt := 26) (a := 0) hk dX11_kth_21 (by decide) rfl (fun z9 => absurd z9 (show ¬ ((0 : Int) ≠ (0 : Int)) from by decide)) (fun _ => ?_)
          refine g_iconst (v := (-1)) hk dX11_kth_24 (by decide) ?_
          exact g_iret hk hR rfl ⟨I, A, (show Md [28, 30, 31, 32, 33, 34] I I from Md.rf), (show Md [21, 22, 23, 26] A A from Md.rf), hIv, (-1), hF, rfl, rfl⟩ dX11_kth_25
        · skip
          replace hF := FE.neg hF (fe_ne hC (by decide))
          show GW κ 5 0 0 (wX q d I A) 21 [(0, .ref (q 0)), (1, .int z1), (2, .int z2), (3, .int z3)] [.int 1]
          refine g_if_ne (tgt := 26) (a := 1) hk dX11_kth_21 (by decide) rfl (fun _ => ?_) (fun z9 => absurd (show (1 : Int) ≠ (0 : Int) from by decide) z9)
          refine g_aload_n hk dX11_kth_26 rfl ?_
          refine gX_r0_8 hk hin11 (List.mem_cons_of_mem _ (List.mem_append_left _ (List.mem_of_getElem? (i := 5) rfl))) dX11_kth_27 ?_
          refine g_iload_n hk dX11_kth_30 rfl ?_
          refine g_callV (n := 1) hk (k270_X1_scan l D zt q d I A z1 hIv) (SP.same _) (fun _ h => h) (gi_V (List.mem_cons_of_mem _ (List.mem_append_left _ (List.mem_of_getElem? (i := 6) rfl))) (List.mem_cons_of_mem _ (List.mem_append_left _ (List.mem_of_getElem? (i := 7) rfl))) (List.mem_cons_of_mem _ (List.mem_append_left _ (List.mem_of_getElem? (i := 8) rfl))) (List.mem_cons_of_mem _ (List.mem_append_left _ (List.mem_of_getElem? (i := 9) rfl))) (gi_sub (fun w h => (List.mem_cons_of_mem _ (List.mem_append_right _ (List.mem_append_right _ (List.mem_append_right _ (List.mem_append_left _ h)))))) zg_k270_X1_scan)) rfl rfl rfl (by decide +kernel) ⟨Nat.le_of_ble_eq_true rfl, Nat.le_of_ble_eq_true rfl⟩ 43 rfl rfl rfl rfl (Nat.le_of_ble_eq_true rfl) ⟨Nat.le_of_ble_eq_true rfl, Nat.le_of_ble_eq_true rfl⟩ dX11_kth_31 (fun v ty' w' hp hk' => ?_)
          obtain ⟨I8324, A8324, hI8324, hA8324, hV8324, hC, rfl, rfl⟩ := hp
          replace hF := FE.bdX hF hC
          show GW κ 5 0 0 (wX q d I8324 A8324) 34 [(0, .ref (q 0)), (1, .int z1), (2, .int z2), (3, .int z3)] []
          refine g_aload_n hk dX11_kth_34 rfl ?_
          refine gX_r0_8 hk hin11 (List.mem_cons_of_mem _ (List.mem_append_left _ (List.mem_of_getElem? (i := 5) rfl))) dX11_kth_35 ?_
          refine g_iload_n hk dX11_kth_38 rfl ?_
          refine g_callV (n := 1) hk (k286_X1_windowOfRank l D zt q d I8324 A8324 z2 hV8324) (SP.same _) (fun _ h => h) (gi_V (List.mem_cons_of_mem _ (List.mem_append_left _ (List.mem_of_getElem? (i := 10) rfl))) (List.mem_cons_of_mem _ (List.mem_append_left _ (List.mem_of_getElem? (i := 11) rfl))) (List.mem_cons_of_mem _ (List.mem_append_left _ (List.mem_of_getElem? (i := 12) rfl))) (List.mem_cons_of_mem _ (List.mem_append_left _ (List.mem_of_getElem? (i := 9) rfl))) (gi_sub (fun w h => (List.mem_cons_of_mem _ (List.mem_append_right _ (List.mem_append_right _ (List.mem_append_right _ (List.mem_append_right _ (List.mem_append_left _ h))))))) zg_k286_X1_windowOfRank)) rfl rfl rfl (by decide +kernel) ⟨Nat.le_of_ble_eq_true rfl, Nat.le_of_ble_eq_true rfl⟩ 43 rfl rfl rfl rfl (Nat.le_of_ble_eq_true rfl) ⟨Nat.le_of_ble_eq_true rfl, Nat.le_of_ble_eq_true rfl⟩ dX11_kth_39 (fun v ty' w' hp hk' => ?_)
          obtain ⟨y8381, c8382, c8383, hC, rfl, rfl⟩ := hp
          replace hF := FE.lt hF (fe_s hC)
          show GW κ 5 0 0 (wX q d I8324 A8324) 42 [(0, .ref (q 0)), (1, .int z1), (2, .int z2), (3, .int z3)] [.int y8381]
          refine g_istore (lv' := [(4, .int y8381), (0, .ref (q 0)), (1, .int z1), (2, .int z2), (3, .int z3)]) hk dX11_kth_42 (by decide) rfl ?_
          refine g_iload_n hk dX11_kth_44 rfl ?_
          refine g_if_ne (tgt := 53) (a := z3.toInt) hk dX11_kth_45 (by decide) rfl (fun c8384 => ?_) (fun c8384 => ?_)
          · skip
            replace hF := FE.pos hF c8384
            refine g_aload_n hk dX11_kth_53 rfl ?_
            refine gX_r0_8 hk hin11 (List.mem_cons_of_mem _ (List.mem_append_left _ (List.mem_of_getElem? (i := 5) rfl))) dX11_kth_54 ?_
            refine g_iload hk dX11_kth_57 rfl ?_
            refine g_callV (n := 1) hk (k284_X1_scannedDistance l D zt q d I8324 A8324 y8381 hV8324) (SP.same _) (fun _ h => h) (gi_V (List.mem_cons_of_mem _ (List.mem_append_left _ (List.mem_of_getElem? (i := 13) rfl))) (List.mem_cons_of_mem _ (List.mem_append_left _ (List.mem_of_getElem? (i := 14) rfl))) (List.mem_cons_of_mem _ (List.mem_append_left _ (List.mem_of_getElem? (i := 15) rfl))) (List.mem_cons_of_mem _ (List.mem_append_left _ (List.mem_of_getElem? (i := 9) rfl))) (gi_sub (fun w h => (List.mem_cons_of_mem _ (List.mem_append_right _ (List.mem_append_right _ (List.mem_append_right _ (List.mem_append_right _ (List.mem_append_right _ (List.mem_append_left _ h)))))))) zg_k284_X1_scannedDistance)) rfl rfl rfl (by decide +kernel) ⟨Nat.le_of_ble_eq_true rfl, Nat.le_of_ble_eq_true rfl⟩ 43 rfl rfl rfl rfl (Nat.le_of_ble_eq_true rfl) ⟨Nat.le_of_ble_eq_true rfl, Nat.le_of_ble_eq_true rfl⟩ dX11_kth_59 (fun v ty' w' hp hk' => ?_)
            obtain ⟨y8385, hC, rfl, rfl⟩ := hp
            replace hF := FE.lt hF (fe_s hC)
            show GW κ 5 0 0 (wX q d I8324 A8324) 62 [(4, .int y8381), (0, .ref (q 0)), (1, .int z1), (2, .int z2), (3, .int z3)] [.int y8385]
            have b8386l := Int32.le_toInt y8385
            have b8386h := Int32.toInt_lt y8385
            exact g_iret hk hR rfl ⟨I8324, A8324, (show Md [28, 30, 31, 32, 33, 34] I I8324 from (Md.tr Md.rf hI8324 rfl)), (show Md [21, 22, 23, 26] A A8324 from (Md.tr Md.rf hA8324 rfl)), hV8324, y8385, hF, rfl, rfl⟩ dX11_kth_62
          · skip
            replace hF := FE.neg hF c8384
            refine g_iload hk dX11_kth_48 rfl ?_
            refine g_goto (tgt := 62) hk dX11_kth_50 (by decide) ?_
            exact g_iret hk hR rfl ⟨I8324, A8324, (show Md [28, 30, 31, 32, 33, 34] I I8324 from (Md.tr Md.rf hI8324 rfl)), (show Md [21, 22, 23, 26] A A8324 from (Md.tr Md.rf hA8324 rfl)), hV8324, y8381, hF, rfl, rfl⟩ dX11_kth_62
noncomputable def bX1_slackSum_23 (I : Nat → Int32) (z1 : Int32) : (Int32 → Int32 → (Nat → Int32) → (Nat → Nat → Int32) → (Int32 × (Nat → Int32) × (Nat → Nat → Int32))) → Int32 → Int32 → (Nat → Int32) → (Nat → Nat → Int32) → (Int32 × (Nat → Int32) × (Nat → Nat → Int32)) := fun kk8682 x8397 x8398 I8401 A8401 => if (I 18).toInt ≤ x8397.toInt then (x8398, I8401, A8401) else if (fX4_lengthOf_2 I8401 A8401 z1).2 = 0 then if fX6_hasWindow I8401 A8401 x8397 0 = 0 then f_lt (x8397 + Int32.ofInt 1) fun y8705 => kk8682 y8705 x8398 I8401 A8401 else f_bdX (fX0_laySecondWindow I8401 A8401 x8397) fun _ I8707 A8707 => f_lt (fX2_endsBound I8707 A8707) fun y8708 => f_lt (fX2_overBound I8707 A8707) fun y8709 => f_lt (fX2_backBound I8707 A8707) fun y8710 => f_lt (if y8709 < y8710 then y8710 else y8709) fun y8713 => f_lt (if y8708 < y8713 then y8713 else y8708) fun y8716 => f_bdX (fX2_wholeDistance I8707 A8707) fun y8717 I8718 A8718 => f_lt (y8717 - y8716) fun y8721 => f_lt (x8398 + y8721) fun y8724 => f_lt (x8397 + Int32.ofInt 1) fun y8725 => kk8682 y8725 y8724 I8718 A8718 else f_lt (fX4_lengthOf_2 I8401 A8401 z1).1 fun y8694 => if fX6_hasWindow I8401 A8401 x8397 y8694 = 0 then f_lt (x8397 + Int32.ofInt 1) fun y8734 => kk8682 y8734 x8398 I8401 A8401 else f_bdX (fX0_laySecondWindow I8401 A8401 x8397) fun _ I8736 A8736 => f_lt (fX2_endsBound I8736 A8736) fun y8737 => f_lt (fX2_overBound I8736 A8736) fun y8738 => f_lt (fX2_backBound I8736 A8736) fun y8739 => f_lt (if y8738 < y8739 then y8739 else y8738) fun y8742 => f_lt (if y8737 < y8742 then y8742 else y8737) fun y8745 => f_bdX (fX2_wholeDistance I8736 A8736) fun y8746 I8747 A8747 => f_lt (y8746 - y8745) fun y8750 => f_lt (x8398 + y8750) fun y8753 => f_lt (x8397 + Int32.ofInt 1) fun y8754 => kk8682 y8754 y8753 I8747 A8747
noncomputable def fX1_slackSum (I : Nat → Int32) (A : Nat → Nat → Int32) (z1 : Int32) : Int32 × (Nat → Int32) × (Nat → Nat → Int32) := f_lt (fX7_valueOf_2 I A 0) fun y8394 => f_bdX (fX0_openQuery I A z1 y8394) fun _ I8396 A8396 => itr_iiIA dfX (bX1_slackSum_23 I z1) FU 0 0 I8396 A8396
def wo_k288_X1_slackSum : List Cond := [Cond.fieldLink RX1 28 "WarpDesk$Finder" "bench" "LWarpDesk$Bench;", Cond.fieldLink RX1 45 "WarpDesk$Bench" "settings" "LWarpDesk$Settings;", Cond.methodLink RX1 49 yX7_valueOf, Cond.instanceMethod yX7_valueOf, Cond.selects RX7 yX7_valueOf yX7_valueOf, Cond.initialized RX7, Cond.methodLink RX1 55 yX0_openQuery, Cond.instanceMethod yX0_openQuery, Cond.selects RX0 yX0_openQuery yX0_openQuery, Cond.initialized RX0, Cond.fieldLink RX1 38 "WarpDesk$Finder" "series" "LWarpDesk$Series;", Cond.fieldLink RX1 59 "WarpDesk$Series" "size" "I", Cond.fieldLink RX1 43 "WarpDesk$Finder" "queries" "LWarpDesk$Queries;", Cond.methodLink RX1 65 yX4_lengthOf, Cond.instanceMethod yX4_lengthOf, Cond.selects RX4 yX4_lengthOf yX4_lengthOf, Cond.initialized RX4, Cond.methodLink RX1 70 yX6_hasWindow, Cond.instanceMethod yX6_hasWindow, Cond.selects RX6 yX6_hasWindow yX6_hasWindow, Cond.initialized RX6, Cond.methodLink RX1 74 yX0_laySecondWindow, Cond.instanceMethod yX0_laySecondWindow, Cond.selects RX0 yX0_laySecondWindow yX0_laySecondWindow, Cond.fieldLink RX1 78 "WarpDesk$Bench" "fit" "LWarpDesk$Fit;", Cond.methodLink RX1 148 yX2_endsBound, Cond.instanceMethod yX2_endsBound, Cond.selects RX2 yX2_endsBound yX2_endsBound, Cond.initialized RX2, Cond.methodLink RX1 151 yX2_overBound, Cond.instanceMethod yX2_overBound, Cond.selects RX2 yX2_overBound yX2_overBound, Cond.methodLink RX1 154 yX2_backBound, Cond.instanceMethod yX2_backBound, Cond.selects RX2 yX2_backBound yX2_backBound, Cond.methodLink RX1 157 Lib.Math.max.name, Cond.static Lib.Math.max.name, Cond.initialized "java/lang/Math", Cond.code Lib.Math.max.name Lib.Math.max.code 2 (some .int), Cond.methodLink RX1 113 yX2_wholeDistance, Cond.instanceMethod yX2_wholeDistance, Cond.selects RX2 yX2_wholeDistance yX2_wholeDistance]
def wz_k288_X1_slackSum : List Cond := .code yX1_slackSum cX1_slackSum 6 (some .int) :: (wo_k288_X1_slackSum ++ (wsX00 ++ (wsX10 ++ (wsX60 ++ (wz_k174_X7_valueOf ++ (wz_k224_X0_openQuery ++ (wz_k165_X4_lengthOf ++ (wz_k207_X6_hasWindow ++ (wz_k226_X0_laySecondWindow ++ (wz_k239_X2_endsBound ++ (wz_k240_X2_overBound ++ (wz_k243_X2_backBound ++ (wz_k232_X2_wholeDistance ++ ([] : List Cond))))))))))))))
theorem zg_k288_X1_slackSum : ∀ w ∈ wz_k288_X1_slackSum, goodWord w = true := zg_cons rfl (zg_app (by decide +kernel) (zg_app zgU_wsX00 (zg_app zgU_wsX10 (zg_app zgU_wsX60 (zg_app zg_k174_X7_valueOf (zg_app zg_k224_X0_openQuery (zg_app zg_k165_X4_lengthOf (zg_app zg_k207_X6_hasWindow (zg_app zg_k226_X0_laySecondWindow (zg_app zg_k239_X2_endsBound (zg_app zg_k240_X2_overBound (zg_app zg_k243_X2_backBound (zg_app zg_k232_X2_wholeDistance zg_nil)))))))))))))
theorem zi_k288_X1_slackSum : ∀ w ∈ wz_k288_X1_slackSum, w ∈ lw_tbl := zi_cons zw_1234 (zi_app (zi_cons zw_402 (zi_cons zw_379 (zi_cons zw_1137 (zi_cons zw_786 (zi_cons zw_787 (zi_cons zw_107 (zi_cons zw_1121 (zi_cons zw_981 (zi_cons zw_982 (zi_cons zw_111 (zi_cons zw_403 (zi_cons zw_283 (zi_cons zw_404 (zi_cons zw_1102 (zi_cons zw_757 (zi_cons zw_758 (zi_cons zw_108 (zi_cons zw_1122 (zi_cons zw_902 (zi_cons zw_903 (zi_cons zw_109 (zi_cons zw_1123 (zi_cons zw_989 (zi_cons zw_990 (zi_cons zw_382 (zi_cons zw_1235 (zi_cons zw_1022 (zi_cons zw_1023 (zi_cons zw_112 (zi_cons zw_1236 (zi_cons zw_1026 (zi_cons zw_1027 (zi_cons zw_1237 (zi_cons zw_1038 (zi_cons zw_1039 (zi_cons zw_1238 (zi_cons zw_920 (zi_cons zw_120 (zi_cons zw_921 (zi_cons zw_1104 (zi_cons zw_993 (zi_cons zw_994 zi_nil)))))))))))))))))))))))))))))))))))))))))) (zi_app inX0 (zi_app inX1 (zi_app inX6 (zi_app zi_k174_X7_valueOf (zi_app zi_k224_X0_openQuery (zi_app zi_k165_X4_lengthOf (zi_app zi_k207_X6_hasWindow (zi_app zi_k226_X0_laySecondWindow (zi_app zi_k239_X2_endsBound (zi_app zi_k240_X2_overBound (zi_app zi_k243_X2_backBound (zi_app zi_k232_X2_wholeDistance zi_nil)))))))))))))
set_option maxHeartbeats 4000000 in
set_option maxRecDepth 100000 in
theorem k288_X1_slackSum (l : Launch) (D : va_G) (zt : Nat × Nat × Nat × (Nat → Nat) × (Nat → Nat)) (q : Nat → Nat) (d : Nat → ClassId) (I : Nat → Int32) (A : Nat → Nat → Int32) (z1 : Int32) (hIv : IvX I A) : GM l D zt (tyX d) yX1_slackSum wz_k288_X1_slackSum ({ frames := 5, cells := 0, slots := 0, locals := 109 } : Room) [.ref (q 43), .int z1] (wX q d I A) (fun v _ w' => ∃ (I' : Nat → Int32) (A' : Nat → Nat → Int32), Md [28, 30, 31, 32, 33, 34] I I' ∧ Md [21, 22, 23] A A' ∧ IvX I' A' ∧ ∃ y0 : Int32, FE (fX1_slackSum I A z1) (y0, I', A') ∧ v = some (.int y0) ∧ w' = wX q d I' A') 0 0 := by
  refine GM.of (cc := cX1_slackSum) (maxL := 6) (ret := (some .int)) (own := RX1) (lv := [(0, .ref (q 43)), (1, .int z1)]) (by decide) rfl rfl (Nat.le_of_ble_eq_true rfl) rfl (fun κ sz hk hR hN => ?_)
  have hin0 : ∀ w ∈ u_ws RX0 TX0 5, w ∈ wz_k288_X1_slackSum := fun w h => (List.mem_cons_of_mem _ (List.mem_append_right _ (List.mem_append_left _ h)))
  have hin1 : ∀ w ∈ u_ws RX1 TX1 11, w ∈ wz_k288_X1_slackSum := fun w h => (List.mem_cons_of_mem _ (List.mem_append_right _ (List.mem_append_right _ (List.mem_append_left _ h))))
  have hin6 : ∀ w ∈ u_ws RX6 TX6 3, w ∈ wz_k288_X1_slackSum := fun w h => (List.mem_cons_of_mem _ (List.mem_append_right _ (List.mem_append_right _ (List.mem_append_right _ (List.mem_append_left _ h)))))
  have hF : FE (fX1_slackSum I A z1) (fX1_slackSum I A z1) := FE.rf
  refine g_iconst (v := 0) hk dX1_slackSum_0 (by decide) ?_
  refine g_istore_n (lv' := [(2, .int 0), (0, .ref (q 43)), (1, .int z1)]) hk dX1_slackSum_1 (by decide) rfl ?_
  refine g_aload_n hk dX1_slackSum_2 rfl ?_
  refine gX_r43_0 hk hin1 (List.mem_cons_of_mem _ (List.mem_append_left _ (List.mem_of_getElem? (i := 0) rfl))) dX1_slackSum_3 ?_
  refine g_iload_n hk dX1_slackSum_6 rfl ?_
  refine g_aload_n hk dX1_slackSum_7 rfl ?_
  refine gX_r43_0 hk hin1 (List.mem_cons_of_mem _ (List.mem_append_left _ (List.mem_of_getElem? (i := 0) rfl))) dX1_slackSum_8 ?_
  refine gX_r37_2 hk hin0 (List.mem_cons_of_mem _ (List.mem_append_left _ (List.mem_of_getElem? (i := 1) rfl))) dX1_slackSum_11 ?_
  refine g_iconst (v := 0) hk dX1_slackSum_14 (by decide) ?_
  have k8393 : (0 : Int32).toInt = 0 := rfl
  refine g_callV (n := 1) hk (k194_X7_valueOf l D zt q d I A 0 hIv) (SP.same _) (fun _ h => h) (gi_V (List.mem_cons_of_mem _ (List.mem_append_left _ (List.mem_of_getElem? (i := 2) rfl))) (List.mem_cons_of_mem _ (List.mem_append_left _ (List.mem_of_getElem? (i := 3) rfl))) (List.mem_cons_of_mem _ (List.mem_append_left _ (List.mem_of_getElem? (i := 4) rfl))) (List.mem_cons_of_mem _ (List.mem_append_left _ (List.mem_of_getElem? (i := 5) rfl))) (gi_sub (fun w h => (List.mem_cons_of_mem _ (List.mem_append_right _ (List.mem_append_right _ (List.mem_append_right _ (List.mem_append_right _ (List.mem_append_left _ h))))))) zg_k174_X7_valueOf)) rfl rfl rfl (by decide +kernel) ⟨Nat.le_of_ble_eq_true rfl, Nat.le_of_ble_eq_true rfl⟩ 18 rfl rfl rfl rfl (Nat.le_of_ble_eq_true rfl) ⟨Nat.le_of_ble_eq_true rfl, Nat.le_of_ble_eq_true rfl⟩ dX1_slackSum_15 (fun v ty' w' hp hk' => ?_)
  obtain ⟨y8394, hC, rfl, rfl⟩ := hp
  replace hF := FE.lt hF (fe_s hC)
  show GW κ 6 0 0 (wX q d I A) 18 [(2, .int 0), (0, .ref (q 43)), (1, .int z1)] [.int y8394, .int z1, .ref (q 37)]
  refine g_callV (n := 2) hk (k224_X0_openQuery l D zt q d I A z1 y8394 hIv) (SP.same _) (fun _ h => h) (gi_V (List.mem_cons_of_mem _ (List.mem_append_left _ (List.mem_of_getElem? (i := 6) rfl))) (List.mem_cons_of_mem _ (List.mem_append_left _ (List.mem_of_getElem? (i := 7) rfl))) (List.mem_cons_of_mem _ (List.mem_append_left _ (List.mem_of_getElem? (i := 8) rfl))) (List.mem_cons_of_mem _ (List.mem_append_left _ (List.mem_of_getElem? (i := 9) rfl))) (gi_sub (fun w h => (List.mem_cons_of_mem _ (List.mem_append_right _ (List.mem_append_right _ (List.mem_append_right _ (List.mem_append_right _ (List.mem_append_right _ (List.mem_append_left _ h)))))))) zg_k224_X0_openQuery)) rfl rfl rfl (by decide +kernel) ⟨Nat.le_of_ble_eq_true rfl, Nat.le_of_ble_eq_true rfl⟩ 37 rfl rfl rfl rfl (Nat.le_of_ble_eq_true rfl) ⟨Nat.le_of_ble_eq_true rfl, Nat.le_of_ble_eq_true rfl⟩ dX1_slackSum_18 (fun v ty' w' hp hk' => ?_)
  obtain ⟨I8396, A8396, hI8396, hA8396, hV8396, hC, rfl, rfl⟩ := hp
  replace hF := FE.bdX hF hC
  show GW κ 6 0 0 (wX q d I8396 A8396) 21 [(2, .int 0), (0, .ref (q 43)), (1, .int z1)] []
  refine g_iconst (v := 0) hk dX1_slackSum_21 (by decide) ?_
  refine g_istore_n (lv' := [(3, .int 0), (2, .int 0), (0, .ref (q 43)), (1, .int z1)]) hk dX1_slackSum_22 (by decide) rfl ?_
  have lp8679 : ∀ (n8680 : Nat) (x8397 : Int32) (x8398 : Int32) (I8401 : Nat → Int32) (A8401 : Nat → Nat → Int32), (Md [33, 34] I8396 I8401) → (Md [22, 23] A8396 A8401) → (IvX I8401 A8401) → (0 ≤ x8397.toInt) → (x8397.toInt ≤ 160) → (161 - x8397.toInt < (n8680 : Int)) → (0 < n8680) → (FE (fX1_slackSum I A z1) (itr_iiIA dfX (bX1_slackSum_23 I z1) n8680 x8397 x8398 I8401 A8401)) → GW κ 6 0 0 (wX q d I8401 A8401) 23 [(3, .int x8397), (2, .int x8398), (0, .ref (q 43)), (1, .int z1)] [] := by
    intro n8680
    induction n8680 with
    | zero =>
      intro x8397 x8398 I8401 A8401 hI8401 hA8401 hV8401 h8677 h8678 m8681 m8681z hF
      exact absurd m8681z (Nat.lt_irrefl 0)
    | succ n8680 ih8683 =>
      intro x8397 x8398 I8401 A8401 hI8401 hA8401 hV8401 h8677 h8678 m8681 m8681z hF
      replace hF := FE.itr_iiIA hF
      refine g_iload_n hk dX1_slackSum_23 rfl ?_
      refine g_aload_n hk dX1_slackSum_24 rfl ?_
      refine gX_r43_1 hk hin1 (List.mem_cons_of_mem _ (List.mem_append_left _ (List.mem_of_getElem? (i := 10) rfl))) dX1_slackSum_25 ?_
      refine gX_i18 (v := (I 18)) hk hin6 (List.mem_cons_of_mem _ (List.mem_append_left _ (List.mem_of_getElem? (i := 11) rfl))) dX1_slackSum_28 ((hI8401 18 rfl).trans (hI8396 18 rfl)) ?_
      have f8684 := IvX_f18 hIv
      refine g_icmp_ge (tgt := 110) (a := x8397.toInt) (b := (I 18).toInt) hk dX1_slackSum_31 (by decide) rfl rfl (fun c8685 => ?_) (fun c8685 => ?_)
      · skip
        replace hF := FE.pos hF c8685
        refine g_iload_n hk dX1_slackSum_110 rfl ?_
        have b8686l := Int32.le_toInt x8398
        have b8686h := Int32.toInt_lt x8398
        exact g_iret hk hR rfl ⟨I8401, A8401, (show Md [28, 30, 31, 32, 33, 34] I I8401 from (Md.tr (Md.tr Md.rf hI8396 rfl) hI8401 rfl)), (show Md [21, 22, 23] A A8401 from (Md.tr (Md.tr Md.rf hA8396 rfl) hA8401 rfl)), hV8401, x8398, hF, rfl, rfl⟩ dX1_slackSum_111
      · skip
        replace hF := FE.neg hF c8685
        refine g_aload_n hk dX1_slackSum_34 rfl ?_
        refine gX_r43_1 hk hin1 (List.mem_cons_of_mem _ (List.mem_append_left _ (List.mem_of_getElem? (i := 10) rfl))) dX1_slackSum_35 ?_
        refine g_iload_n hk dX1_slackSum_38 rfl ?_
        refine g_aload_n hk dX1_slackSum_39 rfl ?_
        refine gX_r43_2 hk hin1 (List.mem_cons_of_mem _ (List.mem_append_left _ (List.mem_of_getElem? (i := 12) rfl))) dX1_slackSum_40 ?_
        refine g_iload_n hk dX1_slackSum_43 rfl ?_
        refine g_callV (n := 1) hk (k182_X4_lengthOf l D zt q d I8401 A8401 z1 hV8401) (SP.same _) (fun _ h => h) (gi_V (List.mem_cons_of_mem _ (List.mem_append_left _ (List.mem_of_getElem? (i := 13) rfl))) (List.mem_cons_of_mem _ (List.mem_append_left _ (List.mem_of_getElem? (i := 14) rfl))) (List.mem_cons_of_mem _ (List.mem_append_left _ (List.mem_of_getElem? (i := 15) rfl))) (List.mem_cons_of_mem _ (List.mem_append_left _ (List.mem_of_getElem? (i := 16) rfl))) (gi_sub (fun w h => (List.mem_cons_of_mem _ (List.mem_append_right _ (List.mem_append_right _ (List.mem_append_right _ (List.mem_append_right _ (List.mem_append_right _ (List.mem_append_right _ (List.mem_append_left _ h))))))))) zg_k165_X4_lengthOf)) rfl rfl rfl (by decide +kernel) ⟨Nat.le_of_ble_eq_true rfl, Nat.le_of_ble_eq_true rfl⟩ 15 rfl rfl rfl rfl (Nat.le_of_ble_eq_true rfl) ⟨Nat.le_of_ble_eq_true rfl, Nat.le_of_ble_eq_true rfl⟩ dX1_slackSum_44 (fun v ty' w' hp hk' => ?_)
        rcases hp with ⟨hC, rfl, rfl⟩ | ⟨y8694, c8688, c8689, c8690, c8691, c8692, c8693, c8695, c8696, hC, rfl, rfl⟩
        · skip
          replace hF := FE.pos hF (fe_2 hC)
          show GW κ 6 0 0 (wX q d I8401 A8401) 47 [(3, .int x8397), (2, .int x8398), (0, .ref (q 43)), (1, .int z1)] [.int 0, .int x8397, .ref (q 13)]
          refine g_callV (n := 2) hk (k207_X6_hasWindow l D zt q d I8401 A8401 x8397 0 hV8401) (SP.same _) (fun _ h => h) (gi_V (List.mem_cons_of_mem _ (List.mem_append_left _ (List.mem_of_getElem? (i := 17) rfl))) (List.mem_cons_of_mem _ (List.mem_append_left _ (List.mem_of_getElem? (i := 18) rfl))) (List.mem_cons_of_mem _ (List.mem_append_left _ (List.mem_of_getElem? (i := 19) rfl))) (List.mem_cons_of_mem _ (List.mem_append_left _ (List.mem_of_getElem? (i := 20) rfl))) (gi_sub (fun w h => (List.mem_cons_of_mem _ (List.mem_append_right _ (List.mem_append_right _ (List.mem_append_right _ (List.mem_append_right _ (List.mem_append_right _ (List.mem_append_right _ (List.mem_append_right _ (List.mem_append_left _ h)))))))))) zg_k207_X6_hasWindow)) rfl rfl rfl (by decide +kernel) ⟨Nat.le_of_ble_eq_true rfl, Nat.le_of_ble_eq_true rfl⟩ 13 rfl rfl rfl rfl (Nat.le_of_ble_eq_true rfl) ⟨Nat.le_of_ble_eq_true rfl, Nat.le_of_ble_eq_true rfl⟩ dX1_slackSum_47 (fun v ty' w' hp hk' => ?_)
          rcases hp with ⟨hC, rfl, rfl⟩ | ⟨c8698, c8699, c8700, c8701, c8702, c8703, hC, rfl, rfl⟩
          · skip
            replace hF := FE.pos hF hC
            show GW κ 6 0 0 (wX q d I8401 A8401) 50 [(3, .int x8397), (2, .int x8398), (0, .ref (q 43)), (1, .int z1)] [.int 0]
            refine g_if_eq (tgt := 104) (a := 0) hk dX1_slackSum_50 (by decide) rfl (fun _ => ?_) (fun z9 => absurd (show (0 : Int) = (0 : Int) from by decide) z9)
            obtain ⟨y8705, ey8705⟩ : ∃ y : Int32, y = x8397 + Int32.ofInt 1 := ⟨_, rfl⟩
            replace hF := FE.lt hF ey8705
            have hy8705 : y8705.toInt = x8397.toInt + 1 := i32_add ey8705 rfl (by decide) (by omega) (by omega)
            refine g_iinc (v := y8705) (lv' := [(3, .int y8705), (2, .int x8398), (0, .ref (q 43)), (1, .int z1)]) hk 0 dX1_slackSum_104 rfl ey8705.symm (by decide) rfl ?_
            refine g_goto (tgt := 23) hk dX1_slackSum_107 (by decide) ?_
            exact g_lv (List.forall_mem_cons.mpr ⟨List.mem_of_getElem? (i := 0) rfl, (List.forall_mem_cons.mpr ⟨List.mem_of_getElem? (i := 1) rfl, (List.forall_mem_cons.mpr ⟨List.mem_of_getElem? (i := 2) rfl, (List.forall_mem_cons.mpr ⟨List.mem_of_getElem? (i := 3) rfl, (fun _ h => absurd h List.not_mem_nil)⟩)⟩)⟩)⟩) (ih8683 y8705 x8398 I8401 A8401 (show Md [33, 34] I8396 I8401 from Md.tr hI8401 (show Md [33, 34] I8401 I8401 from Md.rf) rfl) (show Md [22, 23] A8396 A8401 from Md.tr hA8401 (show Md [22, 23] A8401 A8401 from Md.rf) rfl) hV8401 (by omega) (by omega) (by omega) (by omega) hF)
          · skip
            replace hF := FE.neg hF (fe_ne hC (by decide))
            show GW κ 6 0 0 (wX q d I8401 A8401) 50 [(3, .int x8397), (2, .int x8398), (0, .ref (q 43)), (1, .int z1)] [.int 1]
            refine g_if_eq (tgt := 104) (a := 1) hk dX1_slackSum_50 (by decide) rfl (fun z9 => absurd z9 (show ¬ ((1 : Int) = (0 : Int)) from by decide)) (fun _ => ?_)
            refine g_aload_n hk dX1_slackSum_53 rfl ?_
            refine gX_r43_0 hk hin1 (List.mem_cons_of_mem _ (List.mem_append_left _ (List.mem_of_getElem? (i := 0) rfl))) dX1_slackSum_54 ?_
            refine g_iload_n hk dX1_slackSum_57 rfl ?_
            refine g_callV (n := 1) hk (k226_X0_laySecondWindow l D zt q d I8401 A8401 x8397 hV8401) (SP.same _) (fun _ h => h) (gi_V (List.mem_cons_of_mem _ (List.mem_append_left _ (List.mem_of_getElem? (i := 21) rfl))) (List.mem_cons_of_mem _ (List.mem_append_left _ (List.mem_of_getElem? (i := 22) rfl))) (List.mem_cons_of_mem _ (List.mem_append_left _ (List.mem_of_getElem? (i := 23) rfl))) (List.mem_cons_of_mem _ (List.mem_append_left _ (List.mem_of_getElem? (i := 9) rfl))) (gi_sub (fun w h => (List.mem_cons_of_mem _ (List.mem_append_right _ (List.mem_append_right _ (List.mem_append_right _ (List.mem_append_right _ (List.mem_append_right _ (List.mem_append_right _ (List.mem_append_right _ (List.mem_append_right _ (List.mem_append_left _ h))))))))))) zg_k226_X0_laySecondWindow)) rfl rfl rfl (by decide +kernel) ⟨Nat.le_of_ble_eq_true rfl, Nat.le_of_ble_eq_true rfl⟩ 37 rfl rfl rfl rfl (Nat.le_of_ble_eq_true rfl) ⟨Nat.le_of_ble_eq_true rfl, Nat.le_of_ble_eq_true rfl⟩ dX1_slackSum_58 (fun v ty' w' hp hk' => ?_)
            obtain ⟨I8707, A8707, hI8707, hA8707, hV8707, hC, rfl, rfl⟩ := hp
            replace hF := FE.bdX hF hC
            show GW κ 6 0 0 (wX q d I8707 A8707) 61 [(3, .int x8397), (2, .int x8398), (0, .ref (q 43)), (1, .int z1)] []
            refine g_aload_n hk dX1_slackSum_61 rfl ?_
            refine gX_r43_0 hk hin1 (List.mem_cons_of_mem _ (List.mem_append_left _ (List.mem_of_getElem? (i := 0) rfl))) dX1_slackSum_62 ?_
            refine gX_r37_3 hk hin0 (List.mem_cons_of_mem _ (List.mem_append_left _ (List.mem_of_getElem? (i := 24) rfl))) dX1_slackSum_65 ?_
            refine g_astore (lv' := [(4, .ref (q 38)), (3, .int x8397), (2, .int x8398), (0, .ref (q 43)), (1, .int z1)]) hk dX1_slackSum_68 (by decide) rfl ?_
            refine g_aload hk dX1_slackSum_70 rfl ?_
            refine g_callV (n := 0) hk (k239_X2_endsBound l D zt q d I8707 A8707  hV8707) (SP.same _) (fun _ h => h) (gi_V (List.mem_cons_of_mem _ (List.mem_append_left _ (List.mem_of_getElem? (i := 25) rfl))) (List.mem_cons_of_mem _ (List.mem_append_left _ (List.mem_of_getElem? (i := 26) rfl))) (List.mem_cons_of_mem _ (List.mem_append_left _ (List.mem_of_getElem? (i := 27) rfl))) (List.mem_cons_of_mem _ (List.mem_append_left _ (List.mem_of_getElem? (i := 28) rfl))) (gi_sub (fun w h => (List.mem_cons_of_mem _ (List.mem_append_right _ (List.mem_append_right _ (List.mem_append_right _ (List.mem_append_right _ (List.mem_append_right _ (List.mem_append_right _ (List.mem_append_right _ (List.mem_append_right _ (List.mem_append_right _ (List.mem_append_left _ h)))))))))))) zg_k239_X2_endsBound)) rfl rfl rfl (by decide +kernel) ⟨Nat.le_of_ble_eq_true rfl, Nat.le_of_ble_eq_true rfl⟩ 38 rfl rfl rfl rfl (Nat.le_of_ble_eq_true rfl) ⟨Nat.le_of_ble_eq_true rfl, Nat.le_of_ble_eq_true rfl⟩ dX1_slackSum_72 (fun v ty' w' hp hk' => ?_)
            obtain ⟨y8708, hC, rfl, rfl⟩ := hp
            replace hF := FE.lt hF (fe_s hC)
            show GW κ 6 0 0 (wX q d I8707 A8707) 75 [(4, .ref (q 38)), (3, .int x8397), (2, .int x8398), (0, .ref (q 43)), (1, .int z1)] [.int y8708]
            refine g_aload hk dX1_slackSum_75 rfl ?_
            refine g_callV (n := 0) hk (k240_X2_overBound l D zt q d I8707 A8707  hV8707) (SP.same _) (fun _ h => h) (gi_V (List.mem_cons_of_mem _ (List.mem_append_left _ (List.mem_of_getElem? (i := 29) rfl))) (List.mem_cons_of_mem _ (List.mem_append_left _ (List.mem_of_getElem? (i := 30) rfl))) (List.mem_cons_of_mem _ (List.mem_append_left _ (List.mem_of_getElem? (i := 31) rfl))) (List.mem_cons_of_mem _ (List.mem_append_left _ (List.mem_of_getElem? (i := 28) rfl))) (gi_sub (fun w h => (List.mem_cons_of_mem _ (List.mem_append_right _ (List.mem_append_right _ (List.mem_append_right _ (List.mem_append_right _ (List.mem_append_right _ (List.mem_append_right _ (List.mem_append_right _ (List.mem_append_right _ (List.mem_append_right _ (List.mem_append_right _ (List.mem_append_left _ h))))))))))))) zg_k240_X2_overBound)) rfl rfl rfl (by decide +kernel) ⟨Nat.le_of_ble_eq_true rfl, Nat.le_of_ble_eq_true rfl⟩ 38 rfl rfl rfl rfl (Nat.le_of_ble_eq_true rfl) ⟨Nat.le_of_ble_eq_true rfl, Nat.le_of_ble_eq_true rfl⟩ dX1_slackSum_77 (fun v ty' w' hp hk' => ?_)
            obtain ⟨y8709, hC, rfl, rfl⟩ := hp
            replace hF := FE.lt hF (fe_s hC)
            show GW κ 6 0 0 (wX q d I8707 A8707) 80 [(4, .ref (q 38)), (3, .int x8397), (2, .int x8398), (0, .ref (q 43)), (1, .int z1)] [.int y8709, .int y8708]
            refine g_aload hk dX1_slackSum_80 rfl ?_
            refine g_callV (n := 0) hk (k243_X2_backBound l D zt q d I8707 A8707  hV8707) (SP.same _) (fun _ h => h) (gi_V (List.mem_cons_of_mem _ (List.mem_append_left _ (List.mem_of_getElem? (i := 32) rfl))) (List.mem_cons_of_mem _ (List.mem_append_left _ (List.mem_of_getElem? (i := 33) rfl))) (List.mem_cons_of_mem _ (List.mem_append_left _ (List.mem_of_getElem? (i := 34) rfl))) (List.mem_cons_of_mem _ (List.mem_append_left _ (List.mem_of_getElem? (i := 28) rfl))) (gi_sub (fun w h => (List.mem_cons_of_mem _ (List.mem_append_right _ (List.mem_append_right _ (List.mem_append_right _ (List.mem_append_right _ (List.mem_append_right _ (List.mem_append_right _ (List.mem_append_right _ (List.mem_append_right _ (List.mem_append_right _ (List.mem_append_right _ (List.mem_append_right _ (List.mem_append_left _ h)))))))))))))) zg_k243_X2_backBound)) rfl rfl rfl (by decide +kernel) ⟨Nat.le_of_ble_eq_true rfl, Nat.le_of_ble_eq_true rfl⟩ 38 rfl rfl rfl rfl (Nat.le_of_ble_eq_true rfl) ⟨Nat.le_of_ble_eq_true rfl, Nat.le_of_ble_eq_true rfl⟩ dX1_slackSum_82 (fun v ty' w' hp hk' => ?_)
            obtain ⟨y8710, hC, rfl, rfl⟩ := hp
            replace hF := FE.lt hF (fe_s hC)
            show GW κ 6 0 0 (wX q d I8707 A8707) 85 [(4, .ref (q 38)), (3, .int x8397), (2, .int x8398), (0, .ref (q 43)), (1, .int z1)] [.int y8710, .int y8709, .int y8708]
            have b8711l := Int32.le_toInt y8710
            have b8711h := Int32.toInt_lt y8710
            have b8712l := Int32.le_toInt y8709
            have b8712h := Int32.toInt_lt y8709
            refine g_mmax hk (List.mem_cons_of_mem _ (List.mem_append_left _ (List.mem_of_getElem? (i := 35) rfl))) (List.mem_cons_of_mem _ (List.mem_append_left _ (List.mem_of_getElem? (i := 36) rfl))) (List.mem_cons_of_mem _ (List.mem_append_left _ (List.mem_of_getElem? (i := 37) rfl))) (List.mem_cons_of_mem _ (List.mem_append_left _ (List.mem_of_getElem? (i := 38) rfl))) (Nat.le_of_ble_eq_true rfl) (Nat.le_of_ble_eq_true rfl) (Nat.le_of_ble_eq_true rfl) (Nat.le_of_ble_eq_true rfl) dX1_slackSum_85 ?_
            refine g_topi (fun y8713 ey8713 => ?_)
            replace hF := FE.lt hF ey8713
            have hy8713 := i32_max ey8713
            have b8714l := Int32.le_toInt y8713
            have b8714h := Int32.toInt_lt y8713
            have b8715l := Int32.le_toInt y8708
            have b8715h := Int32.toInt_lt y8708
            refine g_mmax hk (List.mem_cons_of_mem _ (List.mem_append_left _ (List.mem_of_getElem? (i := 35) rfl))) (List.mem_cons_of_mem _ (List.mem_append_left _ (List.mem_of_getElem? (i := 36) rfl))) (List.mem_cons_of_mem _ (List.mem_append_left _ (List.mem_of_getElem? (i := 37) rfl))) (List.mem_cons_of_mem _ (List.mem_append_left _ (List.mem_of_getElem? (i := 38) rfl))) (Nat.le_of_ble_eq_true rfl) (Nat.le_of_ble_eq_true rfl) (Nat.le_of_ble_eq_true rfl) (Nat.le_of_ble_eq_true rfl) dX1_slackSum_88 ?_
            refine g_topi (fun y8716 ey8716 => ?_)
            replace hF := FE.lt hF ey8716
            have hy8716 := i32_max ey8716
            refine g_istore (lv' := [(5, .int y8716), (4, .ref (q 38)), (3, .int x8397), (2, .int x8398), (0, .ref (q 43)), (1, .int z1)]) hk dX1_slackSum_91 (by decide) rfl ?_
            refine g_iload_n hk dX1_slackSum_93 rfl ?_
            refine g_aload hk dX1_slackSum_94 rfl ?_
            refine g_callV (n := 0) hk (k232_X2_wholeDistance l D zt q d I8707 A8707  hV8707) (SP.same _) (fun _ h => h) (gi_V (List.mem_cons_of_mem _ (List.mem_append_left _ (List.mem_of_getElem? (i := 39) rfl))) (List.mem_cons_of_mem _ (List.mem_append_left _ (List.mem_of_getElem? (i := 40) rfl))) (List.mem_cons_of_mem _ (List.mem_append_left _ (List.mem_of_getElem? (i := 41) rfl))) (List.mem_cons_of_mem _ (List.mem_append_left _ (List.mem_of_getElem? (i := 28) rfl))) (gi_sub (fun w h => (List.mem_cons_of_mem _ (List.mem_append_right _ (List.mem_append_right _ (List.mem_append_right _ (List.mem_append_right _ (List.mem_append_right _ (List.mem_append_right _ (List.mem_append_right _ (List.mem_append_right _ (List.mem_append_right _ (List.mem_append_right _ (List.mem_append_right _ (List.mem_append_right _ (List.mem_append_left _ h))))))))))))))) zg_k232_X2_wholeDistance)) rfl rfl rfl (by decide +kernel) ⟨Nat.le_of_ble_eq_true rfl, Nat.le_of_ble_eq_true rfl⟩ 38 rfl rfl rfl rfl (Nat.le_of_ble_eq_true rfl) ⟨Nat.le_of_ble_eq_true rfl, Nat.le_of_ble_eq_true rfl⟩ dX1_slackSum_96 (fun v ty' w' hp hk' => ?_)
            obtain ⟨I8718, A8718, hI8718, hA8718, hV8718, y8717, hC, rfl, rfl⟩ := hp
            replace hF := FE.bdX hF hC
            show GW κ 6 0 0 (wX q d I8718 A8718) 99 [(5, .int y8716), (4, .ref (q 38)), (3, .int x8397), (2, .int x8398), (0, .ref (q 43)), (1, .int z1)] [.int y8717, .int x8398]
            refine g_iload hk dX1_slackSum_99 rfl ?_
            have b8719l := Int32.le_toInt y8717
            have b8719h := Int32.toInt_lt y8717
            have b8720l := Int32.le_toInt y8716
            have b8720h := Int32.toInt_lt y8716
            refine g_isub hk dX1_slackSum_101 ?_
            refine g_topi (fun y8721 ey8721 => ?_)
            replace hF := FE.lt hF ey8721
            have hy8721 := i32_sub0 ey8721
            have b8722l := Int32.le_toInt x8398
            have b8722h := Int32.toInt_lt x8398
            have b8723l := Int32.le_toInt y8721
            have b8723h := Int32.toInt_lt y8721
            refine g_iadd hk dX1_slackSum_102 ?_
            refine g_topi (fun y8724 ey8724 => ?_)
            replace hF := FE.lt hF ey8724
            refine g_istore_n (lv' := [(2, .int y8724), (5, .int y8716), (4, .ref (q 38)), (3, .int x8397), (0, .ref (q 43)), (1, .int z1)]) hk dX1_slackSum_103 (by decide) rfl ?_
            obtain ⟨y8725, ey8725⟩ : ∃ y : Int32, y = x8397 + Int32.ofInt 1 := ⟨_, rfl⟩
            replace hF := FE.lt hF ey8725
            have hy8725 : y8725.toInt = x8397.toInt + 1 := i32_add ey8725 rfl (by decide) (by omega) (by omega)
            refine g_iinc (v := y8725) (lv' := [(3, .int y8725), (2, .int y8724), (5, .int y8716), (4, .ref (q 38)), (0, .ref (q 43)), (1, .int z1)]) hk 3 dX1_slackSum_104 rfl ey8725.symm (by decide) rfl ?_
            refine g_goto (tgt := 23) hk dX1_slackSum_107 (by decide) ?_
            exact g_lv (List.forall_mem_cons.mpr ⟨List.mem_of_getElem? (i := 0) rfl, (List.forall_mem_cons.mpr ⟨List.mem_of_getElem? (i := 1) rfl, (List.forall_mem_cons.mpr ⟨List.mem_of_getElem? (i := 4) rfl, (List.forall_mem_cons.mpr ⟨List.mem_of_getElem? (i := 5) rfl, (fun _ h => absurd h List.not_mem_nil)⟩)⟩)⟩)⟩) (ih8683 y8725 y8724 I8718 A8718 (show Md [33, 34] I8396 I8718 from Md.tr hI8401 (show Md [33, 34] I8401 I8718 from (Md.tr (Md.tr Md.rf hI8707 rfl) hI8718 rfl)) rfl) (show Md [22, 23] A8396 A8718 from Md.tr hA8401 (show Md [22, 23] A8401 A8718 from (Md.tr (Md.tr Md.rf hA8707 rfl) hA8718 rfl)) rfl) hV8718 (by omega) (by omega) (by omega) (by omega) hF)
        · skip
          replace hF := FE.neg hF (fe_ne2 hC (by decide))
          replace hF := FE.lt hF (fe_1 hC)
          show GW κ 6 0 0 (wX q d I8401 A8401) 47 [(3, .int x8397), (2, .int x8398), (0, .ref (q 43)), (1, .int z1)] [.int y8694, .int x8397, .ref (q 13)]
          refine g_callV (n := 2) hk (k207_X6_hasWindow l D zt q d I8401 A8401 x8397 y8694 hV8401) (SP.same _) (fun _ h => h) (gi_V (List.mem_cons_of_mem _ (List.mem_append_left _ (List.mem_of_getElem? (i := 17) rfl))) (List.mem_cons_of_mem _ (List.mem_append_left _ (List.mem_of_getElem? (i := 18) rfl))) (List.mem_cons_of_mem _ (List.mem_append_left _ (List.mem_of_getElem? (i := 19) rfl))) (List.mem_cons_of_mem _ (List.mem_append_left _ (List.mem_of_getElem? (i := 20) rfl))) (gi_sub (fun w h => (List.mem_cons_of_mem _ (List.mem_append_right _ (List.mem_append_right _ (List.mem_append_right _ (List.mem_append_right _ (List.mem_append_right _ (List.mem_append_right _ (List.mem_append_right _ (List.mem_append_left _ h)))))))))) zg_k207_X6_hasWindow)) rfl rfl rfl (by decide +kernel) ⟨Nat.le_of_ble_eq_true rfl, Nat.le_of_ble_eq_true rfl⟩ 13 rfl rfl rfl rfl (Nat.le_of_ble_eq_true rfl) ⟨Nat.le_of_ble_eq_true rfl, Nat.le_of_ble_eq_true rfl⟩ dX1_slackSum_47 (fun v ty' w' hp hk' => ?_)
          rcases hp with ⟨hC, rfl, rfl⟩ | ⟨c8727, c8728, c8729, c8730, c8731, c8732, hC, rfl, rfl⟩
          · skip
            replace hF := FE.pos hF hC
            show GW κ 6 0 0 (wX q d I8401 A8401) 50 [(3, .int x8397), (2, .int x8398), (0, .ref (q 43)), (1, .int z1)] [.int 0]
            refine g_if_eq (tgt := 104) (a := 0) hk dX1_slackSum_50 (by decide) rfl (fun _ => ?_) (fun z9 => absurd (show (0 : Int) = (0 : Int) from by decide) z9)
            obtain ⟨y8734, ey8734⟩ : ∃ y : Int32, y = x8397 + Int32.ofInt 1 := ⟨_, rfl⟩
            replace hF := FE.lt hF ey8734
            have hy8734 : y8734.toInt = x8397.toInt + 1 := i32_add ey8734 rfl (by decide) (by omega) (by omega)
            refine g_iinc (v := y8734) (lv' := [(3, .int y8734), (2, .int x8398), (0, .ref (q 43)), (1, .int z1)]) hk 0 dX1_slackSum_104 rfl ey8734.symm (by decide) rfl ?_
            refine g_goto (tgt := 23) hk dX1_slackSum_107 (by decide) ?_
            exact g_lv (List.forall_mem_cons.mpr ⟨List.mem_of_getElem? (i := 0) rfl, (List.forall_mem_cons.mpr ⟨List.mem_of_getElem? (i := 1) rfl, (List.forall_mem_cons.mpr ⟨List.mem_of_getElem? (i := 2) rfl, (List.forall_mem_cons.mpr ⟨List.mem_of_getElem? (i := 3) rfl, (fun _ h => absurd h List.not_mem_nil)⟩)⟩)⟩)⟩) (ih8683 y8734 x8398 I8401 A8401 (show Md [33, 34] I8396 I8401 from Md.tr hI8401 (show Md [33, 34] I8401 I8401 from Md.rf) rfl) (show Md [22, 23] A8396 A8401 from Md.tr hA8401 (show Md [22, 23] A8401 A8401 from Md.rf) rfl) hV8401 (by omega) (by omega) (by omega) (by omega) hF)
          · skip
            replace hF := FE.neg hF (fe_ne hC (by decide))
            show GW κ 6 0 0 (wX q d I8401 A8401) 50 [(3, .int x8397), (2, .int x8398), (0, .ref (q 43)), (1, .int z1)] [.int 1]
            refine g_if_eq (tgt := 104) (a := 1) hk dX1_slackSum_50 (by decide) rfl (fun z9 => absurd z9 (show ¬ ((1 : Int) = (0 : Int)) from by decide)) (fun _ => ?_)
            refine g_aload_n hk dX1_slackSum_53 rfl ?_
            refine gX_r43_0 hk hin1 (List.mem_cons_of_mem _ (List.mem_append_left _ (List.mem_of_getElem? (i := 0) rfl))) dX1_slackSum_54 ?_
            refine g_iload_n hk dX1_slackSum_57 rfl ?_
            refine g_callV (n := 1) hk (k226_X0_laySecondWindow l D zt q d I8401 A8401 x8397 hV8401) (SP.same _) (fun _ h => h) (gi_V (List.mem_cons_of_mem _ (List.mem_append_left _ (List.mem_of_getElem? (i := 21) rfl))) (List.mem_cons_of_mem _ (List.mem_append_left _ (List.mem_of_getElem? (i := 22) rfl))) (List.mem_cons_of_mem _ (List.mem_append_left _ (List.mem_of_getElem? (i := 23) rfl))) (List.mem_cons_of_mem _ (List.mem_append_left _ (List.mem_of_getElem? (i := 9) rfl))) (gi_sub (fun w h => (List.mem_cons_of_mem _ (List.mem_append_right _ (List.mem_append_right _ (List.mem_append_right _ (List.mem_append_right _ (List.mem_append_right _ (List.mem_append_right _ (List.mem_append_right _ (List.mem_append_right _ (List.mem_append_left _ h))))))))))) zg_k226_X0_laySecondWindow)) rfl rfl rfl (by decide +kernel) ⟨Nat.le_of_ble_eq_true rfl, Nat.le_of_ble_eq_true rfl⟩ 37 rfl rfl rfl rfl (Nat.le_of_ble_eq_true rfl) ⟨Nat.le_of_ble_eq_true rfl, Nat.le_of_ble_eq_true rfl⟩ dX1_slackSum_58 (fun v ty' w' hp hk' => ?_)
            obtain ⟨I8736, A8736, hI8736, hA8736, hV8736, hC, rfl, rfl⟩ := hp
            replace hF := FE.bdX hF hC
            show GW κ 6 0 0 (wX q d I8736 A8736) 61 [(3, .int x8397), (2, .int x8398), (0, .ref (q 43)), (1, .int z1)] []
            refine g_aload_n hk dX1_slackSum_61 rfl ?_
            refine gX_r43_0 hk hin1 (List.mem_cons_of_mem _ (List.mem_append_left _ (List.mem_of_getElem? (i := 0) rfl))) dX1_slackSum_62 ?_
            refine gX_r37_3 hk hin0 (List.mem_cons_of_mem _ (List.mem_append_left _ (List.mem_of_getElem? (i := 24) rfl))) dX1_slackSum_65 ?_
            refine g_astore (lv' := [(4, .ref (q 38)), (3, .int x8397), (2, .int x8398), (0, .ref (q 43)), (1, .int z1)]) hk dX1_slackSum_68 (by decide) rfl ?_
            refine g_aload hk dX1_slackSum_70 rfl ?_
            refine g_callV (n := 0) hk (k239_X2_endsBound l D zt q d I8736 A8736  hV8736) (SP.same _) (fun _ h => h) (gi_V (List.mem_cons_of_mem _ (List.mem_append_left _ (List.mem_of_getElem? (i := 25) rfl))) (List.mem_cons_of_mem _ (List.mem_append_left _ (List.mem_of_getElem? (i := 26) rfl))) (List.mem_cons_of_mem _ (List.mem_append_left _ (List.mem_of_getElem? (i := 27) rfl))) (List.mem_cons_of_mem _ (List.mem_append_left _ (List.mem_of_getElem? (i := 28) rfl))) (gi_sub (fun w h => (List.mem_cons_of_mem _ (List.mem_append_right _ (List.mem_append_right _ (List.mem_append_right _ (List.mem_append_right _ (List.mem_append_right _ (List.mem_append_right _ (List.mem_append_right _ (List.mem_append_right _ (List.mem_append_right _ (List.mem_append_left _ h)))))))))))) zg_k239_X2_endsBound)) rfl rfl rfl (by decide +kernel) ⟨Nat.le_of_ble_eq_true rfl, Nat.le_of_ble_eq_true rfl⟩ 38 rfl rfl rfl rfl (Nat.le_of_ble_eq_true rfl) ⟨Nat.le_of_ble_eq_true rfl, Nat.le_of_ble_eq_true rfl⟩ dX1_slackSum_72 (fun v ty' w' hp hk' => ?_)
            obtain ⟨y8737, hC, rfl, rfl⟩ := hp
            replace hF := FE.lt hF (fe_s hC)
            show GW κ 6 0 0 (wX q d I8736 A8736) 75 [(4, .ref (q 38)), (3, .int x8397), (2, .int x8398), (0, .ref (q 43)), (1, .int z1)] [.int y8737]
            refine g_aload hk dX1_slackSum_75 rfl ?_
            refine g_callV (n := 0) hk (k240_X2_overBound l D zt q d I8736 A8736  hV8736) (SP.same _) (fun _ h => h) (gi_V (List.mem_cons_of_mem _ (List.mem_append_left _ (List.mem_of_getElem? (i := 29) rfl))) (List.mem_cons_of_mem _ (List.mem_append_left _ (List.mem_of_getElem? (i := 30) rfl))) (List.mem_cons_of_mem _ (List.mem_append_left _ (List.mem_of_getElem? (i := 31) rfl))) (List.mem_cons_of_mem _ (List.mem_append_left _ (List.mem_of_getElem? (i := 28) rfl))) (gi_sub (fun w h => (List.mem_cons_of_mem _ (List.mem_append_right _ (List.mem_append_right _ (List.mem_append_right _ (List.mem_append_right _ (List.mem_append_right _ (List.mem_append_right _ (List.mem_append_right _ (List.mem_append_right _ (List.mem_append_right _ (List.mem_append_right _ (List.mem_append_left _ h))))))))))))) zg_k240_X2_overBound)) rfl rfl rfl (by decide +kernel) ⟨Nat.le_of_ble_eq_true rfl, Nat.le_of_ble_eq_true rfl⟩ 38 rfl rfl rfl rfl (Nat.le_of_ble_eq_true rfl) ⟨Nat.le_of_ble_eq_true rfl, Nat.le_of_ble_eq_true rfl⟩ dX1_slackSum_77 (fun v ty' w' hp hk' => ?_)
            obtain ⟨y8738, hC, rfl, rfl⟩ := hp
            replace hF := FE.lt hF (fe_s hC)
            show GW κ 6 0 0 (wX q d I8736 A8736) 80 [(4, .ref (q 38)), (3, .int x8397), (2, .int x8398), (0, .ref (q 43)), (1, .int z1)] [.int y8738, .int y8737]
            refine g_aload hk dX1_slackSum_80 rfl ?_
            refine g_callV (n := 0) hk (k243_X2_backBound l D zt q d I8736 A8736  hV8736) (SP.same _) (fun _ h => h) (gi_V (List.mem_cons_of_mem _ (List.mem_append_left _ (List.mem_of_getElem? (i := 32) rfl))) (List.mem_cons_of_mem _ (List.mem_append_left _ (List.mem_of_getElem? (i := 33) rfl))) (List.mem_cons_of_mem _ (List.mem_append_left _ (List.mem_of_getElem? (i := 34) rfl))) (List.mem_cons_of_mem _ (List.mem_append_left _ (List.mem_of_getElem? (i := 28) rfl))) (gi_sub (fun w h => (List.mem_cons_of_mem _ (List.mem_append_right _ (List.mem_append_right _ (List.mem_append_right _ (List.mem_append_right _ (List.mem_append_right _ (List.mem_append_right _ (List.mem_append_right _ (List.mem_append_right _ (List.mem_append_right _ (List.mem_append_right _ (List.mem_append_right _ (List.mem_append_left _ h)))))))))))))) zg_k243_X2_backBound)) rfl rfl rfl (by decide +kernel) ⟨Nat.le_of_ble_eq_true rfl, Nat.le_of_ble_eq_true rfl⟩ 38 rfl rfl rfl rfl (Nat.le_of_ble_eq_true rfl) ⟨Nat.le_of_ble_eq_true rfl, Nat.le_of_ble_eq_true rfl⟩ dX1_slackSum_82 (fun v ty' w' hp hk' => ?_)
            obtain ⟨y8739, hC, rfl, rfl⟩ := hp
            replace hF := FE.lt hF (fe_s hC)
            show GW κ 6 0 0 (wX q d I8736 A8736) 85 [(4, .ref (q 38)), (3, .int x8397), (2, .int x8398), (0, .ref (q 43)), (1, .int z1)] [.int y8739, .int y8738, .int y8737]
            have b8740l := Int32.le_toInt y8739
            have b8740h := Int32.toInt_lt y8739
            have b8741l := Int32.le_toInt y8738
            have b8741h := Int32.toInt_lt y8738
            refine g_mmax hk (List.mem_cons_of_mem _ (List.mem_append_left _ (List.mem_of_getElem? (i := 35) rfl))) (List.mem_cons_of_mem _ (List.mem_append_left _ (List.mem_of_getElem? (i := 36) rfl))) (List.mem_cons_of_mem _ (List.mem_append_left _ (List.mem_of_getElem? (i := 37) rfl))) (List.mem_cons_of_mem _ (List.mem_append_left _ (List.mem_of_getElem? (i := 38) rfl))) (Nat.le_of_ble_eq_true rfl) (Nat.le_of_ble_eq_true rfl) (Nat.le_of_ble_eq_true rfl) (Nat.le_of_ble_eq_true rfl) dX1_slackSum_85 ?_
            refine g_topi (fun y8742 ey8742 => ?_)
            replace hF := FE.lt hF ey8742
            have hy8742 := i32_max ey8742
            have b8743l := Int32.le_toInt y8742
            have b8743h := Int32.toInt_lt y8742
            have b8744l := Int32.le_toInt y8737
            have b8744h := Int32.toInt_lt y8737
            refine g_mmax hk (List.mem_cons_of_mem _ (List.mem_append_left _ (List.mem_of_getElem? (i := 35) rfl))) (List.mem_cons_of_mem _ (List.mem_append_left _ (List.mem_of_getElem? (i := 36) rfl))) (List.mem_cons_of_mem _ (List.mem_append_left _ (List.mem_of_getElem? (i := 37) rfl))) (List.mem_cons_of_mem _ (List.mem_append_left _ (List.mem_of_getElem? (i := 38) rfl))) (Nat.le_of_ble_eq_true rfl) (Nat.le_of_ble_eq_true rfl) (Nat.le_of_ble_eq_true rfl) (Nat.le_of_ble_eq_true rfl) dX1_slackSum_88 ?_
            refine g_topi (fun y8745 ey8745 => ?_)
            replace hF := FE.lt hF ey8745
            have hy8745 := i32_max ey8745
            refine g_istore (lv' := [(5, .int y8745), (4, .ref (q 38)), (3, .int x8397), (2, .int x8398), (0, .ref (q 43)), (1, .int z1)]) hk dX1_slackSum_91 (by decide) rfl ?_
            refine g_iload_n hk dX1_slackSum_93 rfl ?_
            refine g_aload hk dX1_slackSum_94 rfl ?_
            refine g_callV (n := 0) hk (k232_X2_wholeDistance l D zt q d I8736 A8736  hV8736) (SP.same _) (fun _ h => h) (gi_V (List.mem_cons_of_mem _ (List.mem_append_left _ (List.mem_of_getElem? (i := 39) rfl))) (List.mem_cons_of_mem _ (List.mem_append_left _ (List.mem_of_getElem? (i := 40) rfl))) (List.mem_cons_of_mem _ (List.mem_append_left _ (List.mem_of_getElem? (i := 41) rfl))) (List.mem_cons_of_mem _ (List.mem_append_left _ (List.mem_of_getElem? (i := 28) rfl))) (gi_sub (fun w h => (List.mem_cons_of_mem _ (List.mem_append_right _ (List.mem_append_right _ (List.mem_append_right _ (List.mem_append_right _ (List.mem_append_right _ (List.mem_append_right _ (List.mem_append_right _ (List.mem_append_right _ (List.mem_append_right _ (List.mem_append_right _ (List.mem_append_right _ (List.mem_append_right _ (List.mem_append_left _ h))))))))))))))) zg_k232_X2_wholeDistance)) rfl rfl rfl (by decide +kernel) ⟨Nat.le_of_ble_eq_true rfl, Nat.le_of_ble_eq_true rfl⟩ 38 rfl rfl rfl rfl (Nat.le_of_ble_eq_true rfl) ⟨Nat.le_of_ble_eq_true rfl, Nat.le_of_ble_eq_true rfl⟩ dX1_slackSum_96 (fun v ty' w' hp hk' => ?_)
            obtain ⟨I8747, A8747, hI8747, hA8747, hV8747, y8746, hC, rfl, rfl⟩ := hp
            replace hF := FE.bdX hF hC
            show GW κ 6 0 0 (wX q d I8747 A8747) 99 [(5, .int y8745), (4, .ref (q 38)), (3, .int x8397), (2, .int x8398), (0, .ref (q 43)), (1, .int z1)] [.int y8746, .int x8398]
            refine g_iload hk dX1_slackSum_99 rfl ?_
            have b8748l := Int32.le_toInt y8746
            have b8748h := Int32.toInt_lt y8746
            have b8749l := Int32.le_toInt y8745
            have b8749h := Int32.toInt_lt y8745
            refine g_isub hk dX1_slackSum_101 ?_
            refine g_topi (fun y8750 ey8750 => ?_)
            replace hF := FE.lt hF ey8750
            have hy8750 := i32_sub0 ey8750
            have b8751l := Int32.le_toInt x8398
            have b8751h := Int32.toInt_lt x8398
            have b8752l := Int32.le_toInt y8750
            have b8752h := Int32.toInt_lt y8750
            refine g_iadd hk dX1_slackSum_102 ?_
            refine g_topi (fun y8753 ey8753 => ?_)
            replace hF := FE.lt hF ey8753
            refine g_istore_n (lv' := [(2, .int y8753), (5, .int y8745), (4, .ref (q 38)), (3, .int x8397), (0, .ref (q 43)), (1, .int z1)]) hk dX1_slackSum_103 (by decide) rfl ?_
            obtain ⟨y8754, ey8754⟩ : ∃ y : Int32, y = x8397 + Int32.ofInt 1 := ⟨_, rfl⟩
            replace hF := FE.lt hF ey8754
            have hy8754 : y8754.toInt = x8397.toInt + 1 := i32_add ey8754 rfl (by decide) (by omega) (by omega)
            refine g_iinc (v := y8754) (lv' := [(3, .int y8754), (2, .int y8753), (5, .int y8745), (4, .ref (q 38)), (0, .ref (q 43)), (1, .int z1)]) hk 3 dX1_slackSum_104 rfl ey8754.symm (by decide) rfl ?_
            refine g_goto (tgt := 23) hk dX1_slackSum_107 (by decide) ?_
            exact g_lv (List.forall_mem_cons.mpr ⟨List.mem_of_getElem? (i := 0) rfl, (List.forall_mem_cons.mpr ⟨List.mem_of_getElem? (i := 1) rfl, (List.forall_mem_cons.mpr ⟨List.mem_of_getElem? (i := 4) rfl, (List.forall_mem_cons.mpr ⟨List.mem_of_getElem? (i := 5) rfl, (fun _ h => absurd h List.not_mem_nil)⟩)⟩)⟩)⟩) (ih8683 y8754 y8753 I8747 A8747 (show Md [33, 34] I8396 I8747 from Md.tr hI8401 (show Md [33, 34] I8401 I8747 from (Md.tr (Md.tr Md.rf hI8736 rfl) hI8747 rfl)) rfl) (show Md [22, 23] A8396 A8747 from Md.tr hA8401 (show Md [22, 23] A8401 A8747 from (Md.tr (Md.tr Md.rf hA8736 rfl) hA8747 rfl)) rfl) hV8747 (by omega) (by omega) (by omega) (by omega) hF)
  have n8755a : 161 - 0 < (FU : Int) := by have := FU_eq; omega
  have n8755b : 0 < FU := by have := FU_eq; omega
  exact lp8679 FU 0 0 I8396 A8396 Md.rf Md.rf hV8396 (by omega) (by omega) n8755a n8755b hF
