def wo_k263_X1_findBest : List Cond := [Cond.fieldLink RX1 100 "WarpDesk$Finder" "bestWindow" "I", Cond.fieldLink RX1 103 "WarpDesk$Finder" "bestDistance" "I", Cond.constant RX1 44 (2147483647), Cond.fieldLink RX1 28 "WarpDesk$Finder" "bench" "LWarpDesk$Bench;", Cond.methodLink RX1 55 yX0_openQuery, Cond.instanceMethod yX0_openQuery, Cond.selects RX0 yX0_openQuery yX0_openQuery, Cond.initialized RX0, Cond.fieldLink RX1 38 "WarpDesk$Finder" "series" "LWarpDesk$Series;", Cond.fieldLink RX1 59 "WarpDesk$Series" "size" "I", Cond.fieldLink RX1 43 "WarpDesk$Finder" "queries" "LWarpDesk$Queries;", Cond.methodLink RX1 65 yX4_lengthOf, Cond.instanceMethod yX4_lengthOf, Cond.selects RX4 yX4_lengthOf yX4_lengthOf, Cond.initialized RX4, Cond.methodLink RX1 70 yX6_hasWindow, Cond.instanceMethod yX6_hasWindow, Cond.selects RX6 yX6_hasWindow yX6_hasWindow, Cond.initialized RX6, Cond.methodLink RX1 74 yX0_laySecondWindow, Cond.instanceMethod yX0_laySecondWindow, Cond.selects RX0 yX0_laySecondWindow yX0_laySecondWindow, Cond.fieldLink RX1 78 "WarpDesk$Bench" "fit" "LWarpDesk$Fit;", Cond.methodLink RX1 106 yX2_isLess, Cond.instanceMethod yX2_isLess, Cond.selects RX2 yX2_isLess yX2_isLess, Cond.initialized RX2, Cond.methodLink RX1 90 yX2_laidDistance, Cond.instanceMethod yX2_laidDistance, Cond.selects RX2 yX2_laidDistance yX2_laidDistance]
def wz_k263_X1_findBest : List Cond := .code yX1_findBest cX1_findBest 5 none :: (wo_k263_X1_findBest ++ (wsX00 ++ (wsX10 ++ (wsX60 ++ (wz_k224_X0_openQuery ++ (wz_k182_X4_lengthOf ++ (wz_k207_X6_hasWindow ++ (wz_k226_X0_laySecondWindow ++ (wz_k264_X2_isLess ++ (wz_k237_X2_laidDistance ++ ([] : List Cond)))))))))))
theorem zg_k263_X1_findBest : ∀ w ∈ wz_k263_X1_findBest, goodWord w = true := zg_cons rfl (zg_app (by decide +kernel) (zg_app zgU_wsX00 (zg_app zgU_wsX10 (zg_app zgU_wsX60 (zg_app zg_k224_X0_openQuery (zg_app zg_k182_X4_lengthOf (zg_app zg_k207_X6_hasWindow (zg_app zg_k226_X0_laySecondWindow (zg_app zg_k264_X2_isLess (zg_app zg_k237_X2_laidDistance zg_nil))))))))))
theorem zi_k263_X1_findBest : ∀ w ∈ wz_k263_X1_findBest, w ∈ lw_tbl := zi_cons zw_1120 (zi_app (zi_cons zw_407 (zi_cons zw_409 (zi_cons zw_1101 (zi_cons zw_402 (zi_cons zw_1121 (zi_cons zw_981 (zi_cons zw_982 (zi_cons zw_111 (zi_cons zw_403 (zi_cons zw_283 (zi_cons zw_404 (zi_cons zw_1102 (zi_cons zw_757 (zi_cons zw_758 (zi_cons zw_108 (zi_cons zw_1122 (zi_cons zw_902 (zi_cons zw_903 (zi_cons zw_109 (zi_cons zw_1123 (zi_cons zw_989 (zi_cons zw_990 (zi_cons zw_382 (zi_cons zw_1124 (zi_cons zw_1125 (zi_cons zw_1126 (zi_cons zw_112 (zi_cons zw_1128 (zi_cons zw_1014 (zi_cons zw_1015 zi_nil)))))))))))))))))))))))))))))) (zi_app inX0 (zi_app inX1 (zi_app inX6 (zi_app zi_k224_X0_openQuery (zi_app zi_k182_X4_lengthOf (zi_app zi_k207_X6_hasWindow (zi_app zi_k226_X0_laySecondWindow (zi_app zi_k264_X2_isLess (zi_app zi_k237_X2_laidDistance zi_nil))))))))))
set_option maxHeartbeats 4000000 in
set_option maxRecDepth 100000 in
theorem k263_X1_findBest (l : Launch) (D : va_G) (zt : Nat × Nat × Nat × (Nat → Nat) × (Nat → Nat)) (q : Nat → Nat) (d : Nat → ClassId) (I : Nat → Int32) (A : Nat → Nat → Int32) (z1 : Int32) (z2 : Int32) (hIv : IvX I A) : GM l D zt (tyX d) yX1_findBest wz_k263_X1_findBest ({ frames := 5, cells := 0, slots := 0, locals := 109 } : Room) [.ref (q 43), .int z1, .int z2] (wX q d I A) (fun v _ w' => ∃ (I' : Nat → Int32) (A' : Nat → Nat → Int32), Md [28, 30, 31, 32, 33, 34, 35, 36] I I' ∧ Md [21, 22, 23] A A' ∧ IvX I' A' ∧ v = none ∧ w' = wX q d I' A') 0 0 := by
  refine GM.of (cc := cX1_findBest) (maxL := 5) (ret := none) (own := RX1) (lv := [(0, .ref (q 43)), (1, .int z1), (2, .int z2)]) (by decide) rfl rfl (Nat.le_of_ble_eq_true rfl) rfl (fun κ sz hk hR hN => ?_)
  have hin0 : ∀ w ∈ u_ws RX0 TX0 5, w ∈ wz_k263_X1_findBest := fun w h => (List.mem_cons_of_mem _ (List.mem_append_right _ (List.mem_append_left _ h)))
  have hin1 : ∀ w ∈ u_ws RX1 TX1 11, w ∈ wz_k263_X1_findBest := fun w h => (List.mem_cons_of_mem _ (List.mem_append_right _ (List.mem_append_right _ (List.mem_append_left _ h))))
  have hin6 : ∀ w ∈ u_ws RX6 TX6 3, w ∈ wz_k263_X1_findBest := fun w h => (List.mem_cons_of_mem _ (List.mem_append_right _ (List.mem_append_right _ (List.mem_append_right _ (List.mem_append_left _ h)))))
  refine g_aload_n hk dX1_findBest_0 rfl ?_
  refine g_bipush (v := (-2)) hk dX1_findBest_1 (by decide) ?_
  refine pX_i35 hk hin1 (List.mem_cons_of_mem _ (List.mem_append_left _ (List.mem_of_getElem? (i := 0) rfl))) dX1_findBest_3 ?_
  refine g_aload_n hk dX1_findBest_6 rfl ?_
  refine g_bipush (v := (-2)) hk dX1_findBest_7 (by decide) ?_
  refine pX_i36 hk hin1 (List.mem_cons_of_mem _ (List.mem_append_left _ (List.mem_of_getElem? (i := 1) rfl))) dX1_findBest_9 ?_
  refine g_ldc (v := 2147483647) hk (List.mem_cons_of_mem _ (List.mem_append_left _ (List.mem_of_getElem? (i := 2) rfl))) dX1_findBest_12 ?_
  refine g_istore_n (lv' := [(3, .int 2147483647), (0, .ref (q 43)), (1, .int z1), (2, .int z2)]) hk dX1_findBest_14 (by decide) rfl ?_
  refine g_aload_n hk dX1_findBest_15 rfl ?_
  refine gX_r43_0 hk hin1 (List.mem_cons_of_mem _ (List.mem_append_left _ (List.mem_of_getElem? (i := 3) rfl))) dX1_findBest_16 ?_
  refine g_iload_n hk dX1_findBest_19 rfl ?_
  refine g_iload_n hk dX1_findBest_20 rfl ?_
  refine g_callV (n := 2) hk (k224_X0_openQuery l D zt q d (upd (upd I 35 (-2)) 36 (-2)) A z1 z2 ⟨(IvX_f0 (I := I) (A := A) hIv), (IvX_f18 (I := I) (A := A) hIv), (IvX_f30 (I := I) (A := A) hIv), (IvX_f31 (I := I) (A := A) hIv), (IvX_a4 (I := I) (A := A) hIv), (IvX_a9 (I := I) (A := A) hIv), trivial⟩) (SP.same _) (fun _ h => h) (gi_V (List.mem_cons_of_mem _ (List.mem_append_left _ (List.mem_of_getElem? (i := 4) rfl))) (List.mem_cons_of_mem _ (List.mem_append_left _ (List.mem_of_getElem? (i := 5) rfl))) (List.mem_cons_of_mem _ (List.mem_append_left _ (List.mem_of_getElem? (i := 6) rfl))) (List.mem_cons_of_mem _ (List.mem_append_left _ (List.mem_of_getElem? (i := 7) rfl))) (gi_sub (fun w h => (List.mem_cons_of_mem _ (List.mem_append_right _ (List.mem_append_right _ (List.mem_append_right _ (List.mem_append_right _ (List.mem_append_left _ h))))))) zg_k224_X0_openQuery)) rfl rfl rfl (by decide +kernel) ⟨Nat.le_of_ble_eq_true rfl, Nat.le_of_ble_eq_true rfl⟩ 37 rfl rfl rfl rfl (Nat.le_of_ble_eq_true rfl) ⟨Nat.le_of_ble_eq_true rfl, Nat.le_of_ble_eq_true rfl⟩ dX1_findBest_21 (fun v ty' w' hp hk' => ?_)
  obtain ⟨I5350, A5350, hI5350, hA5350, hV5350, rfl, rfl⟩ := hp
  show GW κ 5 0 0 (wX q d I5350 A5350) 24 [(3, .int 2147483647), (0, .ref (q 43)), (1, .int z1), (2, .int z2)] []
  refine g_iconst (v := 0) hk dX1_findBest_24 (by decide) ?_
  refine g_istore (lv' := [(4, .int 0), (3, .int 2147483647), (0, .ref (q 43)), (1, .int z1), (2, .int z2)]) hk dX1_findBest_25 (by decide) rfl ?_
  have lp5572 : ∀ (n5573 : Nat) (x5351 : Int32) (x5352 : Int32) (I5356 : Nat → Int32) (A5356 : Nat → Nat → Int32), (Md [33, 34, 35, 36] I5350 I5356) → (Md [22, 23] A5350 A5356) → (IvX I5356 A5356) → (0 ≤ x5351.toInt) → (x5351.toInt ≤ 160) → (161 - x5351.toInt < (n5573 : Int)) → (0 < n5573) → GW κ 5 0 0 (wX q d I5356 A5356) 27 [(4, .int x5351), (3, .int x5352), (0, .ref (q 43)), (1, .int z1), (2, .int z2)] [] := by
    intro n5573
    induction n5573 with
    | zero =>
      intro x5351 x5352 I5356 A5356 hI5356 hA5356 hV5356 h5570 h5571 m5574 m5574z
      exact absurd m5574z (Nat.lt_irrefl 0)
    | succ n5573 ih5575 =>
      intro x5351 x5352 I5356 A5356 hI5356 hA5356 hV5356 h5570 h5571 m5574 m5574z
      refine g_iload hk dX1_findBest_27 rfl ?_
      refine g_aload_n hk dX1_findBest_29 rfl ?_
      refine gX_r43_1 hk hin1 (List.mem_cons_of_mem _ (List.mem_append_left _ (List.mem_of_getElem? (i := 8) rfl))) dX1_findBest_30 ?_
      refine gX_i18 (v := (I 18)) hk hin6 (List.mem_cons_of_mem _ (List.mem_append_left _ (List.mem_of_getElem? (i := 9) rfl))) dX1_findBest_33 ((hI5356 18 rfl).trans (hI5350 18 rfl)) ?_
      have f5576 := IvX_f18 hIv
      refine g_icmp_ge (tgt := 110) (a := x5351.toInt) (b := (I 18).toInt) hk dX1_findBest_36 (by decide) rfl rfl (fun c5577 => ?_) (fun c5577 => ?_)
      · skip
        exact g_vret hk hR ⟨I5356, A5356, (show Md [28, 30, 31, 32, 33, 34, 35, 36] I I5356 from (Md.tr (Md.tr (Md.up (Md.up Md.rf rfl) rfl) hI5350 rfl) hI5356 rfl)), (show Md [21, 22, 23] A A5356 from (Md.tr (Md.tr Md.rf hA5350 rfl) hA5356 rfl)), hV5356, rfl, rfl⟩ dX1_findBest_110
      · skip
        refine g_aload_n hk dX1_findBest_39 rfl ?_
        refine gX_r43_1 hk hin1 (List.mem_cons_of_mem _ (List.mem_append_left _ (List.mem_of_getElem? (i := 8) rfl))) dX1_findBest_40 ?_
        refine g_iload hk dX1_findBest_43 rfl ?_
        refine g_aload_n hk dX1_findBest_45 rfl ?_
        refine gX_r43_2 hk hin1 (List.mem_cons_of_mem _ (List.mem_append_left _ (List.mem_of_getElem? (i := 10) rfl))) dX1_findBest_46 ?_
        refine g_iload_n hk dX1_findBest_49 rfl ?_
        refine g_callV (n := 1) hk (k182_X4_lengthOf l D zt q d I5356 A5356 z1 hV5356) (SP.same _) (fun _ h => h) (gi_V (List.mem_cons_of_mem _ (List.mem_append_left _ (List.mem_of_getElem? (i := 11) rfl))) (List.mem_cons_of_mem _ (List.mem_append_left _ (List.mem_of_getElem? (i := 12) rfl))) (List.mem_cons_of_mem _ (List.mem_append_left _ (List.mem_of_getElem? (i := 13) rfl))) (List.mem_cons_of_mem _ (List.mem_append_left _ (List.mem_of_getElem? (i := 14) rfl))) (gi_sub (fun w h => (List.mem_cons_of_mem _ (List.mem_append_right _ (List.mem_append_right _ (List.mem_append_right _ (List.mem_append_right _ (List.mem_append_right _ (List.mem_append_left _ h)))))))) zg_k182_X4_lengthOf)) rfl rfl rfl (by decide +kernel) ⟨Nat.le_of_ble_eq_true rfl, Nat.le_of_ble_eq_true rfl⟩ 15 rfl rfl rfl rfl (Nat.le_of_ble_eq_true rfl) ⟨Nat.le_of_ble_eq_true rfl, Nat.le_of_ble_eq_true rfl⟩ dX1_findBest_50 (fun v ty' w' hp hk' => ?_)
        rcases hp with ⟨rfl, rfl⟩ | ⟨y5585, c5579, c5580, c5581, c5582, c5583, c5584, c5586, c5587, rfl, rfl⟩
        · skip
          show GW κ 5 0 0 (wX q d I5356 A5356) 53 [(4, .int x5351), (3, .int x5352), (0, .ref (q 43)), (1, .int z1), (2, .int z2)] [.int 0, .int x5351, .ref (q 13)]
          have k5588 : (0 : Int32).toInt = 0 := rfl
          refine g_callV (n := 2) hk (k207_X6_hasWindow l D zt q d I5356 A5356 x5351 0 hV5356) (SP.same _) (fun _ h => h) (gi_V (List.mem_cons_of_mem _ (List.mem_append_left _ (List.mem_of_getElem? (i := 15) rfl))) (List.mem_cons_of_mem _ (List.mem_append_left _ (List.mem_of_getElem? (i := 16) rfl))) (List.mem_cons_of_mem _ (List.mem_append_left _ (List.mem_of_getElem? (i := 17) rfl))) (List.mem_cons_of_mem _ (List.mem_append_left _ (List.mem_of_getElem? (i := 18) rfl))) (gi_sub (fun w h => (List.mem_cons_of_mem _ (List.mem_append_right _ (List.mem_append_right _ (List.mem_append_right _ (List.mem_append_right _ (List.mem_append_right _ (List.mem_append_right _ (List.mem_append_left _ h))))))))) zg_k207_X6_hasWindow)) rfl rfl rfl (by decide +kernel) ⟨Nat.le_of_ble_eq_true rfl, Nat.le_of_ble_eq_true rfl⟩ 13 rfl rfl rfl rfl (Nat.le_of_ble_eq_true rfl) ⟨Nat.le_of_ble_eq_true rfl, Nat.le_of_ble_eq_true rfl⟩ dX1_findBest_53 (fun v ty' w' hp hk' => ?_)
          rcases hp with ⟨rfl, rfl⟩ | ⟨c5590, c5591, c5592, c5593, c5594, c5595, rfl, rfl⟩
          · skip
            show GW κ 5 0 0 (wX q d I5356 A5356) 56 [(4, .int x5351), (3, .int x5352), (0, .ref (q 43)), (1, .int z1), (2, .int z2)] [.int 0]
            refine g_if_eq (tgt := 104) (a := 0) hk dX1_findBest_56 (by decide) rfl (fun _ => ?_) (fun z9 => absurd (show (0 : Int) = (0 : Int) from by decide) z9)
            obtain ⟨y5597, ey5597⟩ : ∃ y : Int32, y = x5351 + Int32.ofInt 1 := ⟨_, rfl⟩
            have hy5597 : y5597.toInt = x5351.toInt + 1 := i32_add ey5597 rfl (by decide) (by omega) (by omega)
            refine g_iinc (v := y5597) (lv' := [(4, .int y5597), (3, .int x5352), (0, .ref (q 43)), (1, .int z1), (2, .int z2)]) hk 0 dX1_findBest_104 rfl ey5597.symm (by decide) rfl ?_
            refine g_goto (tgt := 27) hk dX1_findBest_107 (by decide) ?_
            exact g_lv (List.forall_mem_cons.mpr ⟨List.mem_of_getElem? (i := 0) rfl, (List.forall_mem_cons.mpr ⟨List.mem_of_getElem? (i := 1) rfl, (List.forall_mem_cons.mpr ⟨List.mem_of_getElem? (i := 2) rfl, (List.forall_mem_cons.mpr ⟨List.mem_of_getElem? (i := 3) rfl, (List.forall_mem_cons.mpr ⟨List.mem_of_getElem? (i := 4) rfl, (fun _ h => absurd h List.not_mem_nil)⟩)⟩)⟩)⟩)⟩) (ih5575 y5597 x5352 I5356 A5356 (show Md [33, 34, 35, 36] I5350 I5356 from Md.tr hI5356 (show Md [33, 34, 35, 36] I5356 I5356 from Md.rf) rfl) (show Md [22, 23] A5350 A5356 from Md.tr hA5356 (show Md [22, 23] A5356 A5356 from Md.rf) rfl) hV5356 (by omega) (by omega) (by omega) (by omega))
          · skip
            show GW κ 5 0 0 (wX q d I5356 A5356) 56 [(4, .int x5351), (3, .int x5352), (0, .ref (q 43)), (1, .int z1), (2, .int z2)] [.int 1]
            refine g_if_eq (tgt := 104) (a := 1) hk dX1_findBest_56 (by decide) rfl (fun z9 => absurd z9 (show ¬ ((1 : Int) = (0 : Int)) from by decide)) (fun _ => ?_)
            refine g_aload_n hk dX1_findBest_59 rfl ?_
            refine gX_r43_0 hk hin1 (List.mem_cons_of_mem _ (List.mem_append_left _ (List.mem_of_getElem? (i := 3) rfl))) dX1_findBest_60 ?_
            refine g_iload hk dX1_findBest_63 rfl ?_
            refine g_callV (n := 1) hk (k226_X0_laySecondWindow l D zt q d I5356 A5356 x5351 hV5356) (SP.same _) (fun _ h => h) (gi_V (List.mem_cons_of_mem _ (List.mem_append_left _ (List.mem_of_getElem? (i := 19) rfl))) (List.mem_cons_of_mem _ (List.mem_append_left _ (List.mem_of_getElem? (i := 20) rfl))) (List.mem_cons_of_mem _ (List.mem_append_left _ (List.mem_of_getElem? (i := 21) rfl))) (List.mem_cons_of_mem _ (List.mem_append_left _ (List.mem_of_getElem? (i := 7) rfl))) (gi_sub (fun w h => (List.mem_cons_of_mem _ (List.mem_append_right _ (List.mem_append_right _ (List.mem_append_right _ (List.mem_append_right _ (List.mem_append_right _ (List.mem_append_right _ (List.mem_append_right _ (List.mem_append_left _ h)))))))))) zg_k226_X0_laySecondWindow)) rfl rfl rfl (by decide +kernel) ⟨Nat.le_of_ble_eq_true rfl, Nat.le_of_ble_eq_true rfl⟩ 37 rfl rfl rfl rfl (Nat.le_of_ble_eq_true rfl) ⟨Nat.le_of_ble_eq_true rfl, Nat.le_of_ble_eq_true rfl⟩ dX1_findBest_65 (fun v ty' w' hp hk' => ?_)
            obtain ⟨I5599, A5599, hI5599, hA5599, hV5599, rfl, rfl⟩ := hp
            show GW κ 5 0 0 (wX q d I5599 A5599) 68 [(4, .int x5351), (3, .int x5352), (0, .ref (q 43)), (1, .int z1), (2, .int z2)] []
            refine g_aload_n hk dX1_findBest_68 rfl ?_
            refine gX_r43_0 hk hin1 (List.mem_cons_of_mem _ (List.mem_append_left _ (List.mem_of_getElem? (i := 3) rfl))) dX1_findBest_69 ?_
            refine gX_r37_3 hk hin0 (List.mem_cons_of_mem _ (List.mem_append_left _ (List.mem_of_getElem? (i := 22) rfl))) dX1_findBest_72 ?_
            refine g_iload_n hk dX1_findBest_75 rfl ?_
            refine g_callV (n := 1) hk (k264_X2_isLess l D zt q d I5599 A5599 x5352 hV5599) (SP.same _) (fun _ h => h) (gi_V (List.mem_cons_of_mem _ (List.mem_append_left _ (List.mem_of_getElem? (i := 23) rfl))) (List.mem_cons_of_mem _ (List.mem_append_left _ (List.mem_of_getElem? (i := 24) rfl))) (List.mem_cons_of_mem _ (List.mem_append_left _ (List.mem_of_getElem? (i := 25) rfl))) (List.mem_cons_of_mem _ (List.mem_append_left _ (List.mem_of_getElem? (i := 26) rfl))) (gi_sub (fun w h => (List.mem_cons_of_mem _ (List.mem_append_right _ (List.mem_append_right _ (List.mem_append_right _ (List.mem_append_right _ (List.mem_append_right _ (List.mem_append_right _ (List.mem_append_right _ (List.mem_append_right _ (List.mem_append_left _ h))))))))))) zg_k264_X2_isLess)) rfl rfl rfl (by decide +kernel) ⟨Nat.le_of_ble_eq_true rfl, Nat.le_of_ble_eq_true rfl⟩ 38 rfl rfl rfl rfl (Nat.le_of_ble_eq_true rfl) ⟨Nat.le_of_ble_eq_true rfl, Nat.le_of_ble_eq_true rfl⟩ dX1_findBest_76 (fun v ty' w' hp hk' => ?_)
            obtain ⟨I5603, A5603, hI5603, hA5603, hV5603, y5600, c5601, c5602, rfl, rfl⟩ := hp
            show GW κ 5 0 0 (wX q d I5603 A5603) 79 [(4, .int x5351), (3, .int x5352), (0, .ref (q 43)), (1, .int z1), (2, .int z2)] [.int y5600]
            refine g_if_eq (tgt := 104) (a := y5600.toInt) hk dX1_findBest_79 (by decide) rfl (fun c5604 => ?_) (fun c5604 => ?_)
            · skip
              obtain ⟨y5605, ey5605⟩ : ∃ y : Int32, y = x5351 + Int32.ofInt 1 := ⟨_, rfl⟩
              have hy5605 : y5605.toInt = x5351.toInt + 1 := i32_add ey5605 rfl (by decide) (by omega) (by omega)
              refine g_iinc (v := y5605) (lv' := [(4, .int y5605), (3, .int x5352), (0, .ref (q 43)), (1, .int z1), (2, .int z2)]) hk 0 dX1_findBest_104 rfl ey5605.symm (by decide) rfl ?_
              refine g_goto (tgt := 27) hk dX1_findBest_107 (by decide) ?_
              exact g_lv (List.forall_mem_cons.mpr ⟨List.mem_of_getElem? (i := 0) rfl, (List.forall_mem_cons.mpr ⟨List.mem_of_getElem? (i := 1) rfl, (List.forall_mem_cons.mpr ⟨List.mem_of_getElem? (i := 2) rfl, (List.forall_mem_cons.mpr ⟨List.mem_of_getElem? (i := 3) rfl, (List.forall_mem_cons.mpr ⟨List.mem_of_getElem? (i := 4) rfl, (fun _ h => absurd h List.not_mem_nil)⟩)⟩)⟩)⟩)⟩) (ih5575 y5605 x5352 I5603 A5603 (show Md [33, 34, 35, 36] I5350 I5603 from Md.tr hI5356 (show Md [33, 34, 35, 36] I5356 I5603 from (Md.tr (Md.tr Md.rf hI5599 rfl) hI5603 rfl)) rfl) (show Md [22, 23] A5350 A5603 from Md.tr hA5356 (show Md [22, 23] A5356 A5603 from (Md.tr (Md.tr Md.rf hA5599 rfl) hA5603 rfl)) rfl) hV5603 (by omega) (by omega) (by omega) (by omega))
            · skip
              refine g_aload_n hk dX1_findBest_82 rfl ?_
              refine gX_r43_0 hk hin1 (List.mem_cons_of_mem _ (List.mem_append_left _ (List.mem_of_getElem? (i := 3) rfl))) dX1_findBest_83 ?_
              refine gX_r37_3 hk hin0 (List.mem_cons_of_mem _ (List.mem_append_left _ (List.mem_of_getElem? (i := 22) rfl))) dX1_findBest_86 ?_
              refine g_callV (n := 0) hk (k237_X2_laidDistance l D zt q d I5603 A5603  hV5603) (SP.same _) (fun _ h => h) (gi_V (List.mem_cons_of_mem _ (List.mem_append_left _ (List.mem_of_getElem? (i := 27) rfl))) (List.mem_cons_of_mem _ (List.mem_append_left _ (List.mem_of_getElem? (i := 28) rfl))) (List.mem_cons_of_mem _ (List.mem_append_left _ (List.mem_of_getElem? (i := 29) rfl))) (List.mem_cons_of_mem _ (List.mem_append_left _ (List.mem_of_getElem? (i := 26) rfl))) (gi_sub (fun w h => (List.mem_cons_of_mem _ (List.mem_append_right _ (List.mem_append_right _ (List.mem_append_right _ (List.mem_append_right _ (List.mem_append_right _ (List.mem_append_right _ (List.mem_append_right _ (List.mem_append_right _ (List.mem_append_right _ (List.mem_append_left _ h)))))))))))) zg_k237_X2_laidDistance)) rfl rfl rfl (by decide +kernel) ⟨Nat.le_of_ble_eq_true rfl, Nat.le_of_ble_eq_true rfl⟩ 38 rfl rfl rfl rfl (Nat.le_of_ble_eq_true rfl) ⟨Nat.le_of_ble_eq_true rfl, Nat.le_of_ble_eq_true rfl⟩ dX1_findBest_89 (fun v ty' w' hp hk' => ?_)
              obtain ⟨y5606, rfl, rfl⟩ := hp
              show GW κ 5 0 0 (wX q d I5603 A5603) 92 [(4, .int x5351), (3, .int x5352), (0, .ref (q 43)), (1, .int z1), (2, .int z2)] [.int y5606]
              refine g_istore_n (lv' := [(3, .int y5606), (4, .int x5351), (0, .ref (q 43)), (1, .int z1), (2, .int z2)]) hk dX1_findBest_92 (by decide) rfl ?_
              refine g_aload_n hk dX1_findBest_93 rfl ?_
              refine g_iload hk dX1_findBest_94 rfl ?_
              refine pX_i35 hk hin1 (List.mem_cons_of_mem _ (List.mem_append_left _ (List.mem_of_getElem? (i := 0) rfl))) dX1_findBest_96 ?_
              refine g_aload_n hk dX1_findBest_99 rfl ?_
              refine g_iload_n hk dX1_findBest_100 rfl ?_
              refine pX_i36 hk hin1 (List.mem_cons_of_mem _ (List.mem_append_left _ (List.mem_of_getElem? (i := 1) rfl))) dX1_findBest_101 ?_
              obtain ⟨y5607, ey5607⟩ : ∃ y : Int32, y = x5351 + Int32.ofInt 1 := ⟨_, rfl⟩
              have hy5607 : y5607.toInt = x5351.toInt + 1 := i32_add ey5607 rfl (by decide) (by omega) (by omega)
              refine g_iinc (v := y5607) (lv' := [(4, .int y5607), (3, .int y5606), (0, .ref (q 43)), (1, .int z1), (2, .int z2)]) hk 1 dX1_findBest_104 rfl ey5607.symm (by decide) rfl ?_
              refine g_goto (tgt := 27) hk dX1_findBest_107 (by decide) ?_
              exact g_lv (List.forall_mem_cons.mpr ⟨List.mem_of_getElem? (i := 0) rfl, (List.forall_mem_cons.mpr ⟨List.mem_of_getElem? (i := 1) rfl, (List.forall_mem_cons.mpr ⟨List.mem_of_getElem? (i := 2) rfl, (List.forall_mem_cons.mpr ⟨List.mem_of_getElem? (i := 3) rfl, (List.forall_mem_cons.mpr ⟨List.mem_of_getElem? (i := 4) rfl, (fun _ h => absurd h List.not_mem_nil)⟩)⟩)⟩)⟩)⟩) (ih5575 y5607 y5606 (upd (upd I5603 35 x5351) 36 y5606) A5603 (show Md [33, 34, 35, 36] I5350 (upd (upd I5603 35 x5351) 36 y5606) from Md.tr hI5356 (show Md [33, 34, 35, 36] I5356 (upd (upd I5603 35 x5351) 36 y5606) from (Md.up (Md.up (Md.tr (Md.tr Md.rf hI5599 rfl) hI5603 rfl) rfl) rfl)) rfl) (show Md [22, 23] A5350 A5603 from Md.tr hA5356 (show Md [22, 23] A5356 A5603 from (Md.tr (Md.tr Md.rf hA5599 rfl) hA5603 rfl)) rfl) ⟨(IvX_f0 (I := I5603) (A := A5603) hV5603), (IvX_f18 (I := I5603) (A := A5603) hV5603), (IvX_f30 (I := I5603) (A := A5603) hV5603), (IvX_f31 (I := I5603) (A := A5603) hV5603), (IvX_a4 (I := I5603) (A := A5603) hV5603), (IvX_a9 (I := I5603) (A := A5603) hV5603), trivial⟩ (by omega) (by omega) (by omega) (by omega))
        · skip
          show GW κ 5 0 0 (wX q d I5356 A5356) 53 [(4, .int x5351), (3, .int x5352), (0, .ref (q 43)), (1, .int z1), (2, .int z2)] [.int y5585, .int x5351, .ref (q 13)]
          refine g_callV (n := 2) hk (k207_X6_hasWindow l D zt q d I5356 A5356 x5351 y5585 hV5356) (SP.same _) (fun _ h => h) (gi_V (List.mem_cons_of_mem _ (List.mem_append_left _ (List.mem_of_getElem? (i := 15) rfl))) (List.mem_cons_of_mem _ (List.mem_append_left _ (List.mem_of_getElem? (i := 16) rfl))) (List.mem_cons_of_mem _ (List.mem_append_left _ (List.mem_of_getElem? (i := 17) rfl))) (List.mem_cons_of_mem _ (List.mem_append_left _ (List.mem_of_getElem? (i := 18) rfl))) (gi_sub (fun w h => (List.mem_cons_of_mem _ (List.mem_append_right _ (List.mem_append_right _ (List.mem_append_right _ (List.mem_append_right _ (List.mem_append_right _ (List.mem_append_right _ (List.mem_append_left _ h))))))))) zg_k207_X6_hasWindow)) rfl rfl rfl (by decide +kernel) ⟨Nat.le_of_ble_eq_true rfl, Nat.le_of_ble_eq_true rfl⟩ 13 rfl rfl rfl rfl (Nat.le_of_ble_eq_true rfl) ⟨Nat.le_of_ble_eq_true rfl, Nat.le_of_ble_eq_true rfl⟩ dX1_findBest_53 (fun v ty' w' hp hk' => ?_)
          rcases hp with ⟨rfl, rfl⟩ | ⟨c5609, c5610, c5611, c5612, c5613, c5614, rfl, rfl⟩
          · skip
            show GW κ 5 0 0 (wX q d I5356 A5356) 56 [(4, .int x5351), (3, .int x5352), (0, .ref (q 43)), (1, .int z1), (2, .int z2)] [.int 0]
            refine g_if_eq (tgt := 104) (a := 0) hk dX1_findBest_56 (by decide) rfl (fun _ => ?_) (fun z9 => absurd (show (0 : Int) = (0 : Int) from by decide) z9)
            obtain ⟨y5616, ey5616⟩ : ∃ y : Int32, y = x5351 + Int32.ofInt 1 := ⟨_, rfl⟩
            have hy5616 : y5616.toInt = x5351.toInt + 1 := i32_add ey5616 rfl (by decide) (by omega) (by omega)
            refine g_iinc (v := y5616) (lv' := [(4, .int y5616), (3, .int x5352), (0, .ref (q 43)), (1, .int z1), (2, .int z2)]) hk 0 dX1_findBest_104 rfl ey5616.symm (by decide) rfl ?_
            refine g_goto (tgt := 27) hk dX1_findBest_107 (by decide) ?_
            exact g_lv (List.forall_mem_cons.mpr ⟨List.mem_of_getElem? (i := 0) rfl, (List.forall_mem_cons.mpr ⟨List.mem_of_getElem? (i := 1) rfl, (List.forall_mem_cons.mpr ⟨List.mem_of_getElem? (i := 2) rfl, (List.forall_mem_cons.mpr ⟨List.mem_of_getElem? (i := 3) rfl, (List.forall_mem_cons.mpr ⟨List.mem_of_getElem? (i := 4) rfl, (fun _ h => absurd h List.not_mem_nil)⟩)⟩)⟩)⟩)⟩) (ih5575 y5616 x5352 I5356 A5356 (show Md [33, 34, 35, 36] I5350 I5356 from Md.tr hI5356 (show Md [33, 34, 35, 36] I5356 I5356 from Md.rf) rfl) (show Md [22, 23] A5350 A5356 from Md.tr hA5356 (show Md [22, 23] A5356 A5356 from Md.rf) rfl) hV5356 (by omega) (by omega) (by omega) (by omega))
          · skip
            show GW κ 5 0 0 (wX q d I5356 A5356) 56 [(4, .int x5351), (3, .int x5352), (0, .ref (q 43)), (1, .int z1), (2, .int z2)] [.int 1]
            refine g_if_eq (tgt := 104) (a := 1) hk dX1_findBest_56 (by decide) rfl (fun z9 => absurd z9 (show ¬ ((1 : Int) = (0 : Int)) from by decide)) (fun _ => ?_)
            refine g_aload_n hk dX1_findBest_59 rfl ?_
            refine gX_r43_0 hk hin1 (List.mem_cons_of_mem _ (List.mem_append_left _ (List.mem_of_getElem? (i := 3) rfl))) dX1_findBest_60 ?_
            refine g_iload hk dX1_findBest_63 rfl ?_
            refine g_callV (n := 1) hk (k226_X0_laySecondWindow l D zt q d I5356 A5356 x5351 hV5356) (SP.same _) (fun _ h => h) (gi_V (List.mem_cons_of_mem _ (List.mem_append_left _ (List.mem_of_getElem? (i := 19) rfl))) (List.mem_cons_of_mem _ (List.mem_append_left _ (List.mem_of_getElem? (i := 20) rfl))) (List.mem_cons_of_mem _ (List.mem_append_left _ (List.mem_of_getElem? (i := 21) rfl))) (List.mem_cons_of_mem _ (List.mem_append_left _ (List.mem_of_getElem? (i := 7) rfl))) (gi_sub (fun w h => (List.mem_cons_of_mem _ (List.mem_append_right _ (List.mem_append_right _ (List.mem_append_right _ (List.mem_append_right _ (List.mem_append_right _ (List.mem_append_right _ (List.mem_append_right _ (List.mem_append_left _ h)))))))))) zg_k226_X0_laySecondWindow)) rfl rfl rfl (by decide +kernel) ⟨Nat.le_of_ble_eq_true rfl, Nat.le_of_ble_eq_true rfl⟩ 37 rfl rfl rfl rfl (Nat.le_of_ble_eq_true rfl) ⟨Nat.le_of_ble_eq_true rfl, Nat.le_of_ble_eq_true rfl⟩ dX1_findBest_65 (fun v ty' w' hp hk' => ?_)
            obtain ⟨I5618, A5618, hI5618, hA5618, hV5618, rfl, rfl⟩ := hp
            show GW κ 5 0 0 (wX q d I5618 A5618) 68 [(4, .int x5351), (3, .int x5352), (0, .ref (q 43)), (1, .int z1), (2, .int z2)] []
            refine g_aload_n hk dX1_findBest_68 rfl ?_
            refine gX_r43_0 hk hin1 (List.mem_cons_of_mem _ (List.mem_append_left _ (List.mem_of_getElem? (i := 3) rfl))) dX1_findBest_69 ?_
            refine gX_r37_3 hk hin0 (List.mem_cons_of_mem _ (List.mem_append_left _ (List.mem_of_getElem? (i := 22) rfl))) dX1_findBest_72 ?_
            refine g_iload_n hk dX1_findBest_75 rfl ?_
            refine g_callV (n := 1) hk (k264_X2_isLess l D zt q d I5618 A5618 x5352 hV5618) (SP.same _) (fun _ h => h) (gi_V (List.mem_cons_of_mem _ (List.mem_append_left _ (List.mem_of_getElem? (i := 23) rfl))) (List.mem_cons_of_mem _ (List.mem_append_left _ (List.mem_of_getElem? (i := 24) rfl))) (List.mem_cons_of_mem _ (List.mem_append_left _ (List.mem_of_getElem? (i := 25) rfl))) (List.mem_cons_of_mem _ (List.mem_append_left _ (List.mem_of_getElem? (i := 26) rfl))) (gi_sub (fun w h => (List.mem_cons_of_mem _ (List.mem_append_right _ (List.mem_append_right _ (List.mem_append_right _ (List.mem_append_right _ (List.mem_append_right _ (List.mem_append_right _ (List.mem_append_right _ (List.mem_append_right _ (List.mem_append_left _ h))))))))))) zg_k264_X2_isLess)) rfl rfl rfl (by decide +kernel) ⟨Nat.le_of_ble_eq_true rfl, Nat.le_of_ble_eq_true rfl⟩ 38 rfl rfl rfl rfl (Nat.le_of_ble_eq_true rfl) ⟨Nat.le_of_ble_eq_true rfl, Nat.le_of_ble_eq_true rfl⟩ dX1_findBest_76 (fun v ty' w' hp hk' => ?_)
            obtain ⟨I5622, A5622, hI5622, hA5622, hV5622, y5619, c5620, c5621, rfl, rfl⟩ := hp
            show GW κ 5 0 0 (wX q d I5622 A5622) 79 [(4, .int x5351), (3, .int x5352), (0, .ref (q 43)), (1, .int z1), (2, .int z2)] [.int y5619]
            refine g_if_eq (tgt := 104) (a := y5619.toInt) hk dX1_findBest_79 (by decide) rfl (fun c5623 => ?_) (fun c5623 => ?_)
            · skip
              obtain ⟨y5624, ey5624⟩ : ∃ y : Int32, y = x5351 + Int32.ofInt 1 := ⟨_, rfl⟩
              have hy5624 : y5624.toInt = x5351.toInt + 1 := i32_add ey5624 rfl (by decide) (by omega) (by omega)
              refine g_iinc (v := y5624) (lv' := [(4, .int y5624), (3, .int x5352), (0, .ref (q 43)), (1, .int z1), (2, .int z2)]) hk 0 dX1_findBest_104 rfl ey5624.symm (by decide) rfl ?_
              refine g_goto (tgt := 27) hk dX1_findBest_107 (by decide) ?_
              exact g_lv (List.forall_mem_cons.mpr ⟨List.mem_of_getElem? (i := 0) rfl, (List.forall_mem_cons.mpr ⟨List.mem_of_getElem? (i := 1) rfl, (List.forall_mem_cons.mpr ⟨List.mem_of_getElem? (i := 2) rfl, (List.forall_mem_cons.mpr ⟨List.mem_of_getElem? (i := 3) rfl, (List.forall_mem_cons.mpr ⟨List.mem_of_getElem? (i := 4) rfl, (fun _ h => absurd h List.not_mem_nil)⟩)⟩)⟩)⟩)⟩) (ih5575 y5624 x5352 I5622 A5622 (show Md [33, 34, 35, 36] I5350 I5622 from Md.tr hI5356 (show Md [33, 34, 35, 36] I5356 I5622 from (Md.tr (Md.tr Md.rf hI5618 rfl) hI5622 rfl)) rfl) (show Md [22, 23] A5350 A5622 from Md.tr hA5356 (show Md [22, 23] A5356 A5622 from (Md.tr (Md.tr Md.rf hA5618 rfl) hA5622 rfl)) rfl) hV5622 (by omega) (by omega) (by omega) (by omega))
            · skip
              refine g_aload_n hk dX1_findBest_82 rfl ?_
              refine gX_r43_0 hk hin1 (List.mem_cons_of_mem _ (List.mem_append_left _ (List.mem_of_getElem? (i := 3) rfl))) dX1_findBest_83 ?_
              refine gX_r37_3 hk hin0 (List.mem_cons_of_mem _ (List.mem_append_left _ (List.mem_of_getElem? (i := 22) rfl))) dX1_findBest_86 ?_
              refine g_callV (n := 0) hk (k237_X2_laidDistance l D zt q d I5622 A5622  hV5622) (SP.same _) (fun _ h => h) (gi_V (List.mem_cons_of_mem _ (List.mem_append_left _ (List.mem_of_getElem? (i := 27) rfl))) (List.mem_cons_of_mem _ (List.mem_append_left _ (List.mem_of_getElem? (i := 28) rfl))) (List.mem_cons_of_mem _ (List.mem_append_left _ (List.mem_of_getElem? (i := 29) rfl))) (List.mem_cons_of_mem _ (List.mem_append_left _ (List.mem_of_getElem? (i := 26) rfl))) (gi_sub (fun w h => (List.mem_cons_of_mem _ (List.mem_append_right _ (List.mem_append_right _ (List.mem_append_right _ (List.mem_append_right _ (List.mem_append_right _ (List.mem_append_right _ (List.mem_append_right _ (List.mem_append_right _ (List.mem_append_right _ (List.mem_append_left _ h)))))))))))) zg_k237_X2_laidDistance)) rfl rfl rfl (by decide +kernel) ⟨Nat.le_of_ble_eq_true rfl, Nat.le_of_ble_eq_true rfl⟩ 38 rfl rfl rfl rfl (Nat.le_of_ble_eq_true rfl) ⟨Nat.le_of_ble_eq_true rfl, Nat.le_of_ble_eq_true rfl⟩ dX1_findBest_89 (fun v ty' w' hp hk' => ?_)
              obtain ⟨y5625, rfl, rfl⟩ := hp
              show GW κ 5 0 0 (wX q d I5622 A5622) 92 [(4, .int x5351), (3, .int x5352), (0, .ref (q 43)), (1, .int z1), (2, .int z2)] [.int y5625]
              refine g_istore_n (lv' := [(3, .int y5625), (4, .int x5351), (0, .ref (q 43)), (1, .int z1), (2, .int z2)]) hk dX1_findBest_92 (by decide) rfl ?_
              refine g_aload_n hk dX1_findBest_93 rfl ?_
              refine g_iload hk dX1_findBest_94 rfl ?_
              refine pX_i35 hk hin1 (List.mem_cons_of_mem _ (List.mem_append_left _ (List.mem_of_getElem? (i := 0) rfl))) dX1_findBest_96 ?_
              refine g_aload_n hk dX1_findBest_99 rfl ?_
              refine g_iload_n hk dX1_findBest_100 rfl ?_
              refine pX_i36 hk hin1 (List.mem_cons_of_mem _ (List.mem_append_left _ (List.mem_of_getElem? (i := 1) rfl))) dX1_findBest_101 ?_
              obtain ⟨y5626, ey5626⟩ : ∃ y : Int32, y = x5351 + Int32.ofInt 1 := ⟨_, rfl⟩
              have hy5626 : y5626.toInt = x5351.toInt + 1 := i32_add ey5626 rfl (by decide) (by omega) (by omega)
              refine g_iinc (v := y5626) (lv' := [(4, .int y5626), (3, .int y5625), (0, .ref (q 43)), (1, .int z1), (2, .int z2)]) hk 1 dX1_findBest_104 rfl ey5626.symm (by decide) rfl ?_
              refine g_goto (tgt := 27) hk dX1_findBest_107 (by decide) ?_
              exact g_lv (List.forall_mem_cons.mpr ⟨List.mem_of_getElem? (i := 0) rfl, (List.forall_mem_cons.mpr ⟨List.mem_of_getElem? (i := 1) rfl, (List.forall_mem_cons.mpr ⟨List.mem_of_getElem? (i := 2) rfl, (List.forall_mem_cons.mpr ⟨List.mem_of_getElem? (i := 3) rfl, (List.forall_mem_cons.mpr ⟨List.mem_of_getElem? (i := 4) rfl, (fun _ h => absurd h List.not_mem_nil)⟩)⟩)⟩)⟩)⟩) (ih5575 y5626 y5625 (upd (upd I5622 35 x5351) 36 y5625) A5622 (show Md [33, 34, 35, 36] I5350 (upd (upd I5622 35 x5351) 36 y5625) from Md.tr hI5356 (show Md [33, 34, 35, 36] I5356 (upd (upd I5622 35 x5351) 36 y5625) from (Md.up (Md.up (Md.tr (Md.tr Md.rf hI5618 rfl) hI5622 rfl) rfl) rfl)) rfl) (show Md [22, 23] A5350 A5622 from Md.tr hA5356 (show Md [22, 23] A5356 A5622 from (Md.tr (Md.tr Md.rf hA5618 rfl) hA5622 rfl)) rfl) ⟨(IvX_f0 (I := I5622) (A := A5622) hV5622), (IvX_f18 (I := I5622) (A := A5622) hV5622), (IvX_f30 (I := I5622) (A := A5622) hV5622), (IvX_f31 (I := I5622) (A := A5622) hV5622), (IvX_a4 (I := I5622) (A := A5622) hV5622), (IvX_a9 (I := I5622) (A := A5622) hV5622), trivial⟩ (by omega) (by omega) (by omega) (by omega))
  have k5628 : (0 : Int32).toInt = 0 := rfl
  have k5629 : (2147483647 : Int32).toInt = 2147483647 := rfl
  obtain ⟨n5627, n5627a, n5627b⟩ : ∃ n : Nat, 161 - 0 < (n : Int) ∧ 0 < n := ⟨((161 - 0 : Int)).toNat + 1, by omega, by omega⟩
  exact lp5572 n5627 0 2147483647 I5350 A5350 Md.rf Md.rf hV5350 (by omega) (by omega) n5627a n5627b
def wo_k262_X11_best : List Cond := [Cond.fieldLink RX11 35 "WarpDesk" "queries" "LWarpDesk$Queries;", Cond.methodLink RX11 251 yX4_has, Cond.instanceMethod yX4_has, Cond.selects RX4 yX4_has yX4_has, Cond.initialized RX4, Cond.fieldLink RX11 74 "WarpDesk" "finder" "LWarpDesk$Finder;", Cond.fieldLink RX11 42 "WarpDesk" "settings" "LWarpDesk$Settings;", Cond.methodLink RX11 154 yX7_valueOf, Cond.instanceMethod yX7_valueOf, Cond.selects RX7 yX7_valueOf yX7_valueOf, Cond.initialized RX7, Cond.methodLink RX11 269 yX1_findBest, Cond.instanceMethod yX1_findBest, Cond.selects RX1 yX1_findBest yX1_findBest, Cond.initialized RX1, Cond.fieldLink RX11 275 "WarpDesk$Finder" "bestDistance" "I", Cond.fieldLink RX11 272 "WarpDesk$Finder" "bestWindow" "I"]
def wz_k262_X11_best : List Cond := .code yX11_best cX11_best 3 (some .int) :: (wo_k262_X11_best ++ (wsX10 ++ (wsX110 ++ (wz_k168_X4_has ++ (wz_k194_X7_valueOf ++ (wz_k263_X1_findBest ++ ([] : List Cond)))))))
theorem zg_k262_X11_best : ∀ w ∈ wz_k262_X11_best, goodWord w = true := zg_cons rfl (zg_app (by decide +kernel) (zg_app zgU_wsX10 (zg_app zgU_wsX110 (zg_app zg_k168_X4_has (zg_app zg_k194_X7_valueOf (zg_app zg_k263_X1_findBest zg_nil))))))
theorem zi_k262_X11_best : ∀ w ∈ wz_k262_X11_best, w ∈ lw_tbl := zi_cons zw_1116 (zi_app (zi_cons zw_490 (zi_cons zw_1086 (zi_cons zw_747 (zi_cons zw_748 (zi_cons zw_108 (zi_cons zw_495 (zi_cons zw_491 (zi_cons zw_863 (zi_cons zw_786 (zi_cons zw_787 (zi_cons zw_107 (zi_cons zw_1117 (zi_cons zw_1118 (zi_cons zw_1119 (zi_cons zw_113 (zi_cons zw_410 (zi_cons zw_408 zi_nil))))))))))))))))) (zi_app inX1 (zi_app inX11 (zi_app zi_k168_X4_has (zi_app zi_k194_X7_valueOf (zi_app zi_k263_X1_findBest zi_nil))))))
set_option maxHeartbeats 4000000 in
set_option maxRecDepth 100000 in
theorem k262_X11_best (l : Launch) (D : va_G) (zt : Nat × Nat × Nat × (Nat → Nat) × (Nat → Nat)) (q : Nat → Nat) (d : Nat → ClassId) (I : Nat → Int32) (A : Nat → Nat → Int32) (z1 : Int32) (z2 : Int32) (hIv : IvX I A) : GM l D zt (tyX d) yX11_best wz_k262_X11_best ({ frames := 6, cells := 0, slots := 0, locals := 133 } : Room) [.ref (q 0), .int z1, .int z2] (wX q d I A) (fun v _ w' => ∃ (I' : Nat → Int32) (A' : Nat → Nat → Int32), Md [28, 30, 31, 32, 33, 34, 35, 36] I I' ∧ Md [21, 22, 23] A A' ∧ IvX I' A' ∧ ∃ y0 : Int32, v = some (.int y0) ∧ w' = wX q d I' A') 0 0 := by
  refine GM.of (cc := cX11_best) (maxL := 3) (ret := (some .int)) (own := RX11) (lv := [(0, .ref (q 0)), (1, .int z1), (2, .int z2)]) (by decide) rfl rfl (Nat.le_of_ble_eq_true rfl) rfl (fun κ sz hk hR hN => ?_)
  have hin1 : ∀ w ∈ u_ws RX1 TX1 11, w ∈ wz_k262_X11_best := fun w h => (List.mem_cons_of_mem _ (List.mem_append_right _ (List.mem_append_left _ h)))
  have hin11 : ∀ w ∈ u_ws RX11 TX11 10, w ∈ wz_k262_X11_best := fun w h => (List.mem_cons_of_mem _ (List.mem_append_right _ (List.mem_append_right _ (List.mem_append_left _ h))))
  refine g_iload_n hk dX11_best_0 rfl ?_
  have b5338l := Int32.le_toInt z2
  have b5338h := Int32.toInt_lt z2
  refine g_if_lt (tgt := 20) (a := z2.toInt) hk dX11_best_1 (by decide) rfl (fun c5339 => ?_) (fun c5339 => ?_)
  · skip
    refine g_iconst (v := (-1)) hk dX11_best_20 (by decide) ?_
    exact g_iret hk hR rfl ⟨I, A, (show Md [28, 30, 31, 32, 33, 34, 35, 36] I I from Md.rf), (show Md [21, 22, 23] A A from Md.rf), hIv, (-1), rfl, rfl⟩ dX11_best_21
  · skip
    refine g_iload_n hk dX11_best_4 rfl ?_
    refine g_iconst (v := 1) hk dX11_best_5 (by decide) ?_
    refine g_icmp_gt (tgt := 20) (a := z2.toInt) (b := 1) hk dX11_best_6 (by decide) rfl rfl (fun c5340 => ?_) (fun c5340 => ?_)
    · skip
      refine g_iconst (v := (-1)) hk dX11_best_20 (by decide) ?_
      exact g_iret hk hR rfl ⟨I, A, (show Md [28, 30, 31, 32, 33, 34, 35, 36] I I from Md.rf), (show Md [21, 22, 23] A A from Md.rf), hIv, (-1), rfl, rfl⟩ dX11_best_21
    · skip
      refine g_aload_n hk dX11_best_9 rfl ?_
      refine gX_r0_3 hk hin11 (List.mem_cons_of_mem _ (List.mem_append_left _ (List.mem_of_getElem? (i := 0) rfl))) dX11_best_10 ?_
      refine g_iload_n hk dX11_best_13 rfl ?_
      refine g_callV (n := 1) hk (k168_X4_has l D zt q d I A z1 hIv) (SP.same _) (fun _ h => h) (gi_V (List.mem_cons_of_mem _ (List.mem_append_left _ (List.mem_of_getElem? (i := 1) rfl))) (List.mem_cons_of_mem _ (List.mem_append_left _ (List.mem_of_getElem? (i := 2) rfl))) (List.mem_cons_of_mem _ (List.mem_append_left _ (List.mem_of_getElem? (i := 3) rfl))) (List.mem_cons_of_mem _ (List.mem_append_left _ (List.mem_of_getElem? (i := 4) rfl))) (gi_sub (fun w h => (List.mem_cons_of_mem _ (List.mem_append_right _ (List.mem_append_right _ (List.mem_append_right _ (List.mem_append_left _ h)))))) zg_k168_X4_has)) rfl rfl rfl (by decide +kernel) ⟨Nat.le_of_ble_eq_true rfl, Nat.le_of_ble_eq_true rfl⟩ 15 rfl rfl rfl rfl (Nat.le_of_ble_eq_true rfl) ⟨Nat.le_of_ble_eq_true rfl, Nat.le_of_ble_eq_true rfl⟩ dX11_best_14 (fun v ty' w' hp hk' => ?_)
      rcases hp with ⟨rfl, rfl⟩ | ⟨c5342, c5343, c5344, c5345, rfl, rfl⟩
      · skip
        show GW κ 3 0 0 (wX q d I A) 17 [(0, .ref (q 0)), (1, .int z1), (2, .int z2)] [.int 0]
        refine g_if_ne (tgt := 22) (a := 0) hk dX11_best_17 (by decide) rfl (fun z9 => absurd z9 (show ¬ ((0 : Int) ≠ (0 : Int)) from by decide)) (fun _ => ?_)
        refine g_iconst (v := (-1)) hk dX11_best_20 (by decide) ?_
        exact g_iret hk hR rfl ⟨I, A, (show Md [28, 30, 31, 32, 33, 34, 35, 36] I I from Md.rf), (show Md [21, 22, 23] A A from Md.rf), hIv, (-1), rfl, rfl⟩ dX11_best_21
      · skip
        show GW κ 3 0 0 (wX q d I A) 17 [(0, .ref (q 0)), (1, .int z1), (2, .int z2)] [.int 1]
        refine g_if_ne (tgt := 22) (a := 1) hk dX11_best_17 (by decide) rfl (fun _ => ?_) (fun z9 => absurd (show (1 : Int) ≠ (0 : Int) from by decide) z9)
        refine g_aload_n hk dX11_best_22 rfl ?_
        refine gX_r0_8 hk hin11 (List.mem_cons_of_mem _ (List.mem_append_left _ (List.mem_of_getElem? (i := 5) rfl))) dX11_best_23 ?_
        refine g_iload_n hk dX11_best_26 rfl ?_
        refine g_aload_n hk dX11_best_27 rfl ?_
        refine gX_r0_4 hk hin11 (List.mem_cons_of_mem _ (List.mem_append_left _ (List.mem_of_getElem? (i := 6) rfl))) dX11_best_28 ?_
        refine g_iconst (v := 0) hk dX11_best_31 (by decide) ?_
        have k5347 : (0 : Int32).toInt = 0 := rfl
        refine g_callV (n := 1) hk (k194_X7_valueOf l D zt q d I A 0 hIv) (SP.same _) (fun _ h => h) (gi_V (List.mem_cons_of_mem _ (List.mem_append_left _ (List.mem_of_getElem? (i := 7) rfl))) (List.mem_cons_of_mem _ (List.mem_append_left _ (List.mem_of_getElem? (i := 8) rfl))) (List.mem_cons_of_mem _ (List.mem_append_left _ (List.mem_of_getElem? (i := 9) rfl))) (List.mem_cons_of_mem _ (List.mem_append_left _ (List.mem_of_getElem? (i := 10) rfl))) (gi_sub (fun w h => (List.mem_cons_of_mem _ (List.mem_append_right _ (List.mem_append_right _ (List.mem_append_right _ (List.mem_append_right _ (List.mem_append_left _ h))))))) zg_k194_X7_valueOf)) rfl rfl rfl (by decide +kernel) ⟨Nat.le_of_ble_eq_true rfl, Nat.le_of_ble_eq_true rfl⟩ 18 rfl rfl rfl rfl (Nat.le_of_ble_eq_true rfl) ⟨Nat.le_of_ble_eq_true rfl, Nat.le_of_ble_eq_true rfl⟩ dX11_best_32 (fun v ty' w' hp hk' => ?_)
        obtain ⟨y5348, rfl, rfl⟩ := hp
        show GW κ 3 0 0 (wX q d I A) 35 [(0, .ref (q 0)), (1, .int z1), (2, .int z2)] [.int y5348, .int z1, .ref (q 43)]
        refine g_callV (n := 2) hk (k263_X1_findBest l D zt q d I A z1 y5348 hIv) (SP.same _) (fun _ h => h) (gi_V (List.mem_cons_of_mem _ (List.mem_append_left _ (List.mem_of_getElem? (i := 11) rfl))) (List.mem_cons_of_mem _ (List.mem_append_left _ (List.mem_of_getElem? (i := 12) rfl))) (List.mem_cons_of_mem _ (List.mem_append_left _ (List.mem_of_getElem? (i := 13) rfl))) (List.mem_cons_of_mem _ (List.mem_append_left _ (List.mem_of_getElem? (i := 14) rfl))) (gi_sub (fun w h => (List.mem_cons_of_mem _ (List.mem_append_right _ (List.mem_append_right _ (List.mem_append_right _ (List.mem_append_right _ (List.mem_append_right _ (List.mem_append_left _ h)))))))) zg_k263_X1_findBest)) rfl rfl rfl (by decide +kernel) ⟨Nat.le_of_ble_eq_true rfl, Nat.le_of_ble_eq_true rfl⟩ 43 rfl rfl rfl rfl (Nat.le_of_ble_eq_true rfl) ⟨Nat.le_of_ble_eq_true rfl, Nat.le_of_ble_eq_true rfl⟩ dX11_best_35 (fun v ty' w' hp hk' => ?_)
        obtain ⟨I5631, A5631, hI5631, hA5631, hV5631, rfl, rfl⟩ := hp
        show GW κ 3 0 0 (wX q d I5631 A5631) 38 [(0, .ref (q 0)), (1, .int z1), (2, .int z2)] []
        refine g_iload_n hk dX11_best_38 rfl ?_
        refine g_if_ne (tgt := 52) (a := z2.toInt) hk dX11_best_39 (by decide) rfl (fun c5632 => ?_) (fun c5632 => ?_)
        · skip
          refine g_aload_n hk dX11_best_52 rfl ?_
          refine gX_r0_8 hk hin11 (List.mem_cons_of_mem _ (List.mem_append_left _ (List.mem_of_getElem? (i := 5) rfl))) dX11_best_53 ?_
          refine gX_i36 (v := (I5631 36)) hk hin1 (List.mem_cons_of_mem _ (List.mem_append_left _ (List.mem_of_getElem? (i := 15) rfl))) dX11_best_56 rfl ?_
          have b5633l := Int32.le_toInt (I5631 36)
          have b5633h := Int32.toInt_lt (I5631 36)
          exact g_iret hk hR rfl ⟨I5631, A5631, (show Md [28, 30, 31, 32, 33, 34, 35, 36] I I5631 from (Md.tr Md.rf hI5631 rfl)), (show Md [21, 22, 23] A A5631 from (Md.tr Md.rf hA5631 rfl)), hV5631, (I5631 36), rfl, rfl⟩ dX11_best_59
        · skip
          refine g_aload_n hk dX11_best_42 rfl ?_
          refine gX_r0_8 hk hin11 (List.mem_cons_of_mem _ (List.mem_append_left _ (List.mem_of_getElem? (i := 5) rfl))) dX11_best_43 ?_
          refine gX_i35 (v := (I5631 35)) hk hin1 (List.mem_cons_of_mem _ (List.mem_append_left _ (List.mem_of_getElem? (i := 16) rfl))) dX11_best_46 rfl ?_
          refine g_goto (tgt := 59) hk dX11_best_49 (by decide) ?_
          have b5634l := Int32.le_toInt (I5631 35)
          have b5634h := Int32.toInt_lt (I5631 35)
          exact g_iret hk hR rfl ⟨I5631, A5631, (show Md [28, 30, 31, 32, 33, 34, 35, 36] I I5631 from (Md.tr Md.rf hI5631 rfl)), (show Md [21, 22, 23] A A5631 from (Md.tr Md.rf hA5631 rfl)), hV5631, (I5631 35), rfl, rfl⟩ dX11_best_59
def wo_k267_X1_addToTally : List Cond := [Cond.fieldLink RX1 11 "WarpDesk$Finder" "tally" "[I", Cond.fieldLink RX1 28 "WarpDesk$Finder" "bench" "LWarpDesk$Bench;", Cond.fieldLink RX1 78 "WarpDesk$Bench" "fit" "LWarpDesk$Fit;", Cond.fieldLink RX1 94 "WarpDesk$Fit" "cells" "I", Cond.fieldLink RX1 97 "WarpDesk$Fit" "brokenRow" "I"]
def wz_k267_X1_addToTally : List Cond := .code yX1_addToTally cX1_addToTally 2 none :: (wo_k267_X1_addToTally ++ (wsX00 ++ (wsX10 ++ (wsX20 ++ ([] : List Cond)))))
theorem zg_k267_X1_addToTally : ∀ w ∈ wz_k267_X1_addToTally, goodWord w = true := zg_cons rfl (zg_app (by decide +kernel) (zg_app zgU_wsX00 (zg_app zgU_wsX10 (zg_app zgU_wsX20 zg_nil))))
theorem zi_k267_X1_addToTally : ∀ w ∈ wz_k267_X1_addToTally, w ∈ lw_tbl := zi_cons zw_1142 (zi_app (zi_cons zw_405 (zi_cons zw_402 (zi_cons zw_382 (zi_cons zw_346 (zi_cons zw_349 zi_nil))))) (zi_app inX0 (zi_app inX1 (zi_app inX2 zi_nil))))
set_option maxHeartbeats 4000000 in
set_option maxRecDepth 100000 in
theorem k267_X1_addToTally (l : Launch) (D : va_G) (zt : Nat × Nat × Nat × (Nat → Nat) × (Nat → Nat)) (q : Nat → Nat) (d : Nat → ClassId) (I : Nat → Int32) (A : Nat → Nat → Int32) (z1 : Int32) (hIv : IvX I A) : GM l D zt (tyX d) yX1_addToTally wz_k267_X1_addToTally ({ frames := 0, cells := 0, slots := 0, locals := 0 } : Room) [.ref (q 43), .int z1] (wX q d I A) (fun v _ w' => ∃ (I' : Nat → Int32) (A' : Nat → Nat → Int32), Md [] I I' ∧ Md [25] A A' ∧ IvX I' A' ∧ v = none ∧ w' = wX q d I' A') 0 0 := by
  refine GM.of (cc := cX1_addToTally) (maxL := 2) (ret := none) (own := RX1) (lv := [(0, .ref (q 43)), (1, .int z1)]) (by decide) rfl rfl (Nat.le_of_ble_eq_true rfl) rfl (fun κ sz hk hR hN => ?_)
  have hin0 : ∀ w ∈ u_ws RX0 TX0 5, w ∈ wz_k267_X1_addToTally := fun w h => (List.mem_cons_of_mem _ (List.mem_append_right _ (List.mem_append_left _ h)))
  have hin1 : ∀ w ∈ u_ws RX1 TX1 11, w ∈ wz_k267_X1_addToTally := fun w h => (List.mem_cons_of_mem _ (List.mem_append_right _ (List.mem_append_right _ (List.mem_append_left _ h))))
  have hin2 : ∀ w ∈ u_ws RX2 TX2 10, w ∈ wz_k267_X1_addToTally := fun w h => (List.mem_cons_of_mem _ (List.mem_append_right _ (List.mem_append_right _ (List.mem_append_right _ (List.mem_append_left _ h)))))
  refine g_aload_n hk dX1_addToTally_0 rfl ?_
  refine gX_r43_3 hk hin1 (List.mem_cons_of_mem _ (List.mem_append_left _ (List.mem_of_getElem? (i := 0) rfl))) dX1_addToTally_1 ?_
  refine g_iconst (v := 0) hk dX1_addToTally_4 (by decide) ?_
  refine g_dup2 hk dX1_addToTally_5 rfl rfl ?_
  refine lX_25 (v := (A 25 0)) hk (vp_in_iff.mpr ⟨by decide, by decide⟩) rfl dX1_addToTally_6 ?_
  refine g_iconst (v := 1) hk dX1_addToTally_7 (by decide) ?_
  have b5689l := Int32.le_toInt (A 25 0)
  have b5689h := Int32.toInt_lt (A 25 0)
  refine g_iadd hk dX1_addToTally_8 ?_
  refine g_topi (fun y5690 ey5690 => ?_)
  refine sX_25 (j := 0) hk (vp_in_iff.mpr ⟨by decide, by decide⟩) (by decide) dX1_addToTally_9 ?_
  refine g_aload_n hk dX1_addToTally_10 rfl ?_
  refine gX_r43_3 hk hin1 (List.mem_cons_of_mem _ (List.mem_append_left _ (List.mem_of_getElem? (i := 0) rfl))) dX1_addToTally_11 ?_
  refine g_bipush (v := 6) hk dX1_addToTally_14 (by decide) ?_
  refine g_dup2 hk dX1_addToTally_16 rfl rfl ?_
  refine lX_25 hk (vp_in_iff.mpr ⟨by decide, by decide⟩) rfl dX1_addToTally_17 ?_
  refine g_topi (fun y5691 ey5691 => ?_)
  refine g_aload_n hk dX1_addToTally_18 rfl ?_
  refine gX_r43_0 hk hin1 (List.mem_cons_of_mem _ (List.mem_append_left _ (List.mem_of_getElem? (i := 1) rfl))) dX1_addToTally_19 ?_
  refine gX_r37_3 hk hin0 (List.mem_cons_of_mem _ (List.mem_append_left _ (List.mem_of_getElem? (i := 2) rfl))) dX1_addToTally_22 ?_
  refine gX_i33 (v := (I 33)) hk hin2 (List.mem_cons_of_mem _ (List.mem_append_left _ (List.mem_of_getElem? (i := 3) rfl))) dX1_addToTally_25 rfl ?_
  have b5692l := Int32.le_toInt y5691
  have b5692h := Int32.toInt_lt y5691
  have b5693l := Int32.le_toInt (I 33)
  have b5693h := Int32.toInt_lt (I 33)
  refine g_iadd hk dX1_addToTally_28 ?_
  refine g_topi (fun y5694 ey5694 => ?_)
  refine sX_25 (j := 6) hk (vp_in_iff.mpr ⟨by decide, by decide⟩) (by decide) dX1_addToTally_29 ?_
  refine g_iload_n hk dX1_addToTally_30 rfl ?_
  have b5695l := Int32.le_toInt z1
  have b5695h := Int32.toInt_lt z1
  refine g_if_ne (tgt := 48) (a := z1.toInt) hk dX1_addToTally_31 (by decide) rfl (fun c5696 => ?_) (fun c5696 => ?_)
  · skip
    refine g_iload_n hk dX1_addToTally_48 rfl ?_
    refine g_iconst (v := 1) hk dX1_addToTally_49 (by decide) ?_
    refine g_icmp_lt (tgt := 68) (a := z1.toInt) (b := 1) hk dX1_addToTally_50 (by decide) rfl rfl (fun c5697 => ?_) (fun c5697 => ?_)
    · skip
      refine g_iload_n hk dX1_addToTally_68 rfl ?_
      refine g_iconst (v := 4) hk dX1_addToTally_69 (by decide) ?_
      refine g_icmp_ne (tgt := 95) (a := z1.toInt) (b := 4) hk dX1_addToTally_70 (by decide) rfl rfl (fun _ => ?_) (fun z9 => absurd (show z1.toInt ≠ 4 from by omega) z9)
      exact g_vret hk hR ⟨I, (up3 (up3 A 25 0 y5690) 25 6 y5694), (show Md [] I I from Md.rf), (show Md [25] A (up3 (up3 A 25 0 y5690) 25 6 y5694) from (Md.up3 (Md.up3 Md.rf rfl) rfl)), ⟨(IvX_f0 (I := I) (A := A) hIv), (IvX_f18 (I := I) (A := A) hIv), (IvX_f30 (I := I) (A := A) hIv), (IvX_f31 (I := I) (A := A) hIv), (IvX_a4 (I := I) (A := A) hIv), (IvX_a9 (I := I) (A := A) hIv), trivial⟩, rfl, rfl⟩ dX1_addToTally_95
    · skip
      refine g_iload_n hk dX1_addToTally_53 rfl ?_
      refine g_iconst (v := 5) hk dX1_addToTally_54 (by decide) ?_
      refine g_icmp_gt (tgt := 68) (a := z1.toInt) (b := 5) hk dX1_addToTally_55 (by decide) rfl rfl (fun c5698 => ?_) (fun c5698 => ?_)
      · skip
        refine g_iload_n hk dX1_addToTally_68 rfl ?_
        refine g_iconst (v := 4) hk dX1_addToTally_69 (by decide) ?_
        refine g_icmp_ne (tgt := 95) (a := z1.toInt) (b := 4) hk dX1_addToTally_70 (by decide) rfl rfl (fun _ => ?_) (fun z9 => absurd (show z1.toInt ≠ 4 from by omega) z9)
        exact g_vret hk hR ⟨I, (up3 (up3 A 25 0 y5690) 25 6 y5694), (show Md [] I I from Md.rf), (show Md [25] A (up3 (up3 A 25 0 y5690) 25 6 y5694) from (Md.up3 (Md.up3 Md.rf rfl) rfl)), ⟨(IvX_f0 (I := I) (A := A) hIv), (IvX_f18 (I := I) (A := A) hIv), (IvX_f30 (I := I) (A := A) hIv), (IvX_f31 (I := I) (A := A) hIv), (IvX_a4 (I := I) (A := A) hIv), (IvX_a9 (I := I) (A := A) hIv), trivial⟩, rfl, rfl⟩ dX1_addToTally_95
      · skip
        refine g_aload_n hk dX1_addToTally_58 rfl ?_
        refine gX_r43_3 hk hin1 (List.mem_cons_of_mem _ (List.mem_append_left _ (List.mem_of_getElem? (i := 0) rfl))) dX1_addToTally_59 ?_
        refine g_iload_n hk dX1_addToTally_62 rfl ?_
        refine g_dup2 hk dX1_addToTally_63 rfl rfl ?_
        refine lX_25 hk (vp_in_iff.mpr ⟨by omega, by omega⟩) rfl dX1_addToTally_64 ?_
        refine g_topi (fun y5699 ey5699 => ?_)
        refine g_iconst (v := 1) hk dX1_addToTally_65 (by decide) ?_
        have b5700l := Int32.le_toInt y5699
        have b5700h := Int32.toInt_lt y5699
        refine g_iadd hk dX1_addToTally_66 ?_
        refine g_topi (fun y5701 ey5701 => ?_)
        refine sX_25 (j := z1.toNatClampNeg) hk (vp_in_iff.mpr ⟨by omega, by omega⟩) rfl dX1_addToTally_67 ?_
        refine g_iload_n hk dX1_addToTally_68 rfl ?_
        refine g_iconst (v := 4) hk dX1_addToTally_69 (by decide) ?_
        refine g_icmp_ne (tgt := 95) (a := z1.toInt) (b := 4) hk dX1_addToTally_70 (by decide) rfl rfl (fun c5702 => ?_) (fun c5702 => ?_)
        · skip
          exact g_vret hk hR ⟨I, (up3 (up3 (up3 A 25 0 y5690) 25 6 y5694) 25 (z1.toNatClampNeg) y5701), (show Md [] I I from Md.rf), (show Md [25] A (up3 (up3 (up3 A 25 0 y5690) 25 6 y5694) 25 (z1.toNatClampNeg) y5701) from (Md.up3 (Md.up3 (Md.up3 Md.rf rfl) rfl) rfl)), ⟨(IvX_f0 (I := I) (A := A) hIv), (IvX_f18 (I := I) (A := A) hIv), (IvX_f30 (I := I) (A := A) hIv), (IvX_f31 (I := I) (A := A) hIv), (IvX_a4 (I := I) (A := A) hIv), (IvX_a9 (I := I) (A := A) hIv), trivial⟩, rfl, rfl⟩ dX1_addToTally_95
        · skip
          refine g_aload_n hk dX1_addToTally_73 rfl ?_
          refine gX_r43_3 hk hin1 (List.mem_cons_of_mem _ (List.mem_append_left _ (List.mem_of_getElem? (i := 0) rfl))) dX1_addToTally_74 ?_
          refine g_bipush (v := 8) hk dX1_addToTally_77 (by decide) ?_
          refine g_dup2 hk dX1_addToTally_79 rfl rfl ?_
          refine lX_25 hk (vp_in_iff.mpr ⟨by decide, by decide⟩) rfl dX1_addToTally_80 ?_
          refine g_topi (fun y5703 ey5703 => ?_)
          refine g_aload_n hk dX1_addToTally_81 rfl ?_
          refine gX_r43_0 hk hin1 (List.mem_cons_of_mem _ (List.mem_append_left _ (List.mem_of_getElem? (i := 1) rfl))) dX1_addToTally_82 ?_
          refine gX_r37_3 hk hin0 (List.mem_cons_of_mem _ (List.mem_append_left _ (List.mem_of_getElem? (i := 2) rfl))) dX1_addToTally_85 ?_
          refine gX_i34 (v := (I 34)) hk hin2 (List.mem_cons_of_mem _ (List.mem_append_left _ (List.mem_of_getElem? (i := 4) rfl))) dX1_addToTally_88 rfl ?_
          refine g_iconst (v := 1) hk dX1_addToTally_91 (by decide) ?_
          have b5704l := Int32.le_toInt (I 34)
          have b5704h := Int32.toInt_lt (I 34)
          refine g_iadd hk dX1_addToTally_92 ?_
          refine g_topi (fun y5705 ey5705 => ?_)
          have b5706l := Int32.le_toInt y5703
          have b5706h := Int32.toInt_lt y5703
          have b5707l := Int32.le_toInt y5705
          have b5707h := Int32.toInt_lt y5705
          refine g_iadd hk dX1_addToTally_93 ?_
          refine g_topi (fun y5708 ey5708 => ?_)
          refine sX_25 (j := 8) hk (vp_in_iff.mpr ⟨by decide, by decide⟩) (by decide) dX1_addToTally_94 ?_
          exact g_vret hk hR ⟨I, (up3 (up3 (up3 (up3 A 25 0 y5690) 25 6 y5694) 25 (z1.toNatClampNeg) y5701) 25 8 y5708), (show Md [] I I from Md.rf), (show Md [25] A (up3 (up3 (up3 (up3 A 25 0 y5690) 25 6 y5694) 25 (z1.toNatClampNeg) y5701) 25 8 y5708) from (Md.up3 (Md.up3 (Md.up3 (Md.up3 Md.rf rfl) rfl) rfl) rfl)), ⟨(IvX_f0 (I := I) (A := A) hIv), (IvX_f18 (I := I) (A := A) hIv), (IvX_f30 (I := I) (A := A) hIv), (IvX_f31 (I := I) (A := A) hIv), (IvX_a4 (I := I) (A := A) hIv), (IvX_a9 (I := I) (A := A) hIv), trivial⟩, rfl, rfl⟩ dX1_addToTally_95
  · skip
    refine g_aload_n hk dX1_addToTally_34 rfl ?_
    refine gX_r43_3 hk hin1 (List.mem_cons_of_mem _ (List.mem_append_left _ (List.mem_of_getElem? (i := 0) rfl))) dX1_addToTally_35 ?_
    refine g_bipush (v := 7) hk dX1_addToTally_38 (by decide) ?_
    refine g_dup2 hk dX1_addToTally_40 rfl rfl ?_
    refine lX_25 hk (vp_in_iff.mpr ⟨by decide, by decide⟩) rfl dX1_addToTally_41 ?_
    refine g_topi (fun y5709 ey5709 => ?_)
    refine g_iconst (v := 1) hk dX1_addToTally_42 (by decide) ?_
    have b5710l := Int32.le_toInt y5709
    have b5710h := Int32.toInt_lt y5709
    refine g_iadd hk dX1_addToTally_43 ?_
    refine g_topi (fun y5711 ey5711 => ?_)
    refine sX_25 (j := 7) hk (vp_in_iff.mpr ⟨by decide, by decide⟩) (by decide) dX1_addToTally_44 ?_
    refine g_goto (tgt := 68) hk dX1_addToTally_45 (by decide) ?_
    refine g_iload_n hk dX1_addToTally_68 rfl ?_
    refine g_iconst (v := 4) hk dX1_addToTally_69 (by decide) ?_
    refine g_icmp_ne (tgt := 95) (a := z1.toInt) (b := 4) hk dX1_addToTally_70 (by decide) rfl rfl (fun _ => ?_) (fun z9 => absurd (show z1.toInt ≠ 4 from by omega) z9)
    exact g_vret hk hR ⟨I, (up3 (up3 (up3 A 25 0 y5690) 25 6 y5694) 25 7 y5711), (show Md [] I I from Md.rf), (show Md [25] A (up3 (up3 (up3 A 25 0 y5690) 25 6 y5694) 25 7 y5711) from (Md.up3 (Md.up3 (Md.up3 Md.rf rfl) rfl) rfl)), ⟨(IvX_f0 (I := I) (A := A) hIv), (IvX_f18 (I := I) (A := A) hIv), (IvX_f30 (I := I) (A := A) hIv), (IvX_f31 (I := I) (A := A) hIv), (IvX_a4 (I := I) (A := A) hIv), (IvX_a9 (I := I) (A := A) hIv), trivial⟩, rfl, rfl⟩ dX1_addToTally_95
def wo_k266_X1_runSearch : List Cond := [Cond.fieldLink RX1 11 "WarpDesk$Finder" "tally" "[I", Cond.constant RX1 44 (2147483647), Cond.fieldLink RX1 28 "WarpDesk$Finder" "bench" "LWarpDesk$Bench;", Cond.fieldLink RX1 45 "WarpDesk$Bench" "settings" "LWarpDesk$Settings;", Cond.methodLink RX1 49 yX7_valueOf, Cond.instanceMethod yX7_valueOf, Cond.selects RX7 yX7_valueOf yX7_valueOf, Cond.initialized RX7, Cond.methodLink RX1 55 yX0_openQuery, Cond.instanceMethod yX0_openQuery, Cond.selects RX0 yX0_openQuery yX0_openQuery, Cond.initialized RX0, Cond.fieldLink RX1 38 "WarpDesk$Finder" "series" "LWarpDesk$Series;", Cond.fieldLink RX1 59 "WarpDesk$Series" "size" "I", Cond.fieldLink RX1 43 "WarpDesk$Finder" "queries" "LWarpDesk$Queries;", Cond.methodLink RX1 65 yX4_lengthOf, Cond.instanceMethod yX4_lengthOf, Cond.selects RX4 yX4_lengthOf yX4_lengthOf, Cond.initialized RX4, Cond.methodLink RX1 70 yX6_hasWindow, Cond.instanceMethod yX6_hasWindow, Cond.selects RX6 yX6_hasWindow yX6_hasWindow, Cond.initialized RX6, Cond.methodLink RX1 74 yX0_laySecondWindow, Cond.instanceMethod yX0_laySecondWindow, Cond.selects RX0 yX0_laySecondWindow yX0_laySecondWindow, Cond.fieldLink RX1 78 "WarpDesk$Bench" "fit" "LWarpDesk$Fit;", Cond.methodLink RX1 82 yX2_lookAt, Cond.instanceMethod yX2_lookAt, Cond.selects RX2 yX2_lookAt yX2_lookAt, Cond.initialized RX2, Cond.methodLink RX1 87 yX1_addToTally, Cond.instanceMethod yX1_addToTally, Cond.selects RX1 yX1_addToTally yX1_addToTally, Cond.initialized RX1, Cond.methodLink RX1 90 yX2_laidDistance, Cond.instanceMethod yX2_laidDistance, Cond.selects RX2 yX2_laidDistance yX2_laidDistance]
def wz_k266_X1_runSearch : List Cond := .code yX1_runSearch cX1_runSearch 5 none :: (wo_k266_X1_runSearch ++ (wsX00 ++ (wsX10 ++ (wsX60 ++ (wz_k194_X7_valueOf ++ (wz_k224_X0_openQuery ++ (wz_k182_X4_lengthOf ++ (wz_k207_X6_hasWindow ++ (wz_k226_X0_laySecondWindow ++ (wz_k247_X2_lookAt ++ (wz_k267_X1_addToTally ++ (wz_k237_X2_laidDistance ++ ([] : List Cond)))))))))))))
theorem zg_k266_X1_runSearch : ∀ w ∈ wz_k266_X1_runSearch, goodWord w = true := zg_cons rfl (zg_app (by decide +kernel) (zg_app zgU_wsX00 (zg_app zgU_wsX10 (zg_app zgU_wsX60 (zg_app zg_k194_X7_valueOf (zg_app zg_k224_X0_openQuery (zg_app zg_k182_X4_lengthOf (zg_app zg_k207_X6_hasWindow (zg_app zg_k226_X0_laySecondWindow (zg_app zg_k247_X2_lookAt (zg_app zg_k267_X1_addToTally (zg_app zg_k237_X2_laidDistance zg_nil))))))))))))
theorem zi_k266_X1_runSearch : ∀ w ∈ wz_k266_X1_runSearch, w ∈ lw_tbl := zi_cons zw_1136 (zi_app (zi_cons zw_405 (zi_cons zw_1101 (zi_cons zw_402 (zi_cons zw_379 (zi_cons zw_1137 (zi_cons zw_786 (zi_cons zw_787 (zi_cons zw_107 (zi_cons zw_1121 (zi_cons zw_981 (zi_cons zw_982 (zi_cons zw_111 (zi_cons zw_403 (zi_cons zw_283 (zi_cons zw_404 (zi_cons zw_1102 (zi_cons zw_757 (zi_cons zw_758 (zi_cons zw_108 (zi_cons zw_1122 (zi_cons zw_902 (zi_cons zw_903 (zi_cons zw_109 (zi_cons zw_1123 (zi_cons zw_989 (zi_cons zw_990 (zi_cons zw_382 (zi_cons zw_1138 (zi_cons zw_1046 (zi_cons zw_1047 (zi_cons zw_112 (zi_cons zw_1139 (zi_cons zw_1141 (zi_cons zw_35 (zi_cons zw_113 (zi_cons zw_1128 (zi_cons zw_1014 (zi_cons zw_1015 zi_nil)))))))))))))))))))))))))))))))))))))) (zi_app inX0 (zi_app inX1 (zi_app inX6 (zi_app zi_k194_X7_valueOf (zi_app zi_k224_X0_openQuery (zi_app zi_k182_X4_lengthOf (zi_app zi_k207_X6_hasWindow (zi_app zi_k226_X0_laySecondWindow (zi_app zi_k247_X2_lookAt (zi_app zi_k267_X1_addToTally (zi_app zi_k237_X2_laidDistance zi_nil))))))))))))
set_option maxHeartbeats 4000000 in
set_option maxRecDepth 100000 in
theorem k266_X1_runSearch (l : Launch) (D : va_G) (zt : Nat × Nat × Nat × (Nat → Nat) × (Nat → Nat)) (q : Nat → Nat) (d : Nat → ClassId) (I : Nat → Int32) (A : Nat → Nat → Int32) (z1 : Int32) (hIv : IvX I A) : GM l D zt (tyX d) yX1_runSearch wz_k266_X1_runSearch ({ frames := 5, cells := 0, slots := 0, locals := 109 } : Room) [.ref (q 43), .int z1] (wX q d I A) (fun v _ w' => ∃ (I' : Nat → Int32) (A' : Nat → Nat → Int32), Md [28, 30, 31, 32, 33, 34] I I' ∧ Md [21, 22, 23, 25] A A' ∧ IvX I' A' ∧ v = none ∧ w' = wX q d I' A') 0 0 := by
  refine GM.of (cc := cX1_runSearch) (maxL := 5) (ret := none) (own := RX1) (lv := [(0, .ref (q 43)), (1, .int z1)]) (by decide) rfl rfl (Nat.le_of_ble_eq_true rfl) rfl (fun κ sz hk hR hN => ?_)
  have hin0 : ∀ w ∈ u_ws RX0 TX0 5, w ∈ wz_k266_X1_runSearch := fun w h => (List.mem_cons_of_mem _ (List.mem_append_right _ (List.mem_append_left _ h)))
  have hin1 : ∀ w ∈ u_ws RX1 TX1 11, w ∈ wz_k266_X1_runSearch := fun w h => (List.mem_cons_of_mem _ (List.mem_append_right _ (List.mem_append_right _ (List.mem_append_left _ h))))
  have hin6 : ∀ w ∈ u_ws RX6 TX6 3, w ∈ wz_k266_X1_runSearch := fun w h => (List.mem_cons_of_mem _ (List.mem_append_right _ (List.mem_append_right _ (List.mem_append_right _ (List.mem_append_left _ h)))))
  refine g_iconst (v := 0) hk dX1_runSearch_0 (by decide) ?_
  refine g_istore_n (lv' := [(2, .int 0), (0, .ref (q 43)), (1, .int z1)]) hk dX1_runSearch_1 (by decide) rfl ?_
  have lp6251 : ∀ (n6252 : Nat) (x5644 : Int32) (I5647 : Nat → Int32) (A5647 : Nat → Nat → Int32), (Md [] I I5647) → (Md [25] A A5647) → (IvX I5647 A5647) → (0 ≤ x5644.toInt) → (x5644.toInt ≤ 9) → (10 - x5644.toInt < (n6252 : Int)) → (0 < n6252) → GW κ 5 0 0 (wX q d I5647 A5647) 2 [(2, .int x5644), (0, .ref (q 43)), (1, .int z1)] [] := by
    intro n6252
    induction n6252 with
    | zero =>
      intro x5644 I5647 A5647 hI5647 hA5647 hV5647 h6249 h6250 m6253 m6253z
      exact absurd m6253z (Nat.lt_irrefl 0)
    | succ n6252 ih6254 =>
      intro x5644 I5647 A5647 hI5647 hA5647 hV5647 h6249 h6250 m6253 m6253z
      refine g_iload_n hk dX1_runSearch_2 rfl ?_
      refine g_bipush (v := 9) hk dX1_runSearch_3 (by decide) ?_
      refine g_icmp_ge (tgt := 21) (a := x5644.toInt) (b := 9) hk dX1_runSearch_5 (by decide) rfl rfl (fun c6255 => ?_) (fun c6255 => ?_)
      · skip
        refine g_ldc (v := 2147483647) hk (List.mem_cons_of_mem _ (List.mem_append_left _ (List.mem_of_getElem? (i := 1) rfl))) dX1_runSearch_21 ?_
        refine g_istore_n (lv' := [(2, .int 2147483647), (0, .ref (q 43)), (1, .int z1)]) hk dX1_runSearch_23 (by decide) rfl ?_
        refine g_aload_n hk dX1_runSearch_24 rfl ?_
        refine gX_r43_0 hk hin1 (List.mem_cons_of_mem _ (List.mem_append_left _ (List.mem_of_getElem? (i := 2) rfl))) dX1_runSearch_25 ?_
        refine g_iload_n hk dX1_runSearch_28 rfl ?_
        refine g_aload_n hk dX1_runSearch_29 rfl ?_
        refine gX_r43_0 hk hin1 (List.mem_cons_of_mem _ (List.mem_append_left _ (List.mem_of_getElem? (i := 2) rfl))) dX1_runSearch_30 ?_
        refine gX_r37_2 hk hin0 (List.mem_cons_of_mem _ (List.mem_append_left _ (List.mem_of_getElem? (i := 3) rfl))) dX1_runSearch_33 ?_
        refine g_iconst (v := 0) hk dX1_runSearch_36 (by decide) ?_
        have k6256 : (0 : Int32).toInt = 0 := rfl
        refine g_callV (n := 1) hk (k194_X7_valueOf l D zt q d I5647 A5647 0 hV5647) (SP.same _) (fun _ h => h) (gi_V (List.mem_cons_of_mem _ (List.mem_append_left _ (List.mem_of_getElem? (i := 4) rfl))) (List.mem_cons_of_mem _ (List.mem_append_left _ (List.mem_of_getElem? (i := 5) rfl))) (List.mem_cons_of_mem _ (List.mem_append_left _ (List.mem_of_getElem? (i := 6) rfl))) (List.mem_cons_of_mem _ (List.mem_append_left _ (List.mem_of_getElem? (i := 7) rfl))) (gi_sub (fun w h => (List.mem_cons_of_mem _ (List.mem_append_right _ (List.mem_append_right _ (List.mem_append_right _ (List.mem_append_right _ (List.mem_append_left _ h))))))) zg_k194_X7_valueOf)) rfl rfl rfl (by decide +kernel) ⟨Nat.le_of_ble_eq_true rfl, Nat.le_of_ble_eq_true rfl⟩ 18 rfl rfl rfl rfl (Nat.le_of_ble_eq_true rfl) ⟨Nat.le_of_ble_eq_true rfl, Nat.le_of_ble_eq_true rfl⟩ dX1_runSearch_37 (fun v ty' w' hp hk' => ?_)
        obtain ⟨y6257, rfl, rfl⟩ := hp
        show GW κ 5 0 0 (wX q d I5647 A5647) 40 [(2, .int 2147483647), (0, .ref (q 43)), (1, .int z1)] [.int y6257, .int z1, .ref (q 37)]
        refine g_callV (n := 2) hk (k224_X0_openQuery l D zt q d I5647 A5647 z1 y6257 hV5647) (SP.same _) (fun _ h => h) (gi_V (List.mem_cons_of_mem _ (List.mem_append_left _ (List.mem_of_getElem? (i := 8) rfl))) (List.mem_cons_of_mem _ (List.mem_append_left _ (List.mem_of_getElem? (i := 9) rfl))) (List.mem_cons_of_mem _ (List.mem_append_left _ (List.mem_of_getElem? (i := 10) rfl))) (List.mem_cons_of_mem _ (List.mem_append_left _ (List.mem_of_getElem? (i := 11) rfl))) (gi_sub (fun w h => (List.mem_cons_of_mem _ (List.mem_append_right _ (List.mem_append_right _ (List.mem_append_right _ (List.mem_append_right _ (List.mem_append_right _ (List.mem_append_left _ h)))))))) zg_k224_X0_openQuery)) rfl rfl rfl (by decide +kernel) ⟨Nat.le_of_ble_eq_true rfl, Nat.le_of_ble_eq_true rfl⟩ 37 rfl rfl rfl rfl (Nat.le_of_ble_eq_true rfl) ⟨Nat.le_of_ble_eq_true rfl, Nat.le_of_ble_eq_true rfl⟩ dX1_runSearch_40 (fun v ty' w' hp hk' => ?_)
        obtain ⟨I6259, A6259, hI6259, hA6259, hV6259, rfl, rfl⟩ := hp
        show GW κ 5 0 0 (wX q d I6259 A6259) 43 [(2, .int 2147483647), (0, .ref (q 43)), (1, .int z1)] []
        refine g_iconst (v := 0) hk dX1_runSearch_43 (by decide) ?_
        refine g_istore_n (lv' := [(3, .int 0), (2, .int 2147483647), (0, .ref (q 43)), (1, .int z1)]) hk dX1_runSearch_44 (by decide) rfl ?_
        have lp6480 : ∀ (n6481 : Nat) (x6260 : Int32) (x6261 : Int32) (I6264 : Nat → Int32) (A6264 : Nat → Nat → Int32), (Md [33, 34] I6259 I6264) → (Md [22, 23, 25] A6259 A6264) → (IvX I6264 A6264) → (0 ≤ x6260.toInt) → (x6260.toInt ≤ 160) → (161 - x6260.toInt < (n6481 : Int)) → (0 < n6481) → GW κ 5 0 0 (wX q d I6264 A6264) 45 [(3, .int x6260), (2, .int x6261), (0, .ref (q 43)), (1, .int z1)] [] := by
          intro n6481
          induction n6481 with
          | zero =>
            intro x6260 x6261 I6264 A6264 hI6264 hA6264 hV6264 h6478 h6479 m6482 m6482z
            exact absurd m6482z (Nat.lt_irrefl 0)
          | succ n6481 ih6483 =>
            intro x6260 x6261 I6264 A6264 hI6264 hA6264 hV6264 h6478 h6479 m6482 m6482z
            refine g_iload_n hk dX1_runSearch_45 rfl ?_
            refine g_aload_n hk dX1_runSearch_46 rfl ?_
            refine gX_r43_1 hk hin1 (List.mem_cons_of_mem _ (List.mem_append_left _ (List.mem_of_getElem? (i := 12) rfl))) dX1_runSearch_47 ?_
            refine gX_i18 (v := (I 18)) hk hin6 (List.mem_cons_of_mem _ (List.mem_append_left _ (List.mem_of_getElem? (i := 13) rfl))) dX1_runSearch_50 ((hI6264 18 rfl).trans ((hI6259 18 rfl).trans (hI5647 18 rfl))) ?_
            have f6484 := IvX_f18 hIv
            refine g_icmp_ge (tgt := 124) (a := x6260.toInt) (b := (I 18).toInt) hk dX1_runSearch_53 (by decide) rfl rfl (fun c6485 => ?_) (fun c6485 => ?_)
            · skip
              exact g_vret hk hR ⟨I6264, A6264, (show Md [28, 30, 31, 32, 33, 34] I I6264 from (Md.tr (Md.tr (Md.tr Md.rf hI5647 rfl) hI6259 rfl) hI6264 rfl)), (show Md [21, 22, 23, 25] A A6264 from (Md.tr (Md.tr (Md.tr Md.rf hA5647 rfl) hA6259 rfl) hA6264 rfl)), hV6264, rfl, rfl⟩ dX1_runSearch_124
            · skip
              refine g_aload_n hk dX1_runSearch_56 rfl ?_
              refine gX_r43_1 hk hin1 (List.mem_cons_of_mem _ (List.mem_append_left _ (List.mem_of_getElem? (i := 12) rfl))) dX1_runSearch_57 ?_
              refine g_iload_n hk dX1_runSearch_60 rfl ?_
              refine g_aload_n hk dX1_runSearch_61 rfl ?_
              refine gX_r43_2 hk hin1 (List.mem_cons_of_mem _ (List.mem_append_left _ (List.mem_of_getElem? (i := 14) rfl))) dX1_runSearch_62 ?_
              refine g_iload_n hk dX1_runSearch_65 rfl ?_
              refine g_callV (n := 1) hk (k182_X4_lengthOf l D zt q d I6264 A6264 z1 hV6264) (SP.same _) (fun _ h => h) (gi_V (List.mem_cons_of_mem _ (List.mem_append_left _ (List.mem_of_getElem? (i := 15) rfl))) (List.mem_cons_of_mem _ (List.mem_append_left _ (List.mem_of_getElem? (i := 16) rfl))) (List.mem_cons_of_mem _ (List.mem_append_left _ (List.mem_of_getElem? (i := 17) rfl))) (List.mem_cons_of_mem _ (List.mem_append_left _ (List.mem_of_getElem? (i := 18) rfl))) (gi_sub (fun w h => (List.mem_cons_of_mem _ (List.mem_append_right _ (List.mem_append_right _ (List.mem_append_right _ (List.mem_append_right _ (List.mem_append_right _ (List.mem_append_right _ (List.mem_append_left _ h))))))))) zg_k182_X4_lengthOf)) rfl rfl rfl (by decide +kernel) ⟨Nat.le_of_ble_eq_true rfl, Nat.le_of_ble_eq_true rfl⟩ 15 rfl rfl rfl rfl (Nat.le_of_ble_eq_true rfl) ⟨Nat.le_of_ble_eq_true rfl, Nat.le_of_ble_eq_true rfl⟩ dX1_runSearch_66 (fun v ty' w' hp hk' => ?_)
              rcases hp with ⟨rfl, rfl⟩ | ⟨y6493, c6487, c6488, c6489, c6490, c6491, c6492, c6494, c6495, rfl, rfl⟩
              · skip
                show GW κ 5 0 0 (wX q d I6264 A6264) 69 [(3, .int x6260), (2, .int x6261), (0, .ref (q 43)), (1, .int z1)] [.int 0, .int x6260, .ref (q 13)]
                refine g_callV (n := 2) hk (k207_X6_hasWindow l D zt q d I6264 A6264 x6260 0 hV6264) (SP.same _) (fun _ h => h) (gi_V (List.mem_cons_of_mem _ (List.mem_append_left _ (List.mem_of_getElem? (i := 19) rfl))) (List.mem_cons_of_mem _ (List.mem_append_left _ (List.mem_of_getElem? (i := 20) rfl))) (List.mem_cons_of_mem _ (List.mem_append_left _ (List.mem_of_getElem? (i := 21) rfl))) (List.mem_cons_of_mem _ (List.mem_append_left _ (List.mem_of_getElem? (i := 22) rfl))) (gi_sub (fun w h => (List.mem_cons_of_mem _ (List.mem_append_right _ (List.mem_append_right _ (List.mem_append_right _ (List.mem_append_right _ (List.mem_append_right _ (List.mem_append_right _ (List.mem_append_right _ (List.mem_append_left _ h)))))))))) zg_k207_X6_hasWindow)) rfl rfl rfl (by decide +kernel) ⟨Nat.le_of_ble_eq_true rfl, Nat.le_of_ble_eq_true rfl⟩ 13 rfl rfl rfl rfl (Nat.le_of_ble_eq_true rfl) ⟨Nat.le_of_ble_eq_true rfl, Nat.le_of_ble_eq_true rfl⟩ dX1_runSearch_69 (fun v ty' w' hp hk' => ?_)
                rcases hp with ⟨rfl, rfl⟩ | ⟨c6497, c6498, c6499, c6500, c6501, c6502, rfl, rfl⟩
                · skip
                  show GW κ 5 0 0 (wX q d I6264 A6264) 72 [(3, .int x6260), (2, .int x6261), (0, .ref (q 43)), (1, .int z1)] [.int 0]
                  refine g_if_eq (tgt := 118) (a := 0) hk dX1_runSearch_72 (by decide) rfl (fun _ => ?_) (fun z9 => absurd (show (0 : Int) = (0 : Int) from by decide) z9)
                  obtain ⟨y6504, ey6504⟩ : ∃ y : Int32, y = x6260 + Int32.ofInt 1 := ⟨_, rfl⟩
                  have hy6504 : y6504.toInt = x6260.toInt + 1 := i32_add ey6504 rfl (by decide) (by omega) (by omega)
                  refine g_iinc (v := y6504) (lv' := [(3, .int y6504), (2, .int x6261), (0, .ref (q 43)), (1, .int z1)]) hk 0 dX1_runSearch_118 rfl ey6504.symm (by decide) rfl ?_
                  refine g_goto (tgt := 45) hk dX1_runSearch_121 (by decide) ?_
                  exact g_lv (List.forall_mem_cons.mpr ⟨List.mem_of_getElem? (i := 0) rfl, (List.forall_mem_cons.mpr ⟨List.mem_of_getElem? (i := 1) rfl, (List.forall_mem_cons.mpr ⟨List.mem_of_getElem? (i := 2) rfl, (List.forall_mem_cons.mpr ⟨List.mem_of_getElem? (i := 3) rfl, (fun _ h => absurd h List.not_mem_nil)⟩)⟩)⟩)⟩) (ih6483 y6504 x6261 I6264 A6264 (show Md [33, 34] I6259 I6264 from Md.tr hI6264 (show Md [33, 34] I6264 I6264 from Md.rf) rfl) (show Md [22, 23, 25] A6259 A6264 from Md.tr hA6264 (show Md [22, 23, 25] A6264 A6264 from Md.rf) rfl) hV6264 (by omega) (by omega) (by omega) (by omega))
                · skip
                  show GW κ 5 0 0 (wX q d I6264 A6264) 72 [(3, .int x6260), (2, .int x6261), (0, .ref (q 43)), (1, .int z1)] [.int 1]
                  refine g_if_eq (tgt := 118) (a := 1) hk dX1_runSearch_72 (by decide) rfl (fun z9 => absurd z9 (show ¬ ((1 : Int) = (0 : Int)) from by decide)) (fun _ => ?_)
                  refine g_aload_n hk dX1_runSearch_75 rfl ?_
                  refine gX_r43_0 hk hin1 (List.mem_cons_of_mem _ (List.mem_append_left _ (List.mem_of_getElem? (i := 2) rfl))) dX1_runSearch_76 ?_
                  refine g_iload_n hk dX1_runSearch_79 rfl ?_
                  refine g_callV (n := 1) hk (k226_X0_laySecondWindow l D zt q d I6264 A6264 x6260 hV6264) (SP.same _) (fun _ h => h) (gi_V (List.mem_cons_of_mem _ (List.mem_append_left _ (List.mem_of_getElem? (i := 23) rfl))) (List.mem_cons_of_mem _ (List.mem_append_left _ (List.mem_of_getElem? (i := 24) rfl))) (List.mem_cons_of_mem _ (List.mem_append_left _ (List.mem_of_getElem? (i := 25) rfl))) (List.mem_cons_of_mem _ (List.mem_append_left _ (List.mem_of_getElem? (i := 11) rfl))) (gi_sub (fun w h => (List.mem_cons_of_mem _ (List.mem_append_right _ (List.mem_append_right _ (List.mem_append_right _ (List.mem_append_right _ (List.mem_append_right _ (List.mem_append_right _ (List.mem_append_right _ (List.mem_append_right _ (List.mem_append_left _ h))))))))))) zg_k226_X0_laySecondWindow)) rfl rfl rfl (by decide +kernel) ⟨Nat.le_of_ble_eq_true rfl, Nat.le_of_ble_eq_true rfl⟩ 37 rfl rfl rfl rfl (Nat.le_of_ble_eq_true rfl) ⟨Nat.le_of_ble_eq_true rfl, Nat.le_of_ble_eq_true rfl⟩ dX1_runSearch_80 (fun v ty' w' hp hk' => ?_)
                  obtain ⟨I6506, A6506, hI6506, hA6506, hV6506, rfl, rfl⟩ := hp
                  show GW κ 5 0 0 (wX q d I6506 A6506) 83 [(3, .int x6260), (2, .int x6261), (0, .ref (q 43)), (1, .int z1)] []
                  refine g_aload_n hk dX1_runSearch_83 rfl ?_
                  refine gX_r43_0 hk hin1 (List.mem_cons_of_mem _ (List.mem_append_left _ (List.mem_of_getElem? (i := 2) rfl))) dX1_runSearch_84 ?_
                  refine gX_r37_3 hk hin0 (List.mem_cons_of_mem _ (List.mem_append_left _ (List.mem_of_getElem? (i := 26) rfl))) dX1_runSearch_87 ?_
                  refine g_iload_n hk dX1_runSearch_90 rfl ?_
                  refine g_callV (n := 1) hk (k247_X2_lookAt l D zt q d I6506 A6506 x6261 hV6506) (SP.same _) (fun _ h => h) (gi_V (List.mem_cons_of_mem _ (List.mem_append_left _ (List.mem_of_getElem? (i := 27) rfl))) (List.mem_cons_of_mem _ (List.mem_append_left _ (List.mem_of_getElem? (i := 28) rfl))) (List.mem_cons_of_mem _ (List.mem_append_left _ (List.mem_of_getElem? (i := 29) rfl))) (List.mem_cons_of_mem _ (List.mem_append_left _ (List.mem_of_getElem? (i := 30) rfl))) (gi_sub (fun w h => (List.mem_cons_of_mem _ (List.mem_append_right _ (List.mem_append_right _ (List.mem_append_right _ (List.mem_append_right _ (List.mem_append_right _ (List.mem_append_right _ (List.mem_append_right _ (List.mem_append_right _ (List.mem_append_right _ (List.mem_append_left _ h)))))))))))) zg_k247_X2_lookAt)) rfl rfl rfl (by decide +kernel) ⟨Nat.le_of_ble_eq_true rfl, Nat.le_of_ble_eq_true rfl⟩ 38 rfl rfl rfl rfl (Nat.le_of_ble_eq_true rfl) ⟨Nat.le_of_ble_eq_true rfl, Nat.le_of_ble_eq_true rfl⟩ dX1_runSearch_91 (fun v ty' w' hp hk' => ?_)
                  obtain ⟨I6510, A6510, hI6510, hA6510, hV6510, y6507, c6508, c6509, rfl, rfl⟩ := hp
                  show GW κ 5 0 0 (wX q d I6510 A6510) 94 [(3, .int x6260), (2, .int x6261), (0, .ref (q 43)), (1, .int z1)] [.int y6507]
                  refine g_istore (lv' := [(4, .int y6507), (3, .int x6260), (2, .int x6261), (0, .ref (q 43)), (1, .int z1)]) hk dX1_runSearch_94 (by decide) rfl ?_
                  refine g_aload_n hk dX1_runSearch_96 rfl ?_
                  refine g_iload hk dX1_runSearch_97 rfl ?_
                  refine g_callV (n := 1) hk (k267_X1_addToTally l D zt q d I6510 A6510 y6507 hV6510) (SP.same _) (fun _ h => h) (gi_V (List.mem_cons_of_mem _ (List.mem_append_left _ (List.mem_of_getElem? (i := 31) rfl))) (List.mem_cons_of_mem _ (List.mem_append_left _ (List.mem_of_getElem? (i := 32) rfl))) (List.mem_cons_of_mem _ (List.mem_append_left _ (List.mem_of_getElem? (i := 33) rfl))) (List.mem_cons_of_mem _ (List.mem_append_left _ (List.mem_of_getElem? (i := 34) rfl))) (gi_sub (fun w h => (List.mem_cons_of_mem _ (List.mem_append_right _ (List.mem_append_right _ (List.mem_append_right _ (List.mem_append_right _ (List.mem_append_right _ (List.mem_append_right _ (List.mem_append_right _ (List.mem_append_right _ (List.mem_append_right _ (List.mem_append_right _ (List.mem_append_left _ h))))))))))))) zg_k267_X1_addToTally)) rfl rfl rfl (by decide +kernel) ⟨Nat.le_of_ble_eq_true rfl, Nat.le_of_ble_eq_true rfl⟩ 43 rfl rfl rfl rfl (Nat.le_of_ble_eq_true rfl) ⟨Nat.le_of_ble_eq_true rfl, Nat.le_of_ble_eq_true rfl⟩ dX1_runSearch_99 (fun v ty' w' hp hk' => ?_)
                  obtain ⟨I6512, A6512, hI6512, hA6512, hV6512, rfl, rfl⟩ := hp
                  show GW κ 5 0 0 (wX q d I6512 A6512) 102 [(4, .int y6507), (3, .int x6260), (2, .int x6261), (0, .ref (q 43)), (1, .int z1)] []
                  refine g_iload hk dX1_runSearch_102 rfl ?_
                  refine g_if_ne (tgt := 118) (a := y6507.toInt) hk dX1_runSearch_104 (by decide) rfl (fun c6513 => ?_) (fun c6513 => ?_)
                  · skip
                    obtain ⟨y6514, ey6514⟩ : ∃ y : Int32, y = x6260 + Int32.ofInt 1 := ⟨_, rfl⟩
                    have hy6514 : y6514.toInt = x6260.toInt + 1 := i32_add ey6514 rfl (by decide) (by omega) (by omega)
                    refine g_iinc (v := y6514) (lv' := [(3, .int y6514), (4, .int y6507), (2, .int x6261), (0, .ref (q 43)), (1, .int z1)]) hk 1 dX1_runSearch_118 rfl ey6514.symm (by decide) rfl ?_
                    refine g_goto (tgt := 45) hk dX1_runSearch_121 (by decide) ?_
                    exact g_lv (List.forall_mem_cons.mpr ⟨List.mem_of_getElem? (i := 0) rfl, (List.forall_mem_cons.mpr ⟨List.mem_of_getElem? (i := 2) rfl, (List.forall_mem_cons.mpr ⟨List.mem_of_getElem? (i := 3) rfl, (List.forall_mem_cons.mpr ⟨List.mem_of_getElem? (i := 4) rfl, (fun _ h => absurd h List.not_mem_nil)⟩)⟩)⟩)⟩) (ih6483 y6514 x6261 I6512 A6512 (show Md [33, 34] I6259 I6512 from Md.tr hI6264 (show Md [33, 34] I6264 I6512 from (Md.tr (Md.tr (Md.tr Md.rf hI6506 rfl) hI6510 rfl) hI6512 rfl)) rfl) (show Md [22, 23, 25] A6259 A6512 from Md.tr hA6264 (show Md [22, 23, 25] A6264 A6512 from (Md.tr (Md.tr (Md.tr Md.rf hA6506 rfl) hA6510 rfl) hA6512 rfl)) rfl) hV6512 (by omega) (by omega) (by omega) (by omega))
                  · skip
                    refine g_aload_n hk dX1_runSearch_107 rfl ?_
                    refine gX_r43_0 hk hin1 (List.mem_cons_of_mem _ (List.mem_append_left _ (List.mem_of_getElem? (i := 2) rfl))) dX1_runSearch_108 ?_
                    refine gX_r37_3 hk hin0 (List.mem_cons_of_mem _ (List.mem_append_left _ (List.mem_of_getElem? (i := 26) rfl))) dX1_runSearch_111 ?_
                    refine g_callV (n := 0) hk (k237_X2_laidDistance l D zt q d I6512 A6512  hV6512) (SP.same _) (fun _ h => h) (gi_V (List.mem_cons_of_mem _ (List.mem_append_left _ (List.mem_of_getElem? (i := 35) rfl))) (List.mem_cons_of_mem _ (List.mem_append_left _ (List.mem_of_getElem? (i := 36) rfl))) (List.mem_cons_of_mem _ (List.mem_append_left _ (List.mem_of_getElem? (i := 37) rfl))) (List.mem_cons_of_mem _ (List.mem_append_left _ (List.mem_of_getElem? (i := 30) rfl))) (gi_sub (fun w h => (List.mem_cons_of_mem _ (List.mem_append_right _ (List.mem_append_right _ (List.mem_append_right _ (List.mem_append_right _ (List.mem_append_right _ (List.mem_append_right _ (List.mem_append_right _ (List.mem_append_right _ (List.mem_append_right _ (List.mem_append_right _ (List.mem_append_right _ (List.mem_append_left _ h)))))))))))))) zg_k237_X2_laidDistance)) rfl rfl rfl (by decide +kernel) ⟨Nat.le_of_ble_eq_true rfl, Nat.le_of_ble_eq_true rfl⟩ 38 rfl rfl rfl rfl (Nat.le_of_ble_eq_true rfl) ⟨Nat.le_of_ble_eq_true rfl, Nat.le_of_ble_eq_true rfl⟩ dX1_runSearch_114 (fun v ty' w' hp hk' => ?_)
                    obtain ⟨y6515, rfl, rfl⟩ := hp
                    show GW κ 5 0 0 (wX q d I6512 A6512) 117 [(4, .int y6507), (3, .int x6260), (2, .int x6261), (0, .ref (q 43)), (1, .int z1)] [.int y6515]
                    refine g_istore_n (lv' := [(2, .int y6515), (4, .int y6507), (3, .int x6260), (0, .ref (q 43)), (1, .int z1)]) hk dX1_runSearch_117 (by decide) rfl ?_
                    obtain ⟨y6516, ey6516⟩ : ∃ y : Int32, y = x6260 + Int32.ofInt 1 := ⟨_, rfl⟩
                    have hy6516 : y6516.toInt = x6260.toInt + 1 := i32_add ey6516 rfl (by decide) (by omega) (by omega)
                    refine g_iinc (v := y6516) (lv' := [(3, .int y6516), (2, .int y6515), (4, .int y6507), (0, .ref (q 43)), (1, .int z1)]) hk 2 dX1_runSearch_118 rfl ey6516.symm (by decide) rfl ?_
                    refine g_goto (tgt := 45) hk dX1_runSearch_121 (by decide) ?_
                    exact g_lv (List.forall_mem_cons.mpr ⟨List.mem_of_getElem? (i := 0) rfl, (List.forall_mem_cons.mpr ⟨List.mem_of_getElem? (i := 1) rfl, (List.forall_mem_cons.mpr ⟨List.mem_of_getElem? (i := 3) rfl, (List.forall_mem_cons.mpr ⟨List.mem_of_getElem? (i := 4) rfl, (fun _ h => absurd h List.not_mem_nil)⟩)⟩)⟩)⟩) (ih6483 y6516 y6515 I6512 A6512 (show Md [33, 34] I6259 I6512 from Md.tr hI6264 (show Md [33, 34] I6264 I6512 from (Md.tr (Md.tr (Md.tr Md.rf hI6506 rfl) hI6510 rfl) hI6512 rfl)) rfl) (show Md [22, 23, 25] A6259 A6512 from Md.tr hA6264 (show Md [22, 23, 25] A6264 A6512 from (Md.tr (Md.tr (Md.tr Md.rf hA6506 rfl) hA6510 rfl) hA6512 rfl)) rfl) hV6512 (by omega) (by omega) (by omega) (by omega))
              · skip
                show GW κ 5 0 0 (wX q d I6264 A6264) 69 [(3, .int x6260), (2, .int x6261), (0, .ref (q 43)), (1, .int z1)] [.int y6493, .int x6260, .ref (q 13)]
                refine g_callV (n := 2) hk (k207_X6_hasWindow l D zt q d I6264 A6264 x6260 y6493 hV6264) (SP.same _) (fun _ h => h) (gi_V (List.mem_cons_of_mem _ (List.mem_append_left _ (List.mem_of_getElem? (i := 19) rfl))) (List.mem_cons_of_mem _ (List.mem_append_left _ (List.mem_of_getElem? (i := 20) rfl))) (List.mem_cons_of_mem _ (List.mem_append_left _ (List.mem_of_getElem? (i := 21) rfl))) (List.mem_cons_of_mem _ (List.mem_append_left _ (List.mem_of_getElem? (i := 22) rfl))) (gi_sub (fun w h => (List.mem_cons_of_mem _ (List.mem_append_right _ (List.mem_append_right _ (List.mem_append_right _ (List.mem_append_right _ (List.mem_append_right _ (List.mem_append_right _ (List.mem_append_right _ (List.mem_append_left _ h)))))))))) zg_k207_X6_hasWindow)) rfl rfl rfl (by decide +kernel) ⟨Nat.le_of_ble_eq_true rfl, Nat.le_of_ble_eq_true rfl⟩ 13 rfl rfl rfl rfl (Nat.le_of_ble_eq_true rfl) ⟨Nat.le_of_ble_eq_true rfl, Nat.le_of_ble_eq_true rfl⟩ dX1_runSearch_69 (fun v ty' w' hp hk' => ?_)
                rcases hp with ⟨rfl, rfl⟩ | ⟨c6518, c6519, c6520, c6521, c6522, c6523, rfl, rfl⟩
                · skip
                  show GW κ 5 0 0 (wX q d I6264 A6264) 72 [(3, .int x6260), (2, .int x6261), (0, .ref (q 43)), (1, .int z1)] [.int 0]
                  refine g_if_eq (tgt := 118) (a := 0) hk dX1_runSearch_72 (by decide) rfl (fun _ => ?_) (fun z9 => absurd (show (0 : Int) = (0 : Int) from by decide) z9)
                  obtain ⟨y6525, ey6525⟩ : ∃ y : Int32, y = x6260 + Int32.ofInt 1 := ⟨_, rfl⟩
                  have hy6525 : y6525.toInt = x6260.toInt + 1 := i32_add ey6525 rfl (by decide) (by omega) (by omega)
                  refine g_iinc (v := y6525) (lv' := [(3, .int y6525), (2, .int x6261), (0, .ref (q 43)), (1, .int z1)]) hk 0 dX1_runSearch_118 rfl ey6525.symm (by decide) rfl ?_
                  refine g_goto (tgt := 45) hk dX1_runSearch_121 (by decide) ?_
                  exact g_lv (List.forall_mem_cons.mpr ⟨List.mem_of_getElem? (i := 0) rfl, (List.forall_mem_cons.mpr ⟨List.mem_of_getElem? (i := 1) rfl, (List.forall_mem_cons.mpr ⟨List.mem_of_getElem? (i := 2) rfl, (List.forall_mem_cons.mpr ⟨List.mem_of_getElem? (i := 3) rfl, (fun _ h => absurd h List.not_mem_nil)⟩)⟩)⟩)⟩) (ih6483 y6525 x6261 I6264 A6264 (show Md [33, 34] I6259 I6264 from Md.tr hI6264 (show Md [33, 34] I6264 I6264 from Md.rf) rfl) (show Md [22, 23, 25] A6259 A6264 from Md.tr hA6264 (show Md [22, 23, 25] A6264 A6264 from Md.rf) rfl) hV6264 (by omega) (by omega) (by omega) (by omega))
                · skip
                  show GW κ 5 0 0 (wX q d I6264 A6264) 72 [(3, .int x6260), (2, .int x6261), (0, .ref (q 43)), (1, .int z1)] [.int 1]
                  refine g_if_eq (tgt := 118) (a := 1) hk dX1_runSearch_72 (by decide) rfl (fun z9 => absurd z9 (show ¬ ((1 : Int) = (0 : Int)) from by decide)) (fun _ => ?_)
                  refine g_aload_n hk dX1_runSearch_75 rfl ?_
                  refine gX_r43_0 hk hin1 (List.mem_cons_of_mem _ (List.mem_append_left _ (List.mem_of_getElem? (i := 2) rfl))) dX1_runSearch_76 ?_
                  refine g_iload_n hk dX1_runSearch_79 rfl ?_
                  refine g_callV (n := 1) hk (k226_X0_laySecondWindow l D zt q d I6264 A6264 x6260 hV6264) (SP.same _) (fun _ h => h) (gi_V (List.mem_cons_of_mem _ (List.mem_append_left _ (List.mem_of_getElem? (i := 23) rfl))) (List.mem_cons_of_mem _ (List.mem_append_left _ (List.mem_of_getElem? (i := 24) rfl))) (List.mem_cons_of_mem _ (List.mem_append_left _ (List.mem_of_getElem? (i := 25) rfl))) (List.mem_cons_of_mem _ (List.mem_append_left _ (List.mem_of_getElem? (i := 11) rfl))) (gi_sub (fun w h => (List.mem_cons_of_mem _ (List.mem_append_right _ (List.mem_append_right _ (List.mem_append_right _ (List.mem_append_right _ (List.mem_append_right _ (List.mem_append_right _ (List.mem_append_right _ (List.mem_append_right _ (List.mem_append_left _ h))))))))))) zg_k226_X0_laySecondWindow)) rfl rfl rfl (by decide +kernel) ⟨Nat.le_of_ble_eq_true rfl, Nat.le_of_ble_eq_true rfl⟩ 37 rfl rfl rfl rfl (Nat.le_of_ble_eq_true rfl) ⟨Nat.le_of_ble_eq_true rfl, Nat.le_of_ble_eq_true rfl⟩ dX1_runSearch_80 (fun v ty' w' hp hk' => ?_)
                  obtain ⟨I6527, A6527, hI6527, hA6527, hV6527, rfl, rfl⟩ := hp
                  show GW κ 5 0 0 (wX q d I6527 A6527) 83 [(3, .int x6260), (2, .int x6261), (0, .ref (q 43)), (1, .int z1)] []
                  refine g_aload_n hk dX1_runSearch_83 rfl ?_
                  refine gX_r43_0 hk hin1 (List.mem_cons_of_mem _ (List.mem_append_left _ (List.mem_of_getElem? (i := 2) rfl))) dX1_runSearch_84 ?_
                  refine gX_r37_3 hk hin0 (List.mem_cons_of_mem _ (List.mem_append_left _ (List.mem_of_getElem? (i := 26) rfl))) dX1_runSearch_87 ?_
                  refine g_iload_n hk dX1_runSearch_90 rfl ?_
                  refine g_callV (n := 1) hk (k247_X2_lookAt l D zt q d I6527 A6527 x6261 hV6527) (SP.same _) (fun _ h => h) (gi_V (List.mem_cons_of_mem _ (List.mem_append_left _ (List.mem_of_getElem? (i := 27) rfl))) (List.mem_cons_of_mem _ (List.mem_append_left _ (List.mem_of_getElem? (i := 28) rfl))) (List.mem_cons_of_mem _ (List.mem_append_left _ (List.mem_of_getElem? (i := 29) rfl))) (List.mem_cons_of_mem _ (List.mem_append_left _ (List.mem_of_getElem? (i := 30) rfl))) (gi_sub (fun w h => (List.mem_cons_of_mem _ (List.mem_append_right _ (List.mem_append_right _ (List.mem_append_right _ (List.mem_append_right _ (List.mem_append_right _ (List.mem_append_right _ (List.mem_append_right _ (List.mem_append_right _ (List.mem_append_right _ (List.mem_append_left _ h)))))))))))) zg_k247_X2_lookAt)) rfl rfl rfl (by decide +kernel) ⟨Nat.le_of_ble_eq_true rfl, Nat.le_of_ble_eq_true rfl⟩ 38 rfl rfl rfl rfl (Nat.le_of_ble_eq_true rfl) ⟨Nat.le_of_ble_eq_true rfl, Nat.le_of_ble_eq_true rfl⟩ dX1_runSearch_91 (fun v ty' w' hp hk' => ?_)
                  obtain ⟨I6531, A6531, hI6531, hA6531, hV6531, y6528, c6529, c6530, rfl, rfl⟩ := hp
                  show GW κ 5 0 0 (wX q d I6531 A6531) 94 [(3, .int x6260), (2, .int x6261), (0, .ref (q 43)), (1, .int z1)] [.int y6528]
                  refine g_istore (lv' := [(4, .int y6528), (3, .int x6260), (2, .int x6261), (0, .ref (q 43)), (1, .int z1)]) hk dX1_runSearch_94 (by decide) rfl ?_
                  refine g_aload_n hk dX1_runSearch_96 rfl ?_
                  refine g_iload hk dX1_runSearch_97 rfl ?_
                  refine g_callV (n := 1) hk (k267_X1_addToTally l D zt q d I6531 A6531 y6528 hV6531) (SP.same _) (fun _ h => h) (gi_V (List.mem_cons_of_mem _ (List.mem_append_left _ (List.mem_of_getElem? (i := 31) rfl))) (List.mem_cons_of_mem _ (List.mem_append_left _ (List.mem_of_getElem? (i := 32) rfl))) (List.mem_cons_of_mem _ (List.mem_append_left _ (List.mem_of_getElem? (i := 33) rfl))) (List.mem_cons_of_mem _ (List.mem_append_left _ (List.mem_of_getElem? (i := 34) rfl))) (gi_sub (fun w h => (List.mem_cons_of_mem _ (List.mem_append_right _ (List.mem_append_right _ (List.mem_append_right _ (List.mem_append_right _ (List.mem_append_right _ (List.mem_append_right _ (List.mem_append_right _ (List.mem_append_right _ (List.mem_append_right _ (List.mem_append_right _ (List.mem_append_left _ h))))))))))))) zg_k267_X1_addToTally)) rfl rfl rfl (by decide +kernel) ⟨Nat.le_of_ble_eq_true rfl, Nat.le_of_ble_eq_true rfl⟩ 43 rfl rfl rfl rfl (Nat.le_of_ble_eq_true rfl) ⟨Nat.le_of_ble_eq_true rfl, Nat.le_of_ble_eq_true rfl⟩ dX1_runSearch_99 (fun v ty' w' hp hk' => ?_)
                  obtain ⟨I6533, A6533, hI6533, hA6533, hV6533, rfl, rfl⟩ := hp
                  show GW κ 5 0 0 (wX q d I6533 A6533) 102 [(4, .int y6528), (3, .int x6260), (2, .int x6261), (0, .ref (q 43)), (1, .int z1)] []
                  refine g_iload hk dX1_runSearch_102 rfl ?_
                  refine g_if_ne (tgt := 118) (a := y6528.toInt) hk dX1_runSearch_104 (by decide) rfl (fun c6534 => ?_) (fun c6534 => ?_)
                  · skip
                    obtain ⟨y6535, ey6535⟩ : ∃ y : Int32, y = x6260 + Int32.ofInt 1 := ⟨_, rfl⟩
                    have hy6535 : y6535.toInt = x6260.toInt + 1 := i32_add ey6535 rfl (by decide) (by omega) (by omega)
                    refine g_iinc (v := y6535) (lv' := [(3, .int y6535), (4, .int y6528), (2, .int x6261), (0, .ref (q 43)), (1, .int z1)]) hk 1 dX1_runSearch_118 rfl ey6535.symm (by decide) rfl ?_
                    refine g_goto (tgt := 45) hk dX1_runSearch_121 (by decide) ?_
                    exact g_lv (List.forall_mem_cons.mpr ⟨List.mem_of_getElem? (i := 0) rfl, (List.forall_mem_cons.mpr ⟨List.mem_of_getElem? (i := 2) rfl, (List.forall_mem_cons.mpr ⟨List.mem_of_getElem? (i := 3) rfl, (List.forall_mem_cons.mpr ⟨List.mem_of_getElem? (i := 4) rfl, (fun _ h => absurd h List.not_mem_nil)⟩)⟩)⟩)⟩) (ih6483 y6535 x6261 I6533 A6533 (show Md [33, 34] I6259 I6533 from Md.tr hI6264 (show Md [33, 34] I6264 I6533 from (Md.tr (Md.tr (Md.tr Md.rf hI6527 rfl) hI6531 rfl) hI6533 rfl)) rfl) (show Md [22, 23, 25] A6259 A6533 from Md.tr hA6264 (show Md [22, 23, 25] A6264 A6533 from (Md.tr (Md.tr (Md.tr Md.rf hA6527 rfl) hA6531 rfl) hA6533 rfl)) rfl) hV6533 (by omega) (by omega) (by omega) (by omega))
                  · skip
                    refine g_aload_n hk dX1_runSearch_107 rfl ?_
                    refine gX_r43_0 hk hin1 (List.mem_cons_of_mem _ (List.mem_append_left _ (List.mem_of_getElem? (i := 2) rfl))) dX1_runSearch_108 ?_
                    refine gX_r37_3 hk hin0 (List.mem_cons_of_mem _ (List.mem_append_left _ (List.mem_of_getElem? (i := 26) rfl))) dX1_runSearch_111 ?_
                    refine g_callV (n := 0) hk (k237_X2_laidDistance l D zt q d I6533 A6533  hV6533) (SP.same _) (fun _ h => h) (gi_V (List.mem_cons_of_mem _ (List.mem_append_left _ (List.mem_of_getElem? (i := 35) rfl))) (List.mem_cons_of_mem _ (List.mem_append_left _ (List.mem_of_getElem? (i := 36) rfl))) (List.mem_cons_of_mem _ (List.mem_append_left _ (List.mem_of_getElem? (i := 37) rfl))) (List.mem_cons_of_mem _ (List.mem_append_left _ (List.mem_of_getElem? (i := 30) rfl))) (gi_sub (fun w h => (List.mem_cons_of_mem _ (List.mem_append_right _ (List.mem_append_right _ (List.mem_append_right _ (List.mem_append_right _ (List.mem_append_right _ (List.mem_append_right _ (List.mem_append_right _ (List.mem_append_right _ (List.mem_append_right _ (List.mem_append_right _ (List.mem_append_right _ (List.mem_append_left _ h)))))))))))))) zg_k237_X2_laidDistance)) rfl rfl rfl (by decide +kernel) ⟨Nat.le_of_ble_eq_true rfl, Nat.le_of_ble_eq_true rfl⟩ 38 rfl rfl rfl rfl (Nat.le_of_ble_eq_true rfl) ⟨Nat.le_of_ble_eq_true rfl, Nat.le_of_ble_eq_true rfl⟩ dX1_runSearch_114 (fun v ty' w' hp hk' => ?_)
                    obtain ⟨y6536, rfl, rfl⟩ := hp
                    show GW κ 5 0 0 (wX q d I6533 A6533) 117 [(4, .int y6528), (3, .int x6260), (2, .int x6261), (0, .ref (q 43)), (1, .int z1)] [.int y6536]
                    refine g_istore_n (lv' := [(2, .int y6536), (4, .int y6528), (3, .int x6260), (0, .ref (q 43)), (1, .int z1)]) hk dX1_runSearch_117 (by decide) rfl ?_
                    obtain ⟨y6537, ey6537⟩ : ∃ y : Int32, y = x6260 + Int32.ofInt 1 := ⟨_, rfl⟩
                    have hy6537 : y6537.toInt = x6260.toInt + 1 := i32_add ey6537 rfl (by decide) (by omega) (by omega)
                    refine g_iinc (v := y6537) (lv' := [(3, .int y6537), (2, .int y6536), (4, .int y6528), (0, .ref (q 43)), (1, .int z1)]) hk 2 dX1_runSearch_118 rfl ey6537.symm (by decide) rfl ?_
                    refine g_goto (tgt := 45) hk dX1_runSearch_121 (by decide) ?_
                    exact g_lv (List.forall_mem_cons.mpr ⟨List.mem_of_getElem? (i := 0) rfl, (List.forall_mem_cons.mpr ⟨List.mem_of_getElem? (i := 1) rfl, (List.forall_mem_cons.mpr ⟨List.mem_of_getElem? (i := 3) rfl, (List.forall_mem_cons.mpr ⟨List.mem_of_getElem? (i := 4) rfl, (fun _ h => absurd h List.not_mem_nil)⟩)⟩)⟩)⟩) (ih6483 y6537 y6536 I6533 A6533 (show Md [33, 34] I6259 I6533 from Md.tr hI6264 (show Md [33, 34] I6264 I6533 from (Md.tr (Md.tr (Md.tr Md.rf hI6527 rfl) hI6531 rfl) hI6533 rfl)) rfl) (show Md [22, 23, 25] A6259 A6533 from Md.tr hA6264 (show Md [22, 23, 25] A6264 A6533 from (Md.tr (Md.tr (Md.tr Md.rf hA6527 rfl) hA6531 rfl) hA6533 rfl)) rfl) hV6533 (by omega) (by omega) (by omega) (by omega))
        have k6539 : (2147483647 : Int32).toInt = 2147483647 := rfl
        obtain ⟨n6538, n6538a, n6538b⟩ : ∃ n : Nat, 161 - 0 < (n : Int) ∧ 0 < n := ⟨((161 - 0 : Int)).toNat + 1, by omega, by omega⟩
        exact lp6480 n6538 0 2147483647 I6259 A6259 Md.rf Md.rf hV6259 (by omega) (by omega) n6538a n6538b
      · skip
        refine g_aload_n hk dX1_runSearch_8 rfl ?_
        refine gX_r43_3 hk hin1 (List.mem_cons_of_mem _ (List.mem_append_left _ (List.mem_of_getElem? (i := 0) rfl))) dX1_runSearch_9 ?_
        refine g_iload_n hk dX1_runSearch_12 rfl ?_
        refine g_iconst (v := 0) hk dX1_runSearch_13 (by decide) ?_
        have k6540 : (0 : Int32).toInt = 0 := rfl
        refine sX_25 (j := x5644.toNatClampNeg) hk (vp_in_iff.mpr ⟨by omega, by omega⟩) rfl dX1_runSearch_14 ?_
        obtain ⟨y6541, ey6541⟩ : ∃ y : Int32, y = x5644 + Int32.ofInt 1 := ⟨_, rfl⟩
        have hy6541 : y6541.toInt = x5644.toInt + 1 := i32_add ey6541 rfl (by decide) (by omega) (by omega)
        refine g_iinc (v := y6541) (lv' := [(2, .int y6541), (0, .ref (q 43)), (1, .int z1)]) hk 0 dX1_runSearch_15 rfl ey6541.symm (by decide) rfl ?_
        refine g_goto (tgt := 2) hk dX1_runSearch_18 (by decide) ?_
        exact g_lv (List.forall_mem_cons.mpr ⟨List.mem_of_getElem? (i := 0) rfl, (List.forall_mem_cons.mpr ⟨List.mem_of_getElem? (i := 1) rfl, (List.forall_mem_cons.mpr ⟨List.mem_of_getElem? (i := 2) rfl, (fun _ h => absurd h List.not_mem_nil)⟩)⟩)⟩) (ih6254 y6541 I5647 (up3 A5647 25 (x5644.toNatClampNeg) 0) (show Md [] I I5647 from Md.tr hI5647 (show Md [] I5647 I5647 from Md.rf) rfl) (show Md [25] A (up3 A5647 25 (x5644.toNatClampNeg) 0) from Md.tr hA5647 (show Md [25] A5647 (up3 A5647 25 (x5644.toNatClampNeg) 0) from (Md.up3 Md.rf rfl)) rfl) ⟨(IvX_f0 (I := I5647) (A := A5647) hV5647), (IvX_f18 (I := I5647) (A := A5647) hV5647), (IvX_f30 (I := I5647) (A := A5647) hV5647), (IvX_f31 (I := I5647) (A := A5647) hV5647), (IvX_a4 (I := I5647) (A := A5647) hV5647), (IvX_a9 (I := I5647) (A := A5647) hV5647), trivial⟩ (by omega) (by omega) (by omega) (by omega))
  have k6543 : (0 : Int32).toInt = 0 := rfl
  obtain ⟨n6542, n6542a, n6542b⟩ : ∃ n : Nat, 10 - 0 < (n : Int) ∧ 0 < n := ⟨((10 - 0 : Int)).toNat + 1, by omega, by omega⟩
  exact lp6251 n6542 0 I A Md.rf Md.rf hIv (by omega) (by omega) n6542a n6542b
def wo_k265_X11_search : List Cond := [Cond.fieldLink RX11 35 "WarpDesk" "queries" "LWarpDesk$Queries;", Cond.methodLink RX11 251 yX4_has, Cond.instanceMethod yX4_has, Cond.selects RX4 yX4_has yX4_has, Cond.initialized RX4, Cond.fieldLink RX11 74 "WarpDesk" "finder" "LWarpDesk$Finder;", Cond.methodLink RX11 278 yX1_runSearch, Cond.instanceMethod yX1_runSearch, Cond.selects RX1 yX1_runSearch yX1_runSearch, Cond.initialized RX1, Cond.fieldLink RX11 281 "WarpDesk$Finder" "tally" "[I"]
def wz_k265_X11_search : List Cond := .code yX11_search cX11_search 3 (some .int) :: (wo_k265_X11_search ++ (wsX10 ++ (wsX110 ++ (wz_k168_X4_has ++ (wz_k266_X1_runSearch ++ ([] : List Cond))))))
theorem zg_k265_X11_search : ∀ w ∈ wz_k265_X11_search, goodWord w = true := zg_cons rfl (zg_app (by decide +kernel) (zg_app zgU_wsX10 (zg_app zgU_wsX110 (zg_app zg_k168_X4_has (zg_app zg_k266_X1_runSearch zg_nil)))))
theorem zi_k265_X11_search : ∀ w ∈ wz_k265_X11_search, w ∈ lw_tbl := zi_cons zw_1132 (zi_app (zi_cons zw_490 (zi_cons zw_1086 (zi_cons zw_747 (zi_cons zw_748 (zi_cons zw_108 (zi_cons zw_495 (zi_cons zw_1133 (zi_cons zw_1134 (zi_cons zw_1135 (zi_cons zw_113 (zi_cons zw_406 zi_nil))))))))))) (zi_app inX1 (zi_app inX11 (zi_app zi_k168_X4_has (zi_app zi_k266_X1_runSearch zi_nil)))))
set_option maxHeartbeats 4000000 in
set_option maxRecDepth 100000 in
theorem k265_X11_search (l : Launch) (D : va_G) (zt : Nat × Nat × Nat × (Nat → Nat) × (Nat → Nat)) (q : Nat → Nat) (d : Nat → ClassId) (I : Nat → Int32) (A : Nat → Nat → Int32) (z1 : Int32) (z2 : Int32) (hIv : IvX I A) : GM l D zt (tyX d) yX11_search wz_k265_X11_search ({ frames := 6, cells := 0, slots := 0, locals := 133 } : Room) [.ref (q 0), .int z1, .int z2] (wX q d I A) (fun v _ w' => ∃ (I' : Nat → Int32) (A' : Nat → Nat → Int32), Md [28, 30, 31, 32, 33, 34] I I' ∧ Md [21, 22, 23, 25] A A' ∧ IvX I' A' ∧ ∃ y0 : Int32, v = some (.int y0) ∧ w' = wX q d I' A') 0 0 := by
  refine GM.of (cc := cX11_search) (maxL := 3) (ret := (some .int)) (own := RX11) (lv := [(0, .ref (q 0)), (1, .int z1), (2, .int z2)]) (by decide) rfl rfl (Nat.le_of_ble_eq_true rfl) rfl (fun κ sz hk hR hN => ?_)
  have hin1 : ∀ w ∈ u_ws RX1 TX1 11, w ∈ wz_k265_X11_search := fun w h => (List.mem_cons_of_mem _ (List.mem_append_right _ (List.mem_append_left _ h)))
  have hin11 : ∀ w ∈ u_ws RX11 TX11 10, w ∈ wz_k265_X11_search := fun w h => (List.mem_cons_of_mem _ (List.mem_append_right _ (List.mem_append_right _ (List.mem_append_left _ h))))
  refine g_iload_n hk dX11_search_0 rfl ?_
  have b5635l := Int32.le_toInt z2
  have b5635h := Int32.toInt_lt z2
  refine g_if_lt (tgt := 21) (a := z2.toInt) hk dX11_search_1 (by decide) rfl (fun c5636 => ?_) (fun c5636 => ?_)
  · skip
    refine g_iconst (v := (-1)) hk dX11_search_21 (by decide) ?_
    exact g_iret hk hR rfl ⟨I, A, (show Md [28, 30, 31, 32, 33, 34] I I from Md.rf), (show Md [21, 22, 23, 25] A A from Md.rf), hIv, (-1), rfl, rfl⟩ dX11_search_22
  · skip
    refine g_iload_n hk dX11_search_4 rfl ?_
    refine g_bipush (v := 9) hk dX11_search_5 (by decide) ?_
    refine g_icmp_ge (tgt := 21) (a := z2.toInt) (b := 9) hk dX11_search_7 (by decide) rfl rfl (fun c5637 => ?_) (fun c5637 => ?_)
    · skip
      refine g_iconst (v := (-1)) hk dX11_search_21 (by decide) ?_
      exact g_iret hk hR rfl ⟨I, A, (show Md [28, 30, 31, 32, 33, 34] I I from Md.rf), (show Md [21, 22, 23, 25] A A from Md.rf), hIv, (-1), rfl, rfl⟩ dX11_search_22
    · skip
      refine g_aload_n hk dX11_search_10 rfl ?_
      refine gX_r0_3 hk hin11 (List.mem_cons_of_mem _ (List.mem_append_left _ (List.mem_of_getElem? (i := 0) rfl))) dX11_search_11 ?_
      refine g_iload_n hk dX11_search_14 rfl ?_
      refine g_callV (n := 1) hk (k168_X4_has l D zt q d I A z1 hIv) (SP.same _) (fun _ h => h) (gi_V (List.mem_cons_of_mem _ (List.mem_append_left _ (List.mem_of_getElem? (i := 1) rfl))) (List.mem_cons_of_mem _ (List.mem_append_left _ (List.mem_of_getElem? (i := 2) rfl))) (List.mem_cons_of_mem _ (List.mem_append_left _ (List.mem_of_getElem? (i := 3) rfl))) (List.mem_cons_of_mem _ (List.mem_append_left _ (List.mem_of_getElem? (i := 4) rfl))) (gi_sub (fun w h => (List.mem_cons_of_mem _ (List.mem_append_right _ (List.mem_append_right _ (List.mem_append_right _ (List.mem_append_left _ h)))))) zg_k168_X4_has)) rfl rfl rfl (by decide +kernel) ⟨Nat.le_of_ble_eq_true rfl, Nat.le_of_ble_eq_true rfl⟩ 15 rfl rfl rfl rfl (Nat.le_of_ble_eq_true rfl) ⟨Nat.le_of_ble_eq_true rfl, Nat.le_of_ble_eq_true rfl⟩ dX11_search_15 (fun v ty' w' hp hk' => ?_)
      rcases hp with ⟨rfl, rfl⟩ | ⟨c5639, c5640, c5641, c5642, rfl, rfl⟩
      · skip
        show GW κ 3 0 0 (wX q d I A) 18 [(0, .ref (q 0)), (1, .int z1), (2, .int z2)] [.int 0]
        refine g_if_ne (tgt := 23) (a := 0) hk dX11_search_18 (by decide) rfl (fun z9 => absurd z9 (show ¬ ((0 : Int) ≠ (0 : Int)) from by decide)) (fun _ => ?_)
        refine g_iconst (v := (-1)) hk dX11_search_21 (by decide) ?_
        exact g_iret hk hR rfl ⟨I, A, (show Md [28, 30, 31, 32, 33, 34] I I from Md.rf), (show Md [21, 22, 23, 25] A A from Md.rf), hIv, (-1), rfl, rfl⟩ dX11_search_22
      · skip
        show GW κ 3 0 0 (wX q d I A) 18 [(0, .ref (q 0)), (1, .int z1), (2, .int z2)] [.int 1]
        refine g_if_ne (tgt := 23) (a := 1) hk dX11_search_18 (by decide) rfl (fun _ => ?_) (fun z9 => absurd (show (1 : Int) ≠ (0 : Int) from by decide) z9)
        refine g_aload_n hk dX11_search_23 rfl ?_
        refine gX_r0_8 hk hin11 (List.mem_cons_of_mem _ (List.mem_append_left _ (List.mem_of_getElem? (i := 5) rfl))) dX11_search_24 ?_
        refine g_iload_n hk dX11_search_27 rfl ?_
        refine g_callV (n := 1) hk (k266_X1_runSearch l D zt q d I A z1 hIv) (SP.same _) (fun _ h => h) (gi_V (List.mem_cons_of_mem _ (List.mem_append_left _ (List.mem_of_getElem? (i := 6) rfl))) (List.mem_cons_of_mem _ (List.mem_append_left _ (List.mem_of_getElem? (i := 7) rfl))) (List.mem_cons_of_mem _ (List.mem_append_left _ (List.mem_of_getElem? (i := 8) rfl))) (List.mem_cons_of_mem _ (List.mem_append_left _ (List.mem_of_getElem? (i := 9) rfl))) (gi_sub (fun w h => (List.mem_cons_of_mem _ (List.mem_append_right _ (List.mem_append_right _ (List.mem_append_right _ (List.mem_append_right _ (List.mem_append_left _ h))))))) zg_k266_X1_runSearch)) rfl rfl rfl (by decide +kernel) ⟨Nat.le_of_ble_eq_true rfl, Nat.le_of_ble_eq_true rfl⟩ 43 rfl rfl rfl rfl (Nat.le_of_ble_eq_true rfl) ⟨Nat.le_of_ble_eq_true rfl, Nat.le_of_ble_eq_true rfl⟩ dX11_search_28 (fun v ty' w' hp hk' => ?_)
        obtain ⟨I6545, A6545, hI6545, hA6545, hV6545, rfl, rfl⟩ := hp
        show GW κ 3 0 0 (wX q d I6545 A6545) 31 [(0, .ref (q 0)), (1, .int z1), (2, .int z2)] []
        refine g_aload_n hk dX11_search_31 rfl ?_
        refine gX_r0_8 hk hin11 (List.mem_cons_of_mem _ (List.mem_append_left _ (List.mem_of_getElem? (i := 5) rfl))) dX11_search_32 ?_
        refine gX_r43_3 hk hin1 (List.mem_cons_of_mem _ (List.mem_append_left _ (List.mem_of_getElem? (i := 10) rfl))) dX11_search_35 ?_
        refine g_iload_n hk dX11_search_38 rfl ?_
        refine lX_25 (v := (A6545 25 z2.toNatClampNeg)) hk (vp_in_iff.mpr ⟨by omega, by omega⟩) rfl dX11_search_39 ?_
        have b6546l := Int32.le_toInt (A6545 25 z2.toNatClampNeg)
        have b6546h := Int32.toInt_lt (A6545 25 z2.toNatClampNeg)
        exact g_iret hk hR rfl ⟨I6545, A6545, (show Md [28, 30, 31, 32, 33, 34] I I6545 from (Md.tr Md.rf hI6545 rfl)), (show Md [21, 22, 23, 25] A A6545 from (Md.tr Md.rf hA6545 rfl)), hV6545, (A6545 25 z2.toNatClampNeg), rfl, rfl⟩ dX11_search_40
def wo_k270_X1_scan : List Cond := [Cond.fieldLink RX1 28 "WarpDesk$Finder" "bench" "LWarpDesk$Bench;", Cond.fieldLink RX1 45 "WarpDesk$Bench" "settings" "LWarpDesk$Settings;", Cond.methodLink RX1 49 yX7_valueOf, Cond.instanceMethod yX7_valueOf, Cond.selects RX7 yX7_valueOf yX7_valueOf, Cond.initialized RX7, Cond.methodLink RX1 55 yX0_openQuery, Cond.instanceMethod yX0_openQuery, Cond.selects RX0 yX0_openQuery yX0_openQuery, Cond.initialized RX0, Cond.fieldLink RX1 15 "WarpDesk$Finder" "distances" "[I", Cond.fieldLink RX1 38 "WarpDesk$Finder" "series" "LWarpDesk$Series;", Cond.fieldLink RX1 43 "WarpDesk$Finder" "queries" "LWarpDesk$Queries;", Cond.methodLink RX1 65 yX4_lengthOf, Cond.instanceMethod yX4_lengthOf, Cond.selects RX4 yX4_lengthOf yX4_lengthOf, Cond.initialized RX4, Cond.methodLink RX1 70 yX6_hasWindow, Cond.instanceMethod yX6_hasWindow, Cond.selects RX6 yX6_hasWindow yX6_hasWindow, Cond.initialized RX6, Cond.methodLink RX1 74 yX0_laySecondWindow, Cond.instanceMethod yX0_laySecondWindow, Cond.selects RX0 yX0_laySecondWindow yX0_laySecondWindow, Cond.fieldLink RX1 78 "WarpDesk$Bench" "fit" "LWarpDesk$Fit;", Cond.methodLink RX1 113 yX2_wholeDistance, Cond.instanceMethod yX2_wholeDistance, Cond.selects RX2 yX2_wholeDistance yX2_wholeDistance, Cond.initialized RX2]
def wz_k270_X1_scan : List Cond := .code yX1_scan cX1_scan 3 none :: (wo_k270_X1_scan ++ (wsX00 ++ (wsX10 ++ (wz_k194_X7_valueOf ++ (wz_k224_X0_openQuery ++ (wz_k182_X4_lengthOf ++ (wz_k207_X6_hasWindow ++ (wz_k226_X0_laySecondWindow ++ (wz_k232_X2_wholeDistance ++ ([] : List Cond))))))))))
theorem zg_k270_X1_scan : ∀ w ∈ wz_k270_X1_scan, goodWord w = true := zg_cons rfl (zg_app (by decide +kernel) (zg_app zgU_wsX00 (zg_app zgU_wsX10 (zg_app zg_k194_X7_valueOf (zg_app zg_k224_X0_openQuery (zg_app zg_k182_X4_lengthOf (zg_app zg_k207_X6_hasWindow (zg_app zg_k226_X0_laySecondWindow (zg_app zg_k232_X2_wholeDistance zg_nil)))))))))
theorem zi_k270_X1_scan : ∀ w ∈ wz_k270_X1_scan, w ∈ lw_tbl := zi_cons zw_1154 (zi_app (zi_cons zw_402 (zi_cons zw_379 (zi_cons zw_1137 (zi_cons zw_786 (zi_cons zw_787 (zi_cons zw_107 (zi_cons zw_1121 (zi_cons zw_981 (zi_cons zw_982 (zi_cons zw_111 (zi_cons zw_411 (zi_cons zw_403 (zi_cons zw_404 (zi_cons zw_1102 (zi_cons zw_757 (zi_cons zw_758 (zi_cons zw_108 (zi_cons zw_1122 (zi_cons zw_902 (zi_cons zw_903 (zi_cons zw_109 (zi_cons zw_1123 (zi_cons zw_989 (zi_cons zw_990 (zi_cons zw_382 (zi_cons zw_1104 (zi_cons zw_993 (zi_cons zw_994 (zi_cons zw_112 zi_nil))))))))))))))))))))))))))))) (zi_app inX0 (zi_app inX1 (zi_app zi_k194_X7_valueOf (zi_app zi_k224_X0_openQuery (zi_app zi_k182_X4_lengthOf (zi_app zi_k207_X6_hasWindow (zi_app zi_k226_X0_laySecondWindow (zi_app zi_k232_X2_wholeDistance zi_nil)))))))))
set_option maxHeartbeats 4000000 in
set_option maxRecDepth 100000 in
theorem k270_X1_scan (l : Launch) (D : va_G) (zt : Nat × Nat × Nat × (Nat → Nat) × (Nat → Nat)) (q : Nat → Nat) (d : Nat → ClassId) (I : Nat → Int32) (A : Nat → Nat → Int32) (z1 : Int32) (hIv : IvX I A) : GM l D zt (tyX d) yX1_scan wz_k270_X1_scan ({ frames := 5, cells := 0, slots := 0, locals := 109 } : Room) [.ref (q 43), .int z1] (wX q d I A) (fun v _ w' => ∃ (I' : Nat → Int32) (A' : Nat → Nat → Int32), Md [28, 30, 31, 32, 33, 34] I I' ∧ Md [21, 22, 23, 26] A A' ∧ IvX I' A' ∧ v = none ∧ w' = wX q d I' A') 0 0 := by
  refine GM.of (cc := cX1_scan) (maxL := 3) (ret := none) (own := RX1) (lv := [(0, .ref (q 43)), (1, .int z1)]) (by decide) rfl rfl (Nat.le_of_ble_eq_true rfl) rfl (fun κ sz hk hR hN => ?_)
  have hin0 : ∀ w ∈ u_ws RX0 TX0 5, w ∈ wz_k270_X1_scan := fun w h => (List.mem_cons_of_mem _ (List.mem_append_right _ (List.mem_append_left _ h)))
  have hin1 : ∀ w ∈ u_ws RX1 TX1 11, w ∈ wz_k270_X1_scan := fun w h => (List.mem_cons_of_mem _ (List.mem_append_right _ (List.mem_append_right _ (List.mem_append_left _ h))))
  refine g_aload_n hk dX1_scan_0 rfl ?_
  refine gX_r43_0 hk hin1 (List.mem_cons_of_mem _ (List.mem_append_left _ (List.mem_of_getElem? (i := 0) rfl))) dX1_scan_1 ?_
  refine g_iload_n hk dX1_scan_4 rfl ?_
  refine g_aload_n hk dX1_scan_5 rfl ?_
  refine gX_r43_0 hk hin1 (List.mem_cons_of_mem _ (List.mem_append_left _ (List.mem_of_getElem? (i := 0) rfl))) dX1_scan_6 ?_
  refine gX_r37_2 hk hin0 (List.mem_cons_of_mem _ (List.mem_append_left _ (List.mem_of_getElem? (i := 1) rfl))) dX1_scan_9 ?_
  refine g_iconst (v := 0) hk dX1_scan_12 (by decide) ?_
  have k6558 : (0 : Int32).toInt = 0 := rfl
  refine g_callV (n := 1) hk (k194_X7_valueOf l D zt q d I A 0 hIv) (SP.same _) (fun _ h => h) (gi_V (List.mem_cons_of_mem _ (List.mem_append_left _ (List.mem_of_getElem? (i := 2) rfl))) (List.mem_cons_of_mem _ (List.mem_append_left _ (List.mem_of_getElem? (i := 3) rfl))) (List.mem_cons_of_mem _ (List.mem_append_left _ (List.mem_of_getElem? (i := 4) rfl))) (List.mem_cons_of_mem _ (List.mem_append_left _ (List.mem_of_getElem? (i := 5) rfl))) (gi_sub (fun w h => (List.mem_cons_of_mem _ (List.mem_append_right _ (List.mem_append_right _ (List.mem_append_right _ (List.mem_append_left _ h)))))) zg_k194_X7_valueOf)) rfl rfl rfl (by decide +kernel) ⟨Nat.le_of_ble_eq_true rfl, Nat.le_of_ble_eq_true rfl⟩ 18 rfl rfl rfl rfl (Nat.le_of_ble_eq_true rfl) ⟨Nat.le_of_ble_eq_true rfl, Nat.le_of_ble_eq_true rfl⟩ dX1_scan_13 (fun v ty' w' hp hk' => ?_)
  obtain ⟨y6559, rfl, rfl⟩ := hp
  show GW κ 3 0 0 (wX q d I A) 16 [(0, .ref (q 43)), (1, .int z1)] [.int y6559, .int z1, .ref (q 37)]
  refine g_callV (n := 2) hk (k224_X0_openQuery l D zt q d I A z1 y6559 hIv) (SP.same _) (fun _ h => h) (gi_V (List.mem_cons_of_mem _ (List.mem_append_left _ (List.mem_of_getElem? (i := 6) rfl))) (List.mem_cons_of_mem _ (List.mem_append_left _ (List.mem_of_getElem? (i := 7) rfl))) (List.mem_cons_of_mem _ (List.mem_append_left _ (List.mem_of_getElem? (i := 8) rfl))) (List.mem_cons_of_mem _ (List.mem_append_left _ (List.mem_of_getElem? (i := 9) rfl))) (gi_sub (fun w h => (List.mem_cons_of_mem _ (List.mem_append_right _ (List.mem_append_right _ (List.mem_append_right _ (List.mem_append_right _ (List.mem_append_left _ h))))))) zg_k224_X0_openQuery)) rfl rfl rfl (by decide +kernel) ⟨Nat.le_of_ble_eq_true rfl, Nat.le_of_ble_eq_true rfl⟩ 37 rfl rfl rfl rfl (Nat.le_of_ble_eq_true rfl) ⟨Nat.le_of_ble_eq_true rfl, Nat.le_of_ble_eq_true rfl⟩ dX1_scan_16 (fun v ty' w' hp hk' => ?_)
  obtain ⟨I6561, A6561, hI6561, hA6561, hV6561, rfl, rfl⟩ := hp
  show GW κ 3 0 0 (wX q d I6561 A6561) 19 [(0, .ref (q 43)), (1, .int z1)] []
  refine g_iconst (v := 0) hk dX1_scan_19 (by decide) ?_
  refine g_istore_n (lv' := [(2, .int 0), (0, .ref (q 43)), (1, .int z1)]) hk dX1_scan_20 (by decide) rfl ?_
  have lp6723 : ∀ (n6724 : Nat) (x6562 : Int32) (I6565 : Nat → Int32) (A6565 : Nat → Nat → Int32), (Md [33, 34] I6561 I6565) → (Md [22, 23, 26] A6561 A6565) → (IvX I6565 A6565) → (0 ≤ x6562.toInt) → (x6562.toInt ≤ 160) → (161 - x6562.toInt < (n6724 : Int)) → (0 < n6724) → GW κ 3 0 0 (wX q d I6565 A6565) 21 [(2, .int x6562), (0, .ref (q 43)), (1, .int z1)] [] := by
    intro n6724
    induction n6724 with
    | zero =>
      intro x6562 I6565 A6565 hI6565 hA6565 hV6565 h6721 h6722 m6725 m6725z
      exact absurd m6725z (Nat.lt_irrefl 0)
    | succ n6724 ih6726 =>
      intro x6562 I6565 A6565 hI6565 hA6565 hV6565 h6721 h6722 m6725 m6725z
      refine g_iload_n hk dX1_scan_21 rfl ?_
      refine g_sipush (v := 160) hk dX1_scan_22 (by decide) ?_
      refine g_icmp_ge (tgt := 84) (a := x6562.toInt) (b := 160) hk dX1_scan_25 (by decide) rfl rfl (fun c6727 => ?_) (fun c6727 => ?_)
      · skip
        exact g_vret hk hR ⟨I6565, A6565, (show Md [28, 30, 31, 32, 33, 34] I I6565 from (Md.tr (Md.tr Md.rf hI6561 rfl) hI6565 rfl)), (show Md [21, 22, 23, 26] A A6565 from (Md.tr (Md.tr Md.rf hA6561 rfl) hA6565 rfl)), hV6565, rfl, rfl⟩ dX1_scan_84
      · skip
        refine g_aload_n hk dX1_scan_28 rfl ?_
        refine gX_r43_6 hk hin1 (List.mem_cons_of_mem _ (List.mem_append_left _ (List.mem_of_getElem? (i := 10) rfl))) dX1_scan_29 ?_
        refine g_iload_n hk dX1_scan_32 rfl ?_
        refine g_iconst (v := (-1)) hk dX1_scan_33 (by decide) ?_
        have k6728 : ((-1) : Int32).toInt = (-1) := rfl
        refine sX_26 (j := x6562.toNatClampNeg) hk (vp_in_iff.mpr ⟨by omega, by omega⟩) rfl dX1_scan_34 ?_
        refine g_aload_n hk dX1_scan_35 rfl ?_
        refine gX_r43_1 hk hin1 (List.mem_cons_of_mem _ (List.mem_append_left _ (List.mem_of_getElem? (i := 11) rfl))) dX1_scan_36 ?_
        refine g_iload_n hk dX1_scan_39 rfl ?_
        refine g_aload_n hk dX1_scan_40 rfl ?_
        refine gX_r43_2 hk hin1 (List.mem_cons_of_mem _ (List.mem_append_left _ (List.mem_of_getElem? (i := 12) rfl))) dX1_scan_41 ?_
        refine g_iload_n hk dX1_scan_44 rfl ?_
        refine g_callV (n := 1) hk (k182_X4_lengthOf l D zt q d I6565 (up3 A6565 26 (x6562.toNatClampNeg) (-1)) z1 ⟨(IvX_f0 (I := I6565) (A := A6565) hV6565), (IvX_f18 (I := I6565) (A := A6565) hV6565), (IvX_f30 (I := I6565) (A := A6565) hV6565), (IvX_f31 (I := I6565) (A := A6565) hV6565), (IvX_a4 (I := I6565) (A := A6565) hV6565), (IvX_a9 (I := I6565) (A := A6565) hV6565), trivial⟩) (SP.same _) (fun _ h => h) (gi_V (List.mem_cons_of_mem _ (List.mem_append_left _ (List.mem_of_getElem? (i := 13) rfl))) (List.mem_cons_of_mem _ (List.mem_append_left _ (List.mem_of_getElem? (i := 14) rfl))) (List.mem_cons_of_mem _ (List.mem_append_left _ (List.mem_of_getElem? (i := 15) rfl))) (List.mem_cons_of_mem _ (List.mem_append_left _ (List.mem_of_getElem? (i := 16) rfl))) (gi_sub (fun w h => (List.mem_cons_of_mem _ (List.mem_append_right _ (List.mem_append_right _ (List.mem_append_right _ (List.mem_append_right _ (List.mem_append_right _ (List.mem_append_left _ h)))))))) zg_k182_X4_lengthOf)) rfl rfl rfl (by decide +kernel) ⟨Nat.le_of_ble_eq_true rfl, Nat.le_of_ble_eq_true rfl⟩ 15 rfl rfl rfl rfl (Nat.le_of_ble_eq_true rfl) ⟨Nat.le_of_ble_eq_true rfl, Nat.le_of_ble_eq_true rfl⟩ dX1_scan_45 (fun v ty' w' hp hk' => ?_)
        rcases hp with ⟨rfl, rfl⟩ | ⟨y6736, c6730, c6731, c6732, c6733, c6734, c6735, c6737, c6738, rfl, rfl⟩
        · skip
          show GW κ 3 0 0 (wX q d I6565 (up3 A6565 26 (x6562.toNatClampNeg) (-1))) 48 [(2, .int x6562), (0, .ref (q 43)), (1, .int z1)] [.int 0, .int x6562, .ref (q 13)]
          refine g_callV (n := 2) hk (k207_X6_hasWindow l D zt q d I6565 (up3 A6565 26 (x6562.toNatClampNeg) (-1)) x6562 0 ⟨(IvX_f0 (I := I6565) (A := A6565) hV6565), (IvX_f18 (I := I6565) (A := A6565) hV6565), (IvX_f30 (I := I6565) (A := A6565) hV6565), (IvX_f31 (I := I6565) (A := A6565) hV6565), (IvX_a4 (I := I6565) (A := A6565) hV6565), (IvX_a9 (I := I6565) (A := A6565) hV6565), trivial⟩) (SP.same _) (fun _ h => h) (gi_V (List.mem_cons_of_mem _ (List.mem_append_left _ (List.mem_of_getElem? (i := 17) rfl))) (List.mem_cons_of_mem _ (List.mem_append_left _ (List.mem_of_getElem? (i := 18) rfl))) (List.mem_cons_of_mem _ (List.mem_append_left _ (List.mem_of_getElem? (i := 19) rfl))) (List.mem_cons_of_mem _ (List.mem_append_left _ (List.mem_of_getElem? (i := 20) rfl))) (gi_sub (fun w h => (List.mem_cons_of_mem _ (List.mem_append_right _ (List.mem_append_right _ (List.mem_append_right _ (List.mem_append_right _ (List.mem_append_right _ (List.mem_append_right _ (List.mem_append_left _ h))))))))) zg_k207_X6_hasWindow)) rfl rfl rfl (by decide +kernel) ⟨Nat.le_of_ble_eq_true rfl, Nat.le_of_ble_eq_true rfl⟩ 13 rfl rfl rfl rfl (Nat.le_of_ble_eq_true rfl) ⟨Nat.le_of_ble_eq_true rfl, Nat.le_of_ble_eq_true rfl⟩ dX1_scan_48 (fun v ty' w' hp hk' => ?_)
          rcases hp with ⟨rfl, rfl⟩ | ⟨c6740, c6741, c6742, c6743, c6744, c6745, rfl, rfl⟩
          · skip
            show GW κ 3 0 0 (wX q d I6565 (up3 A6565 26 (x6562.toNatClampNeg) (-1))) 51 [(2, .int x6562), (0, .ref (q 43)), (1, .int z1)] [.int 0]
            refine g_if_eq (tgt := 78) (a := 0) hk dX1_scan_51 (by decide) rfl (fun _ => ?_) (fun z9 => absurd (show (0 : Int) = (0 : Int) from by decide) z9)
            obtain ⟨y6747, ey6747⟩ : ∃ y : Int32, y = x6562 + Int32.ofInt 1 := ⟨_, rfl⟩
            have hy6747 : y6747.toInt = x6562.toInt + 1 := i32_add ey6747 rfl (by decide) (by omega) (by omega)
            refine g_iinc (v := y6747) (lv' := [(2, .int y6747), (0, .ref (q 43)), (1, .int z1)]) hk 0 dX1_scan_78 rfl ey6747.symm (by decide) rfl ?_
            refine g_goto (tgt := 21) hk dX1_scan_81 (by decide) ?_
            exact g_lv (List.forall_mem_cons.mpr ⟨List.mem_of_getElem? (i := 0) rfl, (List.forall_mem_cons.mpr ⟨List.mem_of_getElem? (i := 1) rfl, (List.forall_mem_cons.mpr ⟨List.mem_of_getElem? (i := 2) rfl, (fun _ h => absurd h List.not_mem_nil)⟩)⟩)⟩) (ih6726 y6747 I6565 (up3 A6565 26 (x6562.toNatClampNeg) (-1)) (show Md [33, 34] I6561 I6565 from Md.tr hI6565 (show Md [33, 34] I6565 I6565 from Md.rf) rfl) (show Md [22, 23, 26] A6561 (up3 A6565 26 (x6562.toNatClampNeg) (-1)) from Md.tr hA6565 (show Md [22, 23, 26] A6565 (up3 A6565 26 (x6562.toNatClampNeg) (-1)) from (Md.up3 Md.rf rfl)) rfl) ⟨(IvX_f0 (I := I6565) (A := A6565) hV6565), (IvX_f18 (I := I6565) (A := A6565) hV6565), (IvX_f30 (I := I6565) (A := A6565) hV6565), (IvX_f31 (I := I6565) (A := A6565) hV6565), (IvX_a4 (I := I6565) (A := A6565) hV6565), (IvX_a9 (I := I6565) (A := A6565) hV6565), trivial⟩ (by omega) (by omega) (by omega) (by omega))
          · skip
            show GW κ 3 0 0 (wX q d I6565 (up3 A6565 26 (x6562.toNatClampNeg) (-1))) 51 [(2, .int x6562), (0, .ref (q 43)), (1, .int z1)] [.int 1]
            refine g_if_eq (tgt := 78) (a := 1) hk dX1_scan_51 (by decide) rfl (fun z9 => absurd z9 (show ¬ ((1 : Int) = (0 : Int)) from by decide)) (fun _ => ?_)
            refine g_aload_n hk dX1_scan_54 rfl ?_
            refine gX_r43_0 hk hin1 (List.mem_cons_of_mem _ (List.mem_append_left _ (List.mem_of_getElem? (i := 0) rfl))) dX1_scan_55 ?_
            refine g_iload_n hk dX1_scan_58 rfl ?_
            refine g_callV (n := 1) hk (k226_X0_laySecondWindow l D zt q d I6565 (up3 A6565 26 (x6562.toNatClampNeg) (-1)) x6562 ⟨(IvX_f0 (I := I6565) (A := A6565) hV6565), (IvX_f18 (I := I6565) (A := A6565) hV6565), (IvX_f30 (I := I6565) (A := A6565) hV6565), (IvX_f31 (I := I6565) (A := A6565) hV6565), (IvX_a4 (I := I6565) (A := A6565) hV6565), (IvX_a9 (I := I6565) (A := A6565) hV6565), trivial⟩) (SP.same _) (fun _ h => h) (gi_V (List.mem_cons_of_mem _ (List.mem_append_left _ (List.mem_of_getElem? (i := 21) rfl))) (List.mem_cons_of_mem _ (List.mem_append_left _ (List.mem_of_getElem? (i := 22) rfl))) (List.mem_cons_of_mem _ (List.mem_append_left _ (List.mem_of_getElem? (i := 23) rfl))) (List.mem_cons_of_mem _ (List.mem_append_left _ (List.mem_of_getElem? (i := 9) rfl))) (gi_sub (fun w h => (List.mem_cons_of_mem _ (List.mem_append_right _ (List.mem_append_right _ (List.mem_append_right _ (List.mem_append_right _ (List.mem_append_right _ (List.mem_append_right _ (List.mem_append_right _ (List.mem_append_left _ h)))))))))) zg_k226_X0_laySecondWindow)) rfl rfl rfl (by decide +kernel) ⟨Nat.le_of_ble_eq_true rfl, Nat.le_of_ble_eq_true rfl⟩ 37 rfl rfl rfl rfl (Nat.le_of_ble_eq_true rfl) ⟨Nat.le_of_ble_eq_true rfl, Nat.le_of_ble_eq_true rfl⟩ dX1_scan_59 (fun v ty' w' hp hk' => ?_)
            obtain ⟨I6749, A6749, hI6749, hA6749, hV6749, rfl, rfl⟩ := hp
            show GW κ 3 0 0 (wX q d I6749 A6749) 62 [(2, .int x6562), (0, .ref (q 43)), (1, .int z1)] []
            refine g_aload_n hk dX1_scan_62 rfl ?_
            refine gX_r43_6 hk hin1 (List.mem_cons_of_mem _ (List.mem_append_left _ (List.mem_of_getElem? (i := 10) rfl))) dX1_scan_63 ?_
            refine g_iload_n hk dX1_scan_66 rfl ?_
            refine g_aload_n hk dX1_scan_67 rfl ?_
            refine gX_r43_0 hk hin1 (List.mem_cons_of_mem _ (List.mem_append_left _ (List.mem_of_getElem? (i := 0) rfl))) dX1_scan_68 ?_
            refine gX_r37_3 hk hin0 (List.mem_cons_of_mem _ (List.mem_append_left _ (List.mem_of_getElem? (i := 24) rfl))) dX1_scan_71 ?_
            refine g_callV (n := 0) hk (k232_X2_wholeDistance l D zt q d I6749 A6749  hV6749) (SP.same _) (fun _ h => h) (gi_V (List.mem_cons_of_mem _ (List.mem_append_left _ (List.mem_of_getElem? (i := 25) rfl))) (List.mem_cons_of_mem _ (List.mem_append_left _ (List.mem_of_getElem? (i := 26) rfl))) (List.mem_cons_of_mem _ (List.mem_append_left _ (List.mem_of_getElem? (i := 27) rfl))) (List.mem_cons_of_mem _ (List.mem_append_left _ (List.mem_of_getElem? (i := 28) rfl))) (gi_sub (fun w h => (List.mem_cons_of_mem _ (List.mem_append_right _ (List.mem_append_right _ (List.mem_append_right _ (List.mem_append_right _ (List.mem_append_right _ (List.mem_append_right _ (List.mem_append_right _ (List.mem_append_right _ (List.mem_append_left _ h))))))))))) zg_k232_X2_wholeDistance)) rfl rfl rfl (by decide +kernel) ⟨Nat.le_of_ble_eq_true rfl, Nat.le_of_ble_eq_true rfl⟩ 38 rfl rfl rfl rfl (Nat.le_of_ble_eq_true rfl) ⟨Nat.le_of_ble_eq_true rfl, Nat.le_of_ble_eq_true rfl⟩ dX1_scan_74 (fun v ty' w' hp hk' => ?_)
            obtain ⟨I6751, A6751, hI6751, hA6751, hV6751, y6750, rfl, rfl⟩ := hp
            show GW κ 3 0 0 (wX q d I6751 A6751) 77 [(2, .int x6562), (0, .ref (q 43)), (1, .int z1)] [.int y6750, .int x6562, .ref (q 45)]
            refine sX_26 (j := x6562.toNatClampNeg) hk (vp_in_iff.mpr ⟨by omega, by omega⟩) rfl dX1_scan_77 ?_
            obtain ⟨y6752, ey6752⟩ : ∃ y : Int32, y = x6562 + Int32.ofInt 1 := ⟨_, rfl⟩
            have hy6752 : y6752.toInt = x6562.toInt + 1 := i32_add ey6752 rfl (by decide) (by omega) (by omega)
            refine g_iinc (v := y6752) (lv' := [(2, .int y6752), (0, .ref (q 43)), (1, .int z1)]) hk 0 dX1_scan_78 rfl ey6752.symm (by decide) rfl ?_
            refine g_goto (tgt := 21) hk dX1_scan_81 (by decide) ?_
            exact g_lv (List.forall_mem_cons.mpr ⟨List.mem_of_getElem? (i := 0) rfl, (List.forall_mem_cons.mpr ⟨List.mem_of_getElem? (i := 1) rfl, (List.forall_mem_cons.mpr ⟨List.mem_of_getElem? (i := 2) rfl, (fun _ h => absurd h List.not_mem_nil)⟩)⟩)⟩) (ih6726 y6752 I6751 (up3 A6751 26 (x6562.toNatClampNeg) y6750) (show Md [33, 34] I6561 I6751 from Md.tr hI6565 (show Md [33, 34] I6565 I6751 from (Md.tr (Md.tr Md.rf hI6749 rfl) hI6751 rfl)) rfl) (show Md [22, 23, 26] A6561 (up3 A6751 26 (x6562.toNatClampNeg) y6750) from Md.tr hA6565 (show Md [22, 23, 26] A6565 (up3 A6751 26 (x6562.toNatClampNeg) y6750) from (Md.up3 (Md.tr (Md.tr (Md.up3 Md.rf rfl) hA6749 rfl) hA6751 rfl) rfl)) rfl) ⟨(IvX_f0 (I := I6751) (A := A6751) hV6751), (IvX_f18 (I := I6751) (A := A6751) hV6751), (IvX_f30 (I := I6751) (A := A6751) hV6751), (IvX_f31 (I := I6751) (A := A6751) hV6751), (IvX_a4 (I := I6751) (A := A6751) hV6751), (IvX_a9 (I := I6751) (A := A6751) hV6751), trivial⟩ (by omega) (by omega) (by omega) (by omega))
        · skip
          show GW κ 3 0 0 (wX q d I6565 (up3 A6565 26 (x6562.toNatClampNeg) (-1))) 48 [(2, .int x6562), (0, .ref (q 43)), (1, .int z1)] [.int y6736, .int x6562, .ref (q 13)]
          refine g_callV (n := 2) hk (k207_X6_hasWindow l D zt q d I6565 (up3 A6565 26 (x6562.toNatClampNeg) (-1)) x6562 y6736 ⟨(IvX_f0 (I := I6565) (A := A6565) hV6565), (IvX_f18 (I := I6565) (A := A6565) hV6565), (IvX_f30 (I := I6565) (A := A6565) hV6565), (IvX_f31 (I := I6565) (A := A6565) hV6565), (IvX_a4 (I := I6565) (A := A6565) hV6565), (IvX_a9 (I := I6565) (A := A6565) hV6565), trivial⟩) (SP.same _) (fun _ h => h) (gi_V (List.mem_cons_of_mem _ (List.mem_append_left _ (List.mem_of_getElem? (i := 17) rfl))) (List.mem_cons_of_mem _ (List.mem_append_left _ (List.mem_of_getElem? (i := 18) rfl))) (List.mem_cons_of_mem _ (List.mem_append_left _ (List.mem_of_getElem? (i := 19) rfl))) (List.mem_cons_of_mem _ (List.mem_append_left _ (List.mem_of_getElem? (i := 20) rfl))) (gi_sub (fun w h => (List.mem_cons_of_mem _ (List.mem_append_right _ (List.mem_append_right _ (List.mem_append_right _ (List.mem_append_right _ (List.mem_append_right _ (List.mem_append_right _ (List.mem_append_left _ h))))))))) zg_k207_X6_hasWindow)) rfl rfl rfl (by decide +kernel) ⟨Nat.le_of_ble_eq_true rfl, Nat.le_of_ble_eq_true rfl⟩ 13 rfl rfl rfl rfl (Nat.le_of_ble_eq_true rfl) ⟨Nat.le_of_ble_eq_true rfl, Nat.le_of_ble_eq_true rfl⟩ dX1_scan_48 (fun v ty' w' hp hk' => ?_)
          rcases hp with ⟨rfl, rfl⟩ | ⟨c6754, c6755, c6756, c6757, c6758, c6759, rfl, rfl⟩
          · skip
            show GW κ 3 0 0 (wX q d I6565 (up3 A6565 26 (x6562.toNatClampNeg) (-1))) 51 [(2, .int x6562), (0, .ref (q 43)), (1, .int z1)] [.int 0]
            refine g_if_eq (tgt := 78) (a := 0) hk dX1_scan_51 (by decide) rfl (fun _ => ?_) (fun z9 => absurd (show (0 : Int) = (0 : Int) from by decide) z9)
            obtain ⟨y6761, ey6761⟩ : ∃ y : Int32, y = x6562 + Int32.ofInt 1 := ⟨_, rfl⟩
            have hy6761 : y6761.toInt = x6562.toInt + 1 := i32_add ey6761 rfl (by decide) (by omega) (by omega)
            refine g_iinc (v := y6761) (lv' := [(2, .int y6761), (0, .ref (q 43)), (1, .int z1)]) hk 0 dX1_scan_78 rfl ey6761.symm (by decide) rfl ?_
            refine g_goto (tgt := 21) hk dX1_scan_81 (by decide) ?_
            exact g_lv (List.forall_mem_cons.mpr ⟨List.mem_of_getElem? (i := 0) rfl, (List.forall_mem_cons.mpr ⟨List.mem_of_getElem? (i := 1) rfl, (List.forall_mem_cons.mpr ⟨List.mem_of_getElem? (i := 2) rfl, (fun _ h => absurd h List.not_mem_nil)⟩)⟩)⟩) (ih6726 y6761 I6565 (up3 A6565 26 (x6562.toNatClampNeg) (-1)) (show Md [33, 34] I6561 I6565 from Md.tr hI6565 (show Md [33, 34] I6565 I6565 from Md.rf) rfl) (show Md [22, 23, 26] A6561 (up3 A6565 26 (x6562.toNatClampNeg) (-1)) from Md.tr hA6565 (show Md [22, 23, 26] A6565 (up3 A6565 26 (x6562.toNatClampNeg) (-1)) from (Md.up3 Md.rf rfl)) rfl) ⟨(IvX_f0 (I := I6565) (A := A6565) hV6565), (IvX_f18 (I := I6565) (A := A6565) hV6565), (IvX_f30 (I := I6565) (A := A6565) hV6565), (IvX_f31 (I := I6565) (A := A6565) hV6565), (IvX_a4 (I := I6565) (A := A6565) hV6565), (IvX_a9 (I := I6565) (A := A6565) hV6565), trivial⟩ (by omega) (by omega) (by omega) (by omega))
          · skip
            show GW κ 3 0 0 (wX q d I6565 (up3 A6565 26 (x6562.toNatClampNeg) (-1))) 51 [(2, .int x6562), (0, .ref (q 43)), (1, .int z1)] [.int 1]
            refine g_if_eq (tgt := 78) (a := 1) hk dX1_scan_51 (by decide) rfl (fun z9 => absurd z9 (show ¬ ((1 : Int) = (0 : Int)) from by decide)) (fun _ => ?_)
            refine g_aload_n hk dX1_scan_54 rfl ?_
            refine gX_r43_0 hk hin1 (List.mem_cons_of_mem _ (List.mem_append_left _ (List.mem_of_getElem? (i := 0) rfl))) dX1_scan_55 ?_
            refine g_iload_n hk dX1_scan_58 rfl ?_
            refine g_callV (n := 1) hk (k226_X0_laySecondWindow l D zt q d I6565 (up3 A6565 26 (x6562.toNatClampNeg) (-1)) x6562 ⟨(IvX_f0 (I := I6565) (A := A6565) hV6565), (IvX_f18 (I := I6565) (A := A6565) hV6565), (IvX_f30 (I := I6565) (A := A6565) hV6565), (IvX_f31 (I := I6565) (A := A6565) hV6565), (IvX_a4 (I := I6565) (A := A6565) hV6565), (IvX_a9 (I := I6565) (A := A6565) hV6565), trivial⟩) (SP.same _) (fun _ h => h) (gi_V (List.mem_cons_of_mem _ (List.mem_append_left _ (List.mem_of_getElem? (i := 21) rfl))) (List.mem_cons_of_mem _ (List.mem_append_left _ (List.mem_of_getElem? (i := 22) rfl))) (List.mem_cons_of_mem _ (List.mem_append_left _ (List.mem_of_getElem? (i := 23) rfl))) (List.mem_cons_of_mem _ (List.mem_append_left _ (List.mem_of_getElem? (i := 9) rfl))) (gi_sub (fun w h => (List.mem_cons_of_mem _ (List.mem_append_right _ (List.mem_append_right _ (List.mem_append_right _ (List.mem_append_right _ (List.mem_append_right _ (List.mem_append_right _ (List.mem_append_right _ (List.mem_append_left _ h)))))))))) zg_k226_X0_laySecondWindow)) rfl rfl rfl (by decide +kernel) ⟨Nat.le_of_ble_eq_true rfl, Nat.le_of_ble_eq_true rfl⟩ 37 rfl rfl rfl rfl (Nat.le_of_ble_eq_true rfl) ⟨Nat.le_of_ble_eq_true rfl, Nat.le_of_ble_eq_true rfl⟩ dX1_scan_59 (fun v ty' w' hp hk' => ?_)
            obtain ⟨I6763, A6763, hI6763, hA6763, hV6763, rfl, rfl⟩ := hp
            show GW κ 3 0 0 (wX q d I6763 A6763) 62 [(2, .int x6562), (0, .ref (q 43)), (1, .int z1)] []
            refine g_aload_n hk dX1_scan_62 rfl ?_
            refine gX_r43_6 hk hin1 (List.mem_cons_of_mem _ (List.mem_append_left _ (List.mem_of_getElem? (i := 10) rfl))) dX1_scan_63 ?_
            refine g_iload_n hk dX1_scan_66 rfl ?_
            refine g_aload_n hk dX1_scan_67 rfl ?_
            refine gX_r43_0 hk hin1 (List.mem_cons_of_mem _ (List.mem_append_left _ (List.mem_of_getElem? (i := 0) rfl))) dX1_scan_68 ?_
            refine gX_r37_3 hk hin0 (List.mem_cons_of_mem _ (List.mem_append_left _ (List.mem_of_getElem? (i := 24) rfl))) dX1_scan_71 ?_
            refine g_callV (n := 0) hk (k232_X2_wholeDistance l D zt q d I6763 A6763  hV6763) (SP.same _) (fun _ h => h) (gi_V (List.mem_cons_of_mem _ (List.mem_append_left _ (List.mem_of_getElem? (i := 25) rfl))) (List.mem_cons_of_mem _ (List.mem_append_left _ (List.mem_of_getElem? (i := 26) rfl))) (List.mem_cons_of_mem _ (List.mem_append_left _ (List.mem_of_getElem? (i := 27) rfl))) (List.mem_cons_of_mem _ (List.mem_append_left _ (List.mem_of_getElem? (i := 28) rfl))) (gi_sub (fun w h => (List.mem_cons_of_mem _ (List.mem_append_right _ (List.mem_append_right _ (List.mem_append_right _ (List.mem_append_right _ (List.mem_append_right _ (List.mem_append_right _ (List.mem_append_right _ (List.mem_append_right _ (List.mem_append_left _ h))))))))))) zg_k232_X2_wholeDistance)) rfl rfl rfl (by decide +kernel) ⟨Nat.le_of_ble_eq_true rfl, Nat.le_of_ble_eq_true rfl⟩ 38 rfl rfl rfl rfl (Nat.le_of_ble_eq_true rfl) ⟨Nat.le_of_ble_eq_true rfl, Nat.le_of_ble_eq_true rfl⟩ dX1_scan_74 (fun v ty' w' hp hk' => ?_)
            obtain ⟨I6765, A6765, hI6765, hA6765, hV6765, y6764, rfl, rfl⟩ := hp
            show GW κ 3 0 0 (wX q d I6765 A6765) 77 [(2, .int x6562), (0, .ref (q 43)), (1, .int z1)] [.int y6764, .int x6562, .ref (q 45)]
            refine sX_26 (j := x6562.toNatClampNeg) hk (vp_in_iff.mpr ⟨by omega, by omega⟩) rfl dX1_scan_77 ?_
            obtain ⟨y6766, ey6766⟩ : ∃ y : Int32, y = x6562 + Int32.ofInt 1 := ⟨_, rfl⟩
            have hy6766 : y6766.toInt = x6562.toInt + 1 := i32_add ey6766 rfl (by decide) (by omega) (by omega)
            refine g_iinc (v := y6766) (lv' := [(2, .int y6766), (0, .ref (q 43)), (1, .int z1)]) hk 0 dX1_scan_78 rfl ey6766.symm (by decide) rfl ?_
            refine g_goto (tgt := 21) hk dX1_scan_81 (by decide) ?_
            exact g_lv (List.forall_mem_cons.mpr ⟨List.mem_of_getElem? (i := 0) rfl, (List.forall_mem_cons.mpr ⟨List.mem_of_getElem? (i := 1) rfl, (List.forall_mem_cons.mpr ⟨List.mem_of_getElem? (i := 2) rfl, (fun _ h => absurd h List.not_mem_nil)⟩)⟩)⟩) (ih6726 y6766 I6765 (up3 A6765 26 (x6562.toNatClampNeg) y6764) (show Md [33, 34] I6561 I6765 from Md.tr hI6565 (show Md [33, 34] I6565 I6765 from (Md.tr (Md.tr Md.rf hI6763 rfl) hI6765 rfl)) rfl) (show Md [22, 23, 26] A6561 (up3 A6765 26 (x6562.toNatClampNeg) y6764) from Md.tr hA6565 (show Md [22, 23, 26] A6565 (up3 A6765 26 (x6562.toNatClampNeg) y6764) from (Md.up3 (Md.tr (Md.tr (Md.up3 Md.rf rfl) hA6763 rfl) hA6765 rfl) rfl)) rfl) ⟨(IvX_f0 (I := I6765) (A := A6765) hV6765), (IvX_f18 (I := I6765) (A := A6765) hV6765), (IvX_f30 (I := I6765) (A := A6765) hV6765), (IvX_f31 (I := I6765) (A := A6765) hV6765), (IvX_a4 (I := I6765) (A := A6765) hV6765), (IvX_a9 (I := I6765) (A := A6765) hV6765), trivial⟩ (by omega) (by omega) (by omega) (by omega))
  obtain ⟨n6767, n6767a, n6767b⟩ : ∃ n : Nat, 161 - 0 < (n : Int) ∧ 0 < n := ⟨((161 - 0 : Int)).toNat + 1, by omega, by omega⟩
  exact lp6723 n6767 0 I6561 A6561 Md.rf Md.rf hV6561 (by omega) (by omega) n6767a n6767b
def wo_k271_X1_leastScanned : List Cond := [Cond.fieldLink RX1 15 "WarpDesk$Finder" "distances" "[I"]
def wz_k271_X1_leastScanned : List Cond := .code yX1_leastScanned cX1_leastScanned 3 (some .int) :: (wo_k271_X1_leastScanned ++ (wsX10 ++ ([] : List Cond)))
theorem zg_k271_X1_leastScanned : ∀ w ∈ wz_k271_X1_leastScanned, goodWord w = true := zg_cons rfl (zg_app (by decide +kernel) (zg_app zgU_wsX10 zg_nil))
theorem zi_k271_X1_leastScanned : ∀ w ∈ wz_k271_X1_leastScanned, w ∈ lw_tbl := zi_cons zw_1158 (zi_app (zi_cons zw_411 zi_nil) (zi_app inX1 zi_nil))
set_option maxHeartbeats 4000000 in
set_option maxRecDepth 100000 in
theorem k271_X1_leastScanned (l : Launch) (D : va_G) (zt : Nat × Nat × Nat × (Nat → Nat) × (Nat → Nat)) (q : Nat → Nat) (d : Nat → ClassId) (I : Nat → Int32) (A : Nat → Nat → Int32) (hIv : IvX I A) : GM l D zt (tyX d) yX1_leastScanned wz_k271_X1_leastScanned ({ frames := 0, cells := 0, slots := 0, locals := 0 } : Room) [.ref (q 43)] (wX q d I A) (fun v _ w' => ∃ y0 : Int32, ((-1) ≤ y0.toInt) ∧ (y0.toInt ≤ 159) ∧ v = some (.int y0) ∧ w' = wX q d I A) 0 0 := by
  refine GM.of (cc := cX1_leastScanned) (maxL := 3) (ret := (some .int)) (own := RX1) (lv := [(0, .ref (q 43))]) (by decide) rfl rfl (Nat.le_of_ble_eq_true rfl) rfl (fun κ sz hk hR hN => ?_)
  have hin1 : ∀ w ∈ u_ws RX1 TX1 11, w ∈ wz_k271_X1_leastScanned := fun w h => (List.mem_cons_of_mem _ (List.mem_append_right _ (List.mem_append_left _ h)))
  refine g_iconst (v := (-1)) hk dX1_leastScanned_0 (by decide) ?_
  refine g_istore_n (lv' := [(1, .int (-1)), (0, .ref (q 43))]) hk dX1_leastScanned_1 (by decide) rfl ?_
  refine g_iconst (v := 0) hk dX1_leastScanned_2 (by decide) ?_
  refine g_istore_n (lv' := [(2, .int 0), (1, .int (-1)), (0, .ref (q 43))]) hk dX1_leastScanned_3 (by decide) rfl ?_
  have lp6821 : ∀ (n6822 : Nat) (x6770 : Int32) (x6771 : Int32), (0 ≤ x6770.toInt) → (x6770.toInt ≤ 160) → ((-1) ≤ x6771.toInt) → (x6771.toInt ≤ 159) → (161 - x6770.toInt < (n6822 : Int)) → (0 < n6822) → GW κ 3 0 0 (wX q d I A) 4 [(2, .int x6770), (1, .int x6771), (0, .ref (q 43))] [] := by
    intro n6822
    induction n6822 with
    | zero =>
      intro x6770 x6771 h6817 h6818 h6819 h6820 m6823 m6823z
      exact absurd m6823z (Nat.lt_irrefl 0)
    | succ n6822 ih6824 =>
      intro x6770 x6771 h6817 h6818 h6819 h6820 m6823 m6823z
      refine g_iload_n hk dX1_leastScanned_4 rfl ?_
      refine g_sipush (v := 160) hk dX1_leastScanned_5 (by decide) ?_
      refine g_icmp_ge (tgt := 47) (a := x6770.toInt) (b := 160) hk dX1_leastScanned_8 (by decide) rfl rfl (fun c6825 => ?_) (fun c6825 => ?_)
      · skip
        refine g_iload_n hk dX1_leastScanned_47 rfl ?_
        exact g_iret hk hR rfl ⟨x6771, (by omega), (by omega), rfl, rfl⟩ dX1_leastScanned_48
      · skip
        refine g_aload_n hk dX1_leastScanned_11 rfl ?_
        refine gX_r43_6 hk hin1 (List.mem_cons_of_mem _ (List.mem_append_left _ (List.mem_of_getElem? (i := 0) rfl))) dX1_leastScanned_12 ?_
        refine g_iload_n hk dX1_leastScanned_15 rfl ?_
        refine lX_26 (v := (A 26 x6770.toNatClampNeg)) hk (vp_in_iff.mpr ⟨by omega, by omega⟩) rfl dX1_leastScanned_16 ?_
        have b6826l := Int32.le_toInt (A 26 x6770.toNatClampNeg)
        have b6826h := Int32.toInt_lt (A 26 x6770.toNatClampNeg)
        refine g_if_lt (tgt := 41) (a := (A 26 x6770.toNatClampNeg).toInt) hk dX1_leastScanned_17 (by decide) rfl (fun c6827 => ?_) (fun c6827 => ?_)
        · skip
          obtain ⟨y6828, ey6828⟩ : ∃ y : Int32, y = x6770 + Int32.ofInt 1 := ⟨_, rfl⟩
          have hy6828 : y6828.toInt = x6770.toInt + 1 := i32_add ey6828 rfl (by decide) (by omega) (by omega)
          refine g_iinc (v := y6828) (lv' := [(2, .int y6828), (1, .int x6771), (0, .ref (q 43))]) hk 0 dX1_leastScanned_41 rfl ey6828.symm (by decide) rfl ?_
          refine g_goto (tgt := 4) hk dX1_leastScanned_44 (by decide) ?_
          exact g_lv (List.forall_mem_cons.mpr ⟨List.mem_of_getElem? (i := 0) rfl, (List.forall_mem_cons.mpr ⟨List.mem_of_getElem? (i := 1) rfl, (List.forall_mem_cons.mpr ⟨List.mem_of_getElem? (i := 2) rfl, (fun _ h => absurd h List.not_mem_nil)⟩)⟩)⟩) (ih6824 y6828 x6771 (by omega) (by omega) (by omega) (by omega) (by omega) (by omega))
        · skip
          refine g_iload_n hk dX1_leastScanned_20 rfl ?_
          refine g_if_lt (tgt := 39) (a := x6771.toInt) hk dX1_leastScanned_21 (by decide) rfl (fun c6829 => ?_) (fun c6829 => ?_)
          · skip
            refine g_iload_n hk dX1_leastScanned_39 rfl ?_
            refine g_istore_n (lv' := [(1, .int x6770), (2, .int x6770), (0, .ref (q 43))]) hk dX1_leastScanned_40 (by decide) rfl ?_
            obtain ⟨y6830, ey6830⟩ : ∃ y : Int32, y = x6770 + Int32.ofInt 1 := ⟨_, rfl⟩
            have hy6830 : y6830.toInt = x6770.toInt + 1 := i32_add ey6830 rfl (by decide) (by omega) (by omega)
            refine g_iinc (v := y6830) (lv' := [(2, .int y6830), (1, .int x6770), (0, .ref (q 43))]) hk 1 dX1_leastScanned_41 rfl ey6830.symm (by decide) rfl ?_
            refine g_goto (tgt := 4) hk dX1_leastScanned_44 (by decide) ?_
            exact g_lv (List.forall_mem_cons.mpr ⟨List.mem_of_getElem? (i := 0) rfl, (List.forall_mem_cons.mpr ⟨List.mem_of_getElem? (i := 1) rfl, (List.forall_mem_cons.mpr ⟨List.mem_of_getElem? (i := 2) rfl, (fun _ h => absurd h List.not_mem_nil)⟩)⟩)⟩) (ih6824 y6830 x6770 (by omega) (by omega) (by omega) (by omega) (by omega) (by omega))
          · skip
            refine g_aload_n hk dX1_leastScanned_24 rfl ?_
            refine gX_r43_6 hk hin1 (List.mem_cons_of_mem _ (List.mem_append_left _ (List.mem_of_getElem? (i := 0) rfl))) dX1_leastScanned_25 ?_
            refine g_iload_n hk dX1_leastScanned_28 rfl ?_
            refine lX_26 (v := (A 26 x6770.toNatClampNeg)) hk (vp_in_iff.mpr ⟨by omega, by omega⟩) rfl dX1_leastScanned_29 ?_
            refine g_aload_n hk dX1_leastScanned_30 rfl ?_
            refine gX_r43_6 hk hin1 (List.mem_cons_of_mem _ (List.mem_append_left _ (List.mem_of_getElem? (i := 0) rfl))) dX1_leastScanned_31 ?_
            refine g_iload_n hk dX1_leastScanned_34 rfl ?_
            refine lX_26 (v := (A 26 x6771.toNatClampNeg)) hk (vp_in_iff.mpr ⟨by omega, by omega⟩) rfl dX1_leastScanned_35 ?_
            have b6831l := Int32.le_toInt (A 26 x6771.toNatClampNeg)
            have b6831h := Int32.toInt_lt (A 26 x6771.toNatClampNeg)
            refine g_icmp_ge (tgt := 41) (a := (A 26 x6770.toNatClampNeg).toInt) (b := (A 26 x6771.toNatClampNeg).toInt) hk dX1_leastScanned_36 (by decide) rfl rfl (fun c6832 => ?_) (fun c6832 => ?_)
            · skip
              obtain ⟨y6833, ey6833⟩ : ∃ y : Int32, y = x6770 + Int32.ofInt 1 := ⟨_, rfl⟩
              have hy6833 : y6833.toInt = x6770.toInt + 1 := i32_add ey6833 rfl (by decide) (by omega) (by omega)
              refine g_iinc (v := y6833) (lv' := [(2, .int y6833), (1, .int x6771), (0, .ref (q 43))]) hk 0 dX1_leastScanned_41 rfl ey6833.symm (by decide) rfl ?_
              refine g_goto (tgt := 4) hk dX1_leastScanned_44 (by decide) ?_
              exact g_lv (List.forall_mem_cons.mpr ⟨List.mem_of_getElem? (i := 0) rfl, (List.forall_mem_cons.mpr ⟨List.mem_of_getElem? (i := 1) rfl, (List.forall_mem_cons.mpr ⟨List.mem_of_getElem? (i := 2) rfl, (fun _ h => absurd h List.not_mem_nil)⟩)⟩)⟩) (ih6824 y6833 x6771 (by omega) (by omega) (by omega) (by omega) (by omega) (by omega))
            · skip
              refine g_iload_n hk dX1_leastScanned_39 rfl ?_
              refine g_istore_n (lv' := [(1, .int x6770), (2, .int x6770), (0, .ref (q 43))]) hk dX1_leastScanned_40 (by decide) rfl ?_
              obtain ⟨y6834, ey6834⟩ : ∃ y : Int32, y = x6770 + Int32.ofInt 1 := ⟨_, rfl⟩
              have hy6834 : y6834.toInt = x6770.toInt + 1 := i32_add ey6834 rfl (by decide) (by omega) (by omega)
              refine g_iinc (v := y6834) (lv' := [(2, .int y6834), (1, .int x6770), (0, .ref (q 43))]) hk 1 dX1_leastScanned_41 rfl ey6834.symm (by decide) rfl ?_
              refine g_goto (tgt := 4) hk dX1_leastScanned_44 (by decide) ?_
              exact g_lv (List.forall_mem_cons.mpr ⟨List.mem_of_getElem? (i := 0) rfl, (List.forall_mem_cons.mpr ⟨List.mem_of_getElem? (i := 1) rfl, (List.forall_mem_cons.mpr ⟨List.mem_of_getElem? (i := 2) rfl, (fun _ h => absurd h List.not_mem_nil)⟩)⟩)⟩) (ih6824 y6834 x6770 (by omega) (by omega) (by omega) (by omega) (by omega) (by omega))
  have k6836 : (0 : Int32).toInt = 0 := rfl
  have k6837 : ((-1) : Int32).toInt = (-1) := rfl
  obtain ⟨n6835, n6835a, n6835b⟩ : ∃ n : Nat, 161 - 0 < (n : Int) ∧ 0 < n := ⟨((161 - 0 : Int)).toNat + 1, by omega, by omega⟩
  exact lp6821 n6835 0 (-1) (by omega) (by omega) (by omega) (by omega) n6835a n6835b
def wo_k272_X1_passOverAround : List Cond := [Cond.fieldLink RX1 28 "WarpDesk$Finder" "bench" "LWarpDesk$Bench;", Cond.fieldLink RX1 45 "WarpDesk$Bench" "settings" "LWarpDesk$Settings;", Cond.methodLink RX1 49 yX7_valueOf, Cond.instanceMethod yX7_valueOf, Cond.selects RX7 yX7_valueOf yX7_valueOf, Cond.initialized RX7, Cond.methodLink RX1 128 Lib.Math.abs.name, Cond.static Lib.Math.abs.name, Cond.initialized "java/lang/Math", Cond.code Lib.Math.abs.name Lib.Math.abs.code 1 (some .int), Cond.fieldLink RX1 15 "WarpDesk$Finder" "distances" "[I"]
def wz_k272_X1_passOverAround : List Cond := .code yX1_passOverAround cX1_passOverAround 4 none :: (wo_k272_X1_passOverAround ++ (wsX00 ++ (wsX10 ++ (wz_k194_X7_valueOf ++ ([] : List Cond)))))
theorem zg_k272_X1_passOverAround : ∀ w ∈ wz_k272_X1_passOverAround, goodWord w = true := zg_cons rfl (zg_app (by decide +kernel) (zg_app zgU_wsX00 (zg_app zgU_wsX10 (zg_app zg_k194_X7_valueOf zg_nil))))
theorem zi_k272_X1_passOverAround : ∀ w ∈ wz_k272_X1_passOverAround, w ∈ lw_tbl := zi_cons zw_1162 (zi_app (zi_cons zw_402 (zi_cons zw_379 (zi_cons zw_1137 (zi_cons zw_786 (zi_cons zw_787 (zi_cons zw_107 (zi_cons zw_1163 (zi_cons zw_1076 (zi_cons zw_120 (zi_cons zw_1077 (zi_cons zw_411 zi_nil))))))))))) (zi_app inX0 (zi_app inX1 (zi_app zi_k194_X7_valueOf zi_nil))))
set_option maxHeartbeats 4000000 in
set_option maxRecDepth 100000 in
theorem k272_X1_passOverAround (l : Launch) (D : va_G) (zt : Nat × Nat × Nat × (Nat → Nat) × (Nat → Nat)) (q : Nat → Nat) (d : Nat → ClassId) (I : Nat → Int32) (A : Nat → Nat → Int32) (z1 : Int32) (hIv : IvX I A) : GM l D zt (tyX d) yX1_passOverAround wz_k272_X1_passOverAround ({ frames := 1, cells := 0, slots := 0, locals := 21 } : Room) [.ref (q 43), .int z1] (wX q d I A) (fun v _ w' => ∃ (I' : Nat → Int32) (A' : Nat → Nat → Int32), Md [] I I' ∧ Md [26] A A' ∧ IvX I' A' ∧ v = none ∧ w' = wX q d I' A') 0 0 := by
  refine GM.of (cc := cX1_passOverAround) (maxL := 4) (ret := none) (own := RX1) (lv := [(0, .ref (q 43)), (1, .int z1)]) (by decide) rfl rfl (Nat.le_of_ble_eq_true rfl) rfl (fun κ sz hk hR hN => ?_)
  have hin0 : ∀ w ∈ u_ws RX0 TX0 5, w ∈ wz_k272_X1_passOverAround := fun w h => (List.mem_cons_of_mem _ (List.mem_append_right _ (List.mem_append_left _ h)))
  have hin1 : ∀ w ∈ u_ws RX1 TX1 11, w ∈ wz_k272_X1_passOverAround := fun w h => (List.mem_cons_of_mem _ (List.mem_append_right _ (List.mem_append_right _ (List.mem_append_left _ h))))
  refine g_aload_n hk dX1_passOverAround_0 rfl ?_
  refine gX_r43_0 hk hin1 (List.mem_cons_of_mem _ (List.mem_append_left _ (List.mem_of_getElem? (i := 0) rfl))) dX1_passOverAround_1 ?_
  refine gX_r37_2 hk hin0 (List.mem_cons_of_mem _ (List.mem_append_left _ (List.mem_of_getElem? (i := 1) rfl))) dX1_passOverAround_4 ?_
  refine g_iconst (v := 3) hk dX1_passOverAround_7 (by decide) ?_
  have k6847 : (3 : Int32).toInt = 3 := rfl
  refine g_callV (n := 1) hk (k194_X7_valueOf l D zt q d I A 3 hIv) (SP.same _) (fun _ h => h) (gi_V (List.mem_cons_of_mem _ (List.mem_append_left _ (List.mem_of_getElem? (i := 2) rfl))) (List.mem_cons_of_mem _ (List.mem_append_left _ (List.mem_of_getElem? (i := 3) rfl))) (List.mem_cons_of_mem _ (List.mem_append_left _ (List.mem_of_getElem? (i := 4) rfl))) (List.mem_cons_of_mem _ (List.mem_append_left _ (List.mem_of_getElem? (i := 5) rfl))) (gi_sub (fun w h => (List.mem_cons_of_mem _ (List.mem_append_right _ (List.mem_append_right _ (List.mem_append_right _ (List.mem_append_left _ h)))))) zg_k194_X7_valueOf)) rfl rfl rfl (by decide +kernel) ⟨Nat.le_of_ble_eq_true rfl, Nat.le_of_ble_eq_true rfl⟩ 18 rfl rfl rfl rfl (Nat.le_of_ble_eq_true rfl) ⟨Nat.le_of_ble_eq_true rfl, Nat.le_of_ble_eq_true rfl⟩ dX1_passOverAround_8 (fun v ty' w' hp hk' => ?_)
  obtain ⟨y6848, rfl, rfl⟩ := hp
  show GW κ 4 0 0 (wX q d I A) 11 [(0, .ref (q 43)), (1, .int z1)] [.int y6848]
  refine g_istore_n (lv' := [(2, .int y6848), (0, .ref (q 43)), (1, .int z1)]) hk dX1_passOverAround_11 (by decide) rfl ?_
  refine g_iconst (v := 0) hk dX1_passOverAround_12 (by decide) ?_
  refine g_istore_n (lv' := [(3, .int 0), (2, .int y6848), (0, .ref (q 43)), (1, .int z1)]) hk dX1_passOverAround_13 (by decide) rfl ?_
  have lp6897 : ∀ (n6898 : Nat) (x6849 : Int32) (I6853 : Nat → Int32) (A6853 : Nat → Nat → Int32), (Md [] I I6853) → (Md [26] A A6853) → (IvX I6853 A6853) → (0 ≤ x6849.toInt) → (x6849.toInt ≤ 160) → (161 - x6849.toInt < (n6898 : Int)) → (0 < n6898) → GW κ 4 0 0 (wX q d I6853 A6853) 14 [(3, .int x6849), (2, .int y6848), (0, .ref (q 43)), (1, .int z1)] [] := by
    intro n6898
    induction n6898 with
    | zero =>
      intro x6849 I6853 A6853 hI6853 hA6853 hV6853 h6895 h6896 m6899 m6899z
      exact absurd m6899z (Nat.lt_irrefl 0)
    | succ n6898 ih6900 =>
      intro x6849 I6853 A6853 hI6853 hA6853 hV6853 h6895 h6896 m6899 m6899z
      refine g_iload_n hk dX1_passOverAround_14 rfl ?_
      refine g_sipush (v := 160) hk dX1_passOverAround_15 (by decide) ?_
      refine g_icmp_ge (tgt := 44) (a := x6849.toInt) (b := 160) hk dX1_passOverAround_18 (by decide) rfl rfl (fun c6901 => ?_) (fun c6901 => ?_)
      · skip
        exact g_vret hk hR ⟨I6853, A6853, (show Md [] I I6853 from (Md.tr Md.rf hI6853 rfl)), (show Md [26] A A6853 from (Md.tr Md.rf hA6853 rfl)), hV6853, rfl, rfl⟩ dX1_passOverAround_44
      · skip
        refine g_iload_n hk dX1_passOverAround_21 rfl ?_
        refine g_iload_n hk dX1_passOverAround_22 rfl ?_
        have b6902l := Int32.le_toInt z1
        have b6902h := Int32.toInt_lt z1
        refine g_isub hk dX1_passOverAround_23 ?_
        refine g_topi (fun y6903 ey6903 => ?_)
        have hy6903 := i32_sub0 ey6903
        have b6904l := Int32.le_toInt y6903
        have b6904h := Int32.toInt_lt y6903
        refine g_mabs hk (List.mem_cons_of_mem _ (List.mem_append_left _ (List.mem_of_getElem? (i := 6) rfl))) (List.mem_cons_of_mem _ (List.mem_append_left _ (List.mem_of_getElem? (i := 7) rfl))) (List.mem_cons_of_mem _ (List.mem_append_left _ (List.mem_of_getElem? (i := 8) rfl))) (List.mem_cons_of_mem _ (List.mem_append_left _ (List.mem_of_getElem? (i := 9) rfl))) (Nat.le_of_ble_eq_true rfl) (Nat.le_of_ble_eq_true rfl) (Nat.le_of_ble_eq_true rfl) (Nat.le_of_ble_eq_true rfl) dX1_passOverAround_24 ?_
        refine g_topi (fun y6905 ey6905 => ?_)
        refine g_iload_n hk dX1_passOverAround_27 rfl ?_
        have b6906l := Int32.le_toInt y6905
        have b6906h := Int32.toInt_lt y6905
        have b6907l := Int32.le_toInt y6848
        have b6907h := Int32.toInt_lt y6848
        refine g_icmp_ge (tgt := 38) (a := y6905.toInt) (b := y6848.toInt) hk dX1_passOverAround_28 (by decide) rfl rfl (fun c6908 => ?_) (fun c6908 => ?_)
        · skip
          obtain ⟨y6909, ey6909⟩ : ∃ y : Int32, y = x6849 + Int32.ofInt 1 := ⟨_, rfl⟩
          have hy6909 : y6909.toInt = x6849.toInt + 1 := i32_add ey6909 rfl (by decide) (by omega) (by omega)
          refine g_iinc (v := y6909) (lv' := [(3, .int y6909), (2, .int y6848), (0, .ref (q 43)), (1, .int z1)]) hk 0 dX1_passOverAround_38 rfl ey6909.symm (by decide) rfl ?_
          refine g_goto (tgt := 14) hk dX1_passOverAround_41 (by decide) ?_
          exact g_lv (List.forall_mem_cons.mpr ⟨List.mem_of_getElem? (i := 0) rfl, (List.forall_mem_cons.mpr ⟨List.mem_of_getElem? (i := 1) rfl, (List.forall_mem_cons.mpr ⟨List.mem_of_getElem? (i := 2) rfl, (List.forall_mem_cons.mpr ⟨List.mem_of_getElem? (i := 3) rfl, (fun _ h => absurd h List.not_mem_nil)⟩)⟩)⟩)⟩) (ih6900 y6909 I6853 A6853 (show Md [] I I6853 from Md.tr hI6853 (show Md [] I6853 I6853 from Md.rf) rfl) (show Md [26] A A6853 from Md.tr hA6853 (show Md [26] A6853 A6853 from Md.rf) rfl) hV6853 (by omega) (by omega) (by omega) (by omega))
        · skip
          refine g_aload_n hk dX1_passOverAround_31 rfl ?_
          refine gX_r43_6 hk hin1 (List.mem_cons_of_mem _ (List.mem_append_left _ (List.mem_of_getElem? (i := 10) rfl))) dX1_passOverAround_32 ?_
          refine g_iload_n hk dX1_passOverAround_35 rfl ?_
          refine g_iconst (v := (-1)) hk dX1_passOverAround_36 (by decide) ?_
          have k6910 : ((-1) : Int32).toInt = (-1) := rfl
          refine sX_26 (j := x6849.toNatClampNeg) hk (vp_in_iff.mpr ⟨by omega, by omega⟩) rfl dX1_passOverAround_37 ?_
          obtain ⟨y6911, ey6911⟩ : ∃ y : Int32, y = x6849 + Int32.ofInt 1 := ⟨_, rfl⟩
          have hy6911 : y6911.toInt = x6849.toInt + 1 := i32_add ey6911 rfl (by decide) (by omega) (by omega)
          refine g_iinc (v := y6911) (lv' := [(3, .int y6911), (2, .int y6848), (0, .ref (q 43)), (1, .int z1)]) hk 0 dX1_passOverAround_38 rfl ey6911.symm (by decide) rfl ?_
          refine g_goto (tgt := 14) hk dX1_passOverAround_41 (by decide) ?_
          exact g_lv (List.forall_mem_cons.mpr ⟨List.mem_of_getElem? (i := 0) rfl, (List.forall_mem_cons.mpr ⟨List.mem_of_getElem? (i := 1) rfl, (List.forall_mem_cons.mpr ⟨List.mem_of_getElem? (i := 2) rfl, (List.forall_mem_cons.mpr ⟨List.mem_of_getElem? (i := 3) rfl, (fun _ h => absurd h List.not_mem_nil)⟩)⟩)⟩)⟩) (ih6900 y6911 I6853 (up3 A6853 26 (x6849.toNatClampNeg) (-1)) (show Md [] I I6853 from Md.tr hI6853 (show Md [] I6853 I6853 from Md.rf) rfl) (show Md [26] A (up3 A6853 26 (x6849.toNatClampNeg) (-1)) from Md.tr hA6853 (show Md [26] A6853 (up3 A6853 26 (x6849.toNatClampNeg) (-1)) from (Md.up3 Md.rf rfl)) rfl) ⟨(IvX_f0 (I := I6853) (A := A6853) hV6853), (IvX_f18 (I := I6853) (A := A6853) hV6853), (IvX_f30 (I := I6853) (A := A6853) hV6853), (IvX_f31 (I := I6853) (A := A6853) hV6853), (IvX_a4 (I := I6853) (A := A6853) hV6853), (IvX_a9 (I := I6853) (A := A6853) hV6853), trivial⟩ (by omega) (by omega) (by omega) (by omega))
  have k6913 : (0 : Int32).toInt = 0 := rfl
  obtain ⟨n6912, n6912a, n6912b⟩ : ∃ n : Nat, 161 - 0 < (n : Int) ∧ 0 < n := ⟨((161 - 0 : Int)).toNat + 1, by omega, by omega⟩
  exact lp6897 n6912 0 I A Md.rf Md.rf hIv (by omega) (by omega) n6912a n6912b
def wo_k269_X1_findMatches : List Cond := [Cond.methodLink RX1 116 yX1_scan, Cond.instanceMethod yX1_scan, Cond.selects RX1 yX1_scan yX1_scan, Cond.initialized RX1, Cond.fieldLink RX1 119 "WarpDesk$Finder" "matches" "I", Cond.methodLink RX1 122 yX1_leastScanned, Cond.instanceMethod yX1_leastScanned, Cond.selects RX1 yX1_leastScanned yX1_leastScanned, Cond.fieldLink RX1 18 "WarpDesk$Finder" "matchWindows" "[I", Cond.fieldLink RX1 21 "WarpDesk$Finder" "matchDistances" "[I", Cond.fieldLink RX1 15 "WarpDesk$Finder" "distances" "[I", Cond.methodLink RX1 125 yX1_passOverAround, Cond.instanceMethod yX1_passOverAround, Cond.selects RX1 yX1_passOverAround yX1_passOverAround]
def wz_k269_X1_findMatches : List Cond := .code yX1_findMatches cX1_findMatches 4 none :: (wo_k269_X1_findMatches ++ (wsX10 ++ (wz_k270_X1_scan ++ (wz_k271_X1_leastScanned ++ (wz_k272_X1_passOverAround ++ ([] : List Cond))))))
theorem zg_k269_X1_findMatches : ∀ w ∈ wz_k269_X1_findMatches, goodWord w = true := zg_cons rfl (zg_app (by decide +kernel) (zg_app zgU_wsX10 (zg_app zg_k270_X1_scan (zg_app zg_k271_X1_leastScanned (zg_app zg_k272_X1_passOverAround zg_nil)))))
theorem zi_k269_X1_findMatches : ∀ w ∈ wz_k269_X1_findMatches, w ∈ lw_tbl := zi_cons zw_1150 (zi_app (zi_cons zw_1151 (zi_cons zw_1152 (zi_cons zw_1153 (zi_cons zw_113 (zi_cons zw_414 (zi_cons zw_1155 (zi_cons zw_1157 (zi_cons zw_36 (zi_cons zw_412 (zi_cons zw_413 (zi_cons zw_411 (zi_cons zw_1159 (zi_cons zw_1161 (zi_cons zw_37 zi_nil)))))))))))))) (zi_app inX1 (zi_app zi_k270_X1_scan (zi_app zi_k271_X1_leastScanned (zi_app zi_k272_X1_passOverAround zi_nil)))))
set_option maxHeartbeats 4000000 in
set_option maxRecDepth 100000 in
theorem k269_X1_findMatches (l : Launch) (D : va_G) (zt : Nat × Nat × Nat × (Nat → Nat) × (Nat → Nat)) (q : Nat → Nat) (d : Nat → ClassId) (I : Nat → Int32) (A : Nat → Nat → Int32) (z1 : Int32) (hIv : IvX I A) : GM l D zt (tyX d) yX1_findMatches wz_k269_X1_findMatches ({ frames := 6, cells := 0, slots := 0, locals := 131 } : Room) [.ref (q 43), .int z1] (wX q d I A) (fun v _ w' => ∃ (I' : Nat → Int32) (A' : Nat → Nat → Int32), Md [28, 30, 31, 32, 33, 34, 37] I I' ∧ Md [21, 22, 23, 26, 27, 28] A A' ∧ IvX I' A' ∧ v = none ∧ w' = wX q d I' A') 0 0 := by
  refine GM.of (cc := cX1_findMatches) (maxL := 4) (ret := none) (own := RX1) (lv := [(0, .ref (q 43)), (1, .int z1)]) (by decide) rfl rfl (Nat.le_of_ble_eq_true rfl) rfl (fun κ sz hk hR hN => ?_)
  have hin1 : ∀ w ∈ u_ws RX1 TX1 11, w ∈ wz_k269_X1_findMatches := fun w h => (List.mem_cons_of_mem _ (List.mem_append_right _ (List.mem_append_left _ h)))
  refine g_aload_n hk dX1_findMatches_0 rfl ?_
  refine g_iload_n hk dX1_findMatches_1 rfl ?_
  refine g_callV (n := 1) hk (k270_X1_scan l D zt q d I A z1 hIv) (SP.same _) (fun _ h => h) (gi_V (List.mem_cons_of_mem _ (List.mem_append_left _ (List.mem_of_getElem? (i := 0) rfl))) (List.mem_cons_of_mem _ (List.mem_append_left _ (List.mem_of_getElem? (i := 1) rfl))) (List.mem_cons_of_mem _ (List.mem_append_left _ (List.mem_of_getElem? (i := 2) rfl))) (List.mem_cons_of_mem _ (List.mem_append_left _ (List.mem_of_getElem? (i := 3) rfl))) (gi_sub (fun w h => (List.mem_cons_of_mem _ (List.mem_append_right _ (List.mem_append_right _ (List.mem_append_left _ h))))) zg_k270_X1_scan)) rfl rfl rfl (by decide +kernel) ⟨Nat.le_of_ble_eq_true rfl, Nat.le_of_ble_eq_true rfl⟩ 43 rfl rfl rfl rfl (Nat.le_of_ble_eq_true rfl) ⟨Nat.le_of_ble_eq_true rfl, Nat.le_of_ble_eq_true rfl⟩ dX1_findMatches_2 (fun v ty' w' hp hk' => ?_)
  obtain ⟨I6769, A6769, hI6769, hA6769, hV6769, rfl, rfl⟩ := hp
  show GW κ 4 0 0 (wX q d I6769 A6769) 5 [(0, .ref (q 43)), (1, .int z1)] []
  refine g_aload_n hk dX1_findMatches_5 rfl ?_
  refine g_iconst (v := 0) hk dX1_findMatches_6 (by decide) ?_
  refine pX_i37 hk hin1 (List.mem_cons_of_mem _ (List.mem_append_left _ (List.mem_of_getElem? (i := 4) rfl))) dX1_findMatches_7 ?_
  refine g_aload_n hk dX1_findMatches_10 rfl ?_
  refine g_callV (n := 0) hk (k271_X1_leastScanned l D zt q d (upd I6769 37 0) A6769  ⟨(IvX_f0 (I := I6769) (A := A6769) hV6769), (IvX_f18 (I := I6769) (A := A6769) hV6769), (IvX_f30 (I := I6769) (A := A6769) hV6769), (IvX_f31 (I := I6769) (A := A6769) hV6769), (IvX_a4 (I := I6769) (A := A6769) hV6769), (IvX_a9 (I := I6769) (A := A6769) hV6769), trivial⟩) (SP.same _) (fun _ h => h) (gi_V (List.mem_cons_of_mem _ (List.mem_append_left _ (List.mem_of_getElem? (i := 5) rfl))) (List.mem_cons_of_mem _ (List.mem_append_left _ (List.mem_of_getElem? (i := 6) rfl))) (List.mem_cons_of_mem _ (List.mem_append_left _ (List.mem_of_getElem? (i := 7) rfl))) (List.mem_cons_of_mem _ (List.mem_append_left _ (List.mem_of_getElem? (i := 3) rfl))) (gi_sub (fun w h => (List.mem_cons_of_mem _ (List.mem_append_right _ (List.mem_append_right _ (List.mem_append_right _ (List.mem_append_left _ h)))))) zg_k271_X1_leastScanned)) rfl rfl rfl (by decide +kernel) ⟨Nat.le_of_ble_eq_true rfl, Nat.le_of_ble_eq_true rfl⟩ 43 rfl rfl rfl rfl (Nat.le_of_ble_eq_true rfl) ⟨Nat.le_of_ble_eq_true rfl, Nat.le_of_ble_eq_true rfl⟩ dX1_findMatches_11 (fun v ty' w' hp hk' => ?_)
  obtain ⟨y6838, c6839, c6840, rfl, rfl⟩ := hp
  show GW κ 4 0 0 (wX q d (upd I6769 37 0) A6769) 14 [(0, .ref (q 43)), (1, .int z1)] [.int y6838]
  refine g_istore_n (lv' := [(2, .int y6838), (0, .ref (q 43)), (1, .int z1)]) hk dX1_findMatches_14 (by decide) rfl ?_
  refine g_iconst (v := 0) hk dX1_findMatches_15 (by decide) ?_
  refine g_istore_n (lv' := [(3, .int 0), (2, .int y6838), (0, .ref (q 43)), (1, .int z1)]) hk dX1_findMatches_16 (by decide) rfl ?_
  have lp6950 : ∀ (n6951 : Nat) (x6841 : Int32) (x6842 : Int32) (I6845 : Nat → Int32) (A6845 : Nat → Nat → Int32), (Md [37] (upd I6769 37 0) I6845) → (Md [26, 27, 28] A6769 A6845) → (IvX I6845 A6845) → (0 ≤ x6841.toInt) → (x6841.toInt ≤ 160) → ((-1) ≤ x6842.toInt) → (x6842.toInt ≤ 159) → (161 - x6841.toInt < (n6951 : Int)) → (0 < n6951) → GW κ 4 0 0 (wX q d I6845 A6845) 17 [(3, .int x6841), (2, .int x6842), (0, .ref (q 43)), (1, .int z1)] [] := by
    intro n6951
    induction n6951 with
    | zero =>
      intro x6841 x6842 I6845 A6845 hI6845 hA6845 hV6845 h6946 h6947 h6948 h6949 m6952 m6952z
      exact absurd m6952z (Nat.lt_irrefl 0)
    | succ n6951 ih6953 =>
      intro x6841 x6842 I6845 A6845 hI6845 hA6845 hV6845 h6946 h6947 h6948 h6949 m6952 m6952z
      refine g_iload_n hk dX1_findMatches_17 rfl ?_
      refine g_sipush (v := 160) hk dX1_findMatches_18 (by decide) ?_
      refine g_icmp_ge (tgt := 70) (a := x6841.toInt) (b := 160) hk dX1_findMatches_21 (by decide) rfl rfl (fun c6954 => ?_) (fun c6954 => ?_)
      · skip
        exact g_vret hk hR ⟨I6845, A6845, (show Md [28, 30, 31, 32, 33, 34, 37] I I6845 from (Md.tr (Md.up (Md.tr Md.rf hI6769 rfl) rfl) hI6845 rfl)), (show Md [21, 22, 23, 26, 27, 28] A A6845 from (Md.tr (Md.tr Md.rf hA6769 rfl) hA6845 rfl)), hV6845, rfl, rfl⟩ dX1_findMatches_70
      · skip
        refine g_iload_n hk dX1_findMatches_24 rfl ?_
        refine g_if_lt (tgt := 70) (a := x6842.toInt) hk dX1_findMatches_25 (by decide) rfl (fun c6955 => ?_) (fun c6955 => ?_)
        · skip
          exact g_vret hk hR ⟨I6845, A6845, (show Md [28, 30, 31, 32, 33, 34, 37] I I6845 from (Md.tr (Md.up (Md.tr Md.rf hI6769 rfl) rfl) hI6845 rfl)), (show Md [21, 22, 23, 26, 27, 28] A A6845 from (Md.tr (Md.tr Md.rf hA6769 rfl) hA6845 rfl)), hV6845, rfl, rfl⟩ dX1_findMatches_70
        · skip
          refine g_aload_n hk dX1_findMatches_28 rfl ?_
          refine gX_r43_7 hk hin1 (List.mem_cons_of_mem _ (List.mem_append_left _ (List.mem_of_getElem? (i := 8) rfl))) dX1_findMatches_29 ?_
          refine g_iload_n hk dX1_findMatches_32 rfl ?_
          refine g_iload_n hk dX1_findMatches_33 rfl ?_
          refine sX_27 (j := x6841.toNatClampNeg) hk (vp_in_iff.mpr ⟨by omega, by omega⟩) rfl dX1_findMatches_34 ?_
          refine g_aload_n hk dX1_findMatches_35 rfl ?_
          refine gX_r43_8 hk hin1 (List.mem_cons_of_mem _ (List.mem_append_left _ (List.mem_of_getElem? (i := 9) rfl))) dX1_findMatches_36 ?_
          refine g_iload_n hk dX1_findMatches_39 rfl ?_
          refine g_aload_n hk dX1_findMatches_40 rfl ?_
          refine gX_r43_6 hk hin1 (List.mem_cons_of_mem _ (List.mem_append_left _ (List.mem_of_getElem? (i := 10) rfl))) dX1_findMatches_41 ?_
          refine g_iload_n hk dX1_findMatches_44 rfl ?_
          refine lX_26 (v := (A6845 26 x6842.toNatClampNeg)) hk (vp_in_iff.mpr ⟨by omega, by omega⟩) rfl dX1_findMatches_45 ?_
          refine sX_28 (j := x6841.toNatClampNeg) hk (vp_in_iff.mpr ⟨by omega, by omega⟩) rfl dX1_findMatches_46 ?_
          refine g_aload_n hk dX1_findMatches_47 rfl ?_
          refine g_iload_n hk dX1_findMatches_48 rfl ?_
          refine g_iconst (v := 1) hk dX1_findMatches_49 (by decide) ?_
          refine g_iadd hk dX1_findMatches_50 ?_
          refine g_topi (fun y6956 ey6956 => ?_)
          have hy6956 : y6956.toInt = x6841.toInt + 1 := i32_add ey6956 rfl rfl (by omega) (by omega)
          refine pX_i37 hk hin1 (List.mem_cons_of_mem _ (List.mem_append_left _ (List.mem_of_getElem? (i := 4) rfl))) dX1_findMatches_51 ?_
          refine g_aload_n hk dX1_findMatches_54 rfl ?_
          refine g_iload_n hk dX1_findMatches_55 rfl ?_
          refine g_callV (n := 1) hk (k272_X1_passOverAround l D zt q d (upd I6845 37 y6956) (up3 (up3 A6845 27 (x6841.toNatClampNeg) x6842) 28 (x6841.toNatClampNeg) (A6845 26 x6842.toNatClampNeg)) x6842 ⟨(IvX_f0 (I := I6845) (A := A6845) hV6845), (IvX_f18 (I := I6845) (A := A6845) hV6845), (IvX_f30 (I := I6845) (A := A6845) hV6845), (IvX_f31 (I := I6845) (A := A6845) hV6845), (IvX_a4 (I := I6845) (A := A6845) hV6845), (IvX_a9 (I := I6845) (A := A6845) hV6845), trivial⟩) (SP.same _) (fun _ h => h) (gi_V (List.mem_cons_of_mem _ (List.mem_append_left _ (List.mem_of_getElem? (i := 11) rfl))) (List.mem_cons_of_mem _ (List.mem_append_left _ (List.mem_of_getElem? (i := 12) rfl))) (List.mem_cons_of_mem _ (List.mem_append_left _ (List.mem_of_getElem? (i := 13) rfl))) (List.mem_cons_of_mem _ (List.mem_append_left _ (List.mem_of_getElem? (i := 3) rfl))) (gi_sub (fun w h => (List.mem_cons_of_mem _ (List.mem_append_right _ (List.mem_append_right _ (List.mem_append_right _ (List.mem_append_right _ (List.mem_append_left _ h))))))) zg_k272_X1_passOverAround)) rfl rfl rfl (by decide +kernel) ⟨Nat.le_of_ble_eq_true rfl, Nat.le_of_ble_eq_true rfl⟩ 43 rfl rfl rfl rfl (Nat.le_of_ble_eq_true rfl) ⟨Nat.le_of_ble_eq_true rfl, Nat.le_of_ble_eq_true rfl⟩ dX1_findMatches_56 (fun v ty' w' hp hk' => ?_)
          obtain ⟨I6958, A6958, hI6958, hA6958, hV6958, rfl, rfl⟩ := hp
          show GW κ 4 0 0 (wX q d I6958 A6958) 59 [(3, .int x6841), (2, .int x6842), (0, .ref (q 43)), (1, .int z1)] []
          refine g_aload_n hk dX1_findMatches_59 rfl ?_
          refine g_callV (n := 0) hk (k271_X1_leastScanned l D zt q d I6958 A6958  hV6958) (SP.same _) (fun _ h => h) (gi_V (List.mem_cons_of_mem _ (List.mem_append_left _ (List.mem_of_getElem? (i := 5) rfl))) (List.mem_cons_of_mem _ (List.mem_append_left _ (List.mem_of_getElem? (i := 6) rfl))) (List.mem_cons_of_mem _ (List.mem_append_left _ (List.mem_of_getElem? (i := 7) rfl))) (List.mem_cons_of_mem _ (List.mem_append_left _ (List.mem_of_getElem? (i := 3) rfl))) (gi_sub (fun w h => (List.mem_cons_of_mem _ (List.mem_append_right _ (List.mem_append_right _ (List.mem_append_right _ (List.mem_append_left _ h)))))) zg_k271_X1_leastScanned)) rfl rfl rfl (by decide +kernel) ⟨Nat.le_of_ble_eq_true rfl, Nat.le_of_ble_eq_true rfl⟩ 43 rfl rfl rfl rfl (Nat.le_of_ble_eq_true rfl) ⟨Nat.le_of_ble_eq_true rfl, Nat.le_of_ble_eq_true rfl⟩ dX1_findMatches_60 (fun v ty' w' hp hk' => ?_)
          obtain ⟨y6959, c6960, c6961, rfl, rfl⟩ := hp
          show GW κ 4 0 0 (wX q d I6958 A6958) 63 [(3, .int x6841), (2, .int x6842), (0, .ref (q 43)), (1, .int z1)] [.int y6959]
          refine g_istore_n (lv' := [(2, .int y6959), (3, .int x6841), (0, .ref (q 43)), (1, .int z1)]) hk dX1_findMatches_63 (by decide) rfl ?_
          obtain ⟨y6962, ey6962⟩ : ∃ y : Int32, y = x6841 + Int32.ofInt 1 := ⟨_, rfl⟩
          have hy6962 : y6962.toInt = x6841.toInt + 1 := i32_add ey6962 rfl (by decide) (by omega) (by omega)
          refine g_iinc (v := y6962) (lv' := [(3, .int y6962), (2, .int y6959), (0, .ref (q 43)), (1, .int z1)]) hk 1 dX1_findMatches_64 rfl ey6962.symm (by decide) rfl ?_
          refine g_goto (tgt := 17) hk dX1_findMatches_67 (by decide) ?_
          exact g_lv (List.forall_mem_cons.mpr ⟨List.mem_of_getElem? (i := 0) rfl, (List.forall_mem_cons.mpr ⟨List.mem_of_getElem? (i := 1) rfl, (List.forall_mem_cons.mpr ⟨List.mem_of_getElem? (i := 2) rfl, (List.forall_mem_cons.mpr ⟨List.mem_of_getElem? (i := 3) rfl, (fun _ h => absurd h List.not_mem_nil)⟩)⟩)⟩)⟩) (ih6953 y6962 y6959 I6958 A6958 (show Md [37] (upd I6769 37 0) I6958 from Md.tr hI6845 (show Md [37] I6845 I6958 from (Md.tr (Md.up Md.rf rfl) hI6958 rfl)) rfl) (show Md [26, 27, 28] A6769 A6958 from Md.tr hA6845 (show Md [26, 27, 28] A6845 A6958 from (Md.tr (Md.up3 (Md.up3 Md.rf rfl) rfl) hA6958 rfl)) rfl) hV6958 (by omega) (by omega) (by omega) (by omega) (by omega) (by omega))
  have k6964 : (0 : Int32).toInt = 0 := rfl
  obtain ⟨n6963, n6963a, n6963b⟩ : ∃ n : Nat, 161 - 0 < (n : Int) ∧ 0 < n := ⟨((161 - 0 : Int)).toNat + 1, by omega, by omega⟩
  exact lp6950 n6963 0 y6838 (upd I6769 37 0) A6769 Md.rf Md.rf ⟨(IvX_f0 (I := I6769) (A := A6769) hV6769), (IvX_f18 (I := I6769) (A := A6769) hV6769), (IvX_f30 (I := I6769) (A := A6769) hV6769), (IvX_f31 (I := I6769) (A := A6769) hV6769), (IvX_a4 (I := I6769) (A := A6769) hV6769), (IvX_a9 (I := I6769) (A := A6769) hV6769), trivial⟩ (by omega) (by omega) (by omega) (by omega) n6963a n6963b
def wo_k273_X1_matchDistance : List Cond := [Cond.fieldLink RX1 119 "WarpDesk$Finder" "matches" "I", Cond.fieldLink RX1 21 "WarpDesk$Finder" "matchDistances" "[I"]
def wz_k273_X1_matchDistance : List Cond := .code yX1_matchDistance cX1_matchDistance 2 (some .int) :: (wo_k273_X1_matchDistance ++ (wsX10 ++ ([] : List Cond)))
theorem zg_k273_X1_matchDistance : ∀ w ∈ wz_k273_X1_matchDistance, goodWord w = true := zg_cons rfl (zg_app (by decide +kernel) (zg_app zgU_wsX10 zg_nil))
theorem zi_k273_X1_matchDistance : ∀ w ∈ wz_k273_X1_matchDistance, w ∈ lw_tbl := zi_cons zw_1171 (zi_app (zi_cons zw_414 (zi_cons zw_413 zi_nil)) (zi_app inX1 zi_nil))
set_option maxHeartbeats 4000000 in
set_option maxRecDepth 100000 in
theorem k273_X1_matchDistance (l : Launch) (D : va_G) (zt : Nat × Nat × Nat × (Nat → Nat) × (Nat → Nat)) (q : Nat → Nat) (d : Nat → ClassId) (I : Nat → Int32) (A : Nat → Nat → Int32) (z1 : Int32) (hIv : IvX I A) : GM l D zt (tyX d) yX1_matchDistance wz_k273_X1_matchDistance ({ frames := 0, cells := 0, slots := 0, locals := 0 } : Room) [.ref (q 43), .int z1] (wX q d I A) (fun v _ w' => ∃ y0 : Int32, v = some (.int y0) ∧ w' = wX q d I A) 0 0 := by
  refine GM.of (cc := cX1_matchDistance) (maxL := 2) (ret := (some .int)) (own := RX1) (lv := [(0, .ref (q 43)), (1, .int z1)]) (by decide) rfl rfl (Nat.le_of_ble_eq_true rfl) rfl (fun κ sz hk hR hN => ?_)
  have hin1 : ∀ w ∈ u_ws RX1 TX1 11, w ∈ wz_k273_X1_matchDistance := fun w h => (List.mem_cons_of_mem _ (List.mem_append_right _ (List.mem_append_left _ h)))
  refine g_iload_n hk dX1_matchDistance_0 rfl ?_
  have b6968l := Int32.le_toInt z1
  have b6968h := Int32.toInt_lt z1
  refine g_if_lt (tgt := 28) (a := z1.toInt) hk dX1_matchDistance_1 (by decide) rfl (fun c6969 => ?_) (fun c6969 => ?_)
  · skip
    refine g_bipush (v := (-2)) hk dX1_matchDistance_28 (by decide) ?_
    exact g_iret hk hR rfl ⟨(-2), rfl, rfl⟩ dX1_matchDistance_30
  · skip
    refine g_iload_n hk dX1_matchDistance_4 rfl ?_
    refine g_aload_n hk dX1_matchDistance_5 rfl ?_
    refine gX_i37 (v := (I 37)) hk hin1 (List.mem_cons_of_mem _ (List.mem_append_left _ (List.mem_of_getElem? (i := 0) rfl))) dX1_matchDistance_6 rfl ?_
    have b6970l := Int32.le_toInt (I 37)
    have b6970h := Int32.toInt_lt (I 37)
    refine g_icmp_ge (tgt := 28) (a := z1.toInt) (b := (I 37).toInt) hk dX1_matchDistance_9 (by decide) rfl rfl (fun c6971 => ?_) (fun c6971 => ?_)
    · skip
      refine g_bipush (v := (-2)) hk dX1_matchDistance_28 (by decide) ?_
      exact g_iret hk hR rfl ⟨(-2), rfl, rfl⟩ dX1_matchDistance_30
    · skip
      refine g_iload_n hk dX1_matchDistance_12 rfl ?_
      refine g_sipush (v := 160) hk dX1_matchDistance_13 (by decide) ?_
      refine g_icmp_ge (tgt := 28) (a := z1.toInt) (b := 160) hk dX1_matchDistance_16 (by decide) rfl rfl (fun c6972 => ?_) (fun c6972 => ?_)
      · skip
        refine g_bipush (v := (-2)) hk dX1_matchDistance_28 (by decide) ?_
        exact g_iret hk hR rfl ⟨(-2), rfl, rfl⟩ dX1_matchDistance_30
      · skip
        refine g_aload_n hk dX1_matchDistance_19 rfl ?_
        refine gX_r43_8 hk hin1 (List.mem_cons_of_mem _ (List.mem_append_left _ (List.mem_of_getElem? (i := 1) rfl))) dX1_matchDistance_20 ?_
        refine g_iload_n hk dX1_matchDistance_23 rfl ?_
        refine lX_28 (v := (A 28 z1.toNatClampNeg)) hk (vp_in_iff.mpr ⟨by omega, by omega⟩) rfl dX1_matchDistance_24 ?_
        refine g_goto (tgt := 30) hk dX1_matchDistance_25 (by decide) ?_
        have b6973l := Int32.le_toInt (A 28 z1.toNatClampNeg)
        have b6973h := Int32.toInt_lt (A 28 z1.toNatClampNeg)
        exact g_iret hk hR rfl ⟨(A 28 z1.toNatClampNeg), rfl, rfl⟩ dX1_matchDistance_30
def wo_k274_X1_matchWindow : List Cond := [Cond.fieldLink RX1 119 "WarpDesk$Finder" "matches" "I", Cond.fieldLink RX1 18 "WarpDesk$Finder" "matchWindows" "[I"]
def wz_k274_X1_matchWindow : List Cond := .code yX1_matchWindow cX1_matchWindow 2 (some .int) :: (wo_k274_X1_matchWindow ++ (wsX10 ++ ([] : List Cond)))
theorem zg_k274_X1_matchWindow : ∀ w ∈ wz_k274_X1_matchWindow, goodWord w = true := zg_cons rfl (zg_app (by decide +kernel) (zg_app zgU_wsX10 zg_nil))
theorem zi_k274_X1_matchWindow : ∀ w ∈ wz_k274_X1_matchWindow, w ∈ lw_tbl := zi_cons zw_1167 (zi_app (zi_cons zw_414 (zi_cons zw_412 zi_nil)) (zi_app inX1 zi_nil))
set_option maxHeartbeats 4000000 in
set_option maxRecDepth 100000 in
theorem k274_X1_matchWindow (l : Launch) (D : va_G) (zt : Nat × Nat × Nat × (Nat → Nat) × (Nat → Nat)) (q : Nat → Nat) (d : Nat → ClassId) (I : Nat → Int32) (A : Nat → Nat → Int32) (z1 : Int32) (hIv : IvX I A) : GM l D zt (tyX d) yX1_matchWindow wz_k274_X1_matchWindow ({ frames := 0, cells := 0, slots := 0, locals := 0 } : Room) [.ref (q 43), .int z1] (wX q d I A) (fun v _ w' => ∃ y0 : Int32, v = some (.int y0) ∧ w' = wX q d I A) 0 0 := by
  refine GM.of (cc := cX1_matchWindow) (maxL := 2) (ret := (some .int)) (own := RX1) (lv := [(0, .ref (q 43)), (1, .int z1)]) (by decide) rfl rfl (Nat.le_of_ble_eq_true rfl) rfl (fun κ sz hk hR hN => ?_)
  have hin1 : ∀ w ∈ u_ws RX1 TX1 11, w ∈ wz_k274_X1_matchWindow := fun w h => (List.mem_cons_of_mem _ (List.mem_append_right _ (List.mem_append_left _ h)))
  refine g_iload_n hk dX1_matchWindow_0 rfl ?_
  have b6976l := Int32.le_toInt z1
  have b6976h := Int32.toInt_lt z1
  refine g_if_lt (tgt := 28) (a := z1.toInt) hk dX1_matchWindow_1 (by decide) rfl (fun c6977 => ?_) (fun c6977 => ?_)
  · skip
    refine g_bipush (v := (-2)) hk dX1_matchWindow_28 (by decide) ?_
    exact g_iret hk hR rfl ⟨(-2), rfl, rfl⟩ dX1_matchWindow_30
  · skip
    refine g_iload_n hk dX1_matchWindow_4 rfl ?_
    refine g_aload_n hk dX1_matchWindow_5 rfl ?_
    refine gX_i37 (v := (I 37)) hk hin1 (List.mem_cons_of_mem _ (List.mem_append_left _ (List.mem_of_getElem? (i := 0) rfl))) dX1_matchWindow_6 rfl ?_
    have b6978l := Int32.le_toInt (I 37)
    have b6978h := Int32.toInt_lt (I 37)
    refine g_icmp_ge (tgt := 28) (a := z1.toInt) (b := (I 37).toInt) hk dX1_matchWindow_9 (by decide) rfl rfl (fun c6979 => ?_) (fun c6979 => ?_)
    · skip
      refine g_bipush (v := (-2)) hk dX1_matchWindow_28 (by decide) ?_
      exact g_iret hk hR rfl ⟨(-2), rfl, rfl⟩ dX1_matchWindow_30
    · skip
      refine g_iload_n hk dX1_matchWindow_12 rfl ?_
      refine g_sipush (v := 160) hk dX1_matchWindow_13 (by decide) ?_
      refine g_icmp_ge (tgt := 28) (a := z1.toInt) (b := 160) hk dX1_matchWindow_16 (by decide) rfl rfl (fun c6980 => ?_) (fun c6980 => ?_)
      · skip
        refine g_bipush (v := (-2)) hk dX1_matchWindow_28 (by decide) ?_
        exact g_iret hk hR rfl ⟨(-2), rfl, rfl⟩ dX1_matchWindow_30
      · skip
        refine g_aload_n hk dX1_matchWindow_19 rfl ?_
        refine gX_r43_7 hk hin1 (List.mem_cons_of_mem _ (List.mem_append_left _ (List.mem_of_getElem? (i := 1) rfl))) dX1_matchWindow_20 ?_
        refine g_iload_n hk dX1_matchWindow_23 rfl ?_
        refine lX_27 (v := (A 27 z1.toNatClampNeg)) hk (vp_in_iff.mpr ⟨by omega, by omega⟩) rfl dX1_matchWindow_24 ?_
        refine g_goto (tgt := 30) hk dX1_matchWindow_25 (by decide) ?_
        have b6981l := Int32.le_toInt (A 27 z1.toNatClampNeg)
        have b6981h := Int32.toInt_lt (A 27 z1.toNatClampNeg)
        exact g_iret hk hR rfl ⟨(A 27 z1.toNatClampNeg), rfl, rfl⟩ dX1_matchWindow_30
def wo_k268_X11_match : List Cond := [Cond.fieldLink RX11 35 "WarpDesk" "queries" "LWarpDesk$Queries;", Cond.methodLink RX11 251 yX4_has, Cond.instanceMethod yX4_has, Cond.selects RX4 yX4_has yX4_has, Cond.initialized RX4, Cond.fieldLink RX11 74 "WarpDesk" "finder" "LWarpDesk$Finder;", Cond.methodLink RX11 284 yX1_findMatches, Cond.instanceMethod yX1_findMatches, Cond.selects RX1 yX1_findMatches yX1_findMatches, Cond.initialized RX1, Cond.methodLink RX11 290 yX1_matchDistance, Cond.instanceMethod yX1_matchDistance, Cond.selects RX1 yX1_matchDistance yX1_matchDistance, Cond.methodLink RX11 287 yX1_matchWindow, Cond.instanceMethod yX1_matchWindow, Cond.selects RX1 yX1_matchWindow yX1_matchWindow]
def wz_k268_X11_match : List Cond := .code yX11_match cX11_match 4 (some .int) :: (wo_k268_X11_match ++ (wsX110 ++ (wz_k168_X4_has ++ (wz_k269_X1_findMatches ++ (wz_k273_X1_matchDistance ++ (wz_k274_X1_matchWindow ++ ([] : List Cond)))))))
theorem zg_k268_X11_match : ∀ w ∈ wz_k268_X11_match, goodWord w = true := zg_cons rfl (zg_app (by decide +kernel) (zg_app zgU_wsX110 (zg_app zg_k168_X4_has (zg_app zg_k269_X1_findMatches (zg_app zg_k273_X1_matchDistance (zg_app zg_k274_X1_matchWindow zg_nil))))))
theorem zi_k268_X11_match : ∀ w ∈ wz_k268_X11_match, w ∈ lw_tbl := zi_cons zw_1146 (zi_app (zi_cons zw_490 (zi_cons zw_1086 (zi_cons zw_747 (zi_cons zw_748 (zi_cons zw_108 (zi_cons zw_495 (zi_cons zw_1147 (zi_cons zw_1148 (zi_cons zw_1149 (zi_cons zw_113 (zi_cons zw_1168 (zi_cons zw_1169 (zi_cons zw_1170 (zi_cons zw_1164 (zi_cons zw_1165 (zi_cons zw_1166 zi_nil)))))))))))))))) (zi_app inX11 (zi_app zi_k168_X4_has (zi_app zi_k269_X1_findMatches (zi_app zi_k273_X1_matchDistance (zi_app zi_k274_X1_matchWindow zi_nil))))))
set_option maxHeartbeats 4000000 in
set_option maxRecDepth 100000 in
theorem k268_X11_match (l : Launch) (D : va_G) (zt : Nat × Nat × Nat × (Nat → Nat) × (Nat → Nat)) (q : Nat → Nat) (d : Nat → ClassId) (I : Nat → Int32) (A : Nat → Nat → Int32) (z1 : Int32) (z2 : Int32) (z3 : Int32) (hIv : IvX I A) : GM l D zt (tyX d) yX11_match wz_k268_X11_match ({ frames := 7, cells := 0, slots := 0, locals := 154 } : Room) [.ref (q 0), .int z1, .int z2, .int z3] (wX q d I A) (fun v _ w' => ∃ (I' : Nat → Int32) (A' : Nat → Nat → Int32), Md [28, 30, 31, 32, 33, 34, 37] I I' ∧ Md [21, 22, 23, 26, 27, 28] A A' ∧ IvX I' A' ∧ ∃ y0 : Int32, v = some (.int y0) ∧ w' = wX q d I' A') 0 0 := by
  refine GM.of (cc := cX11_match) (maxL := 4) (ret := (some .int)) (own := RX11) (lv := [(0, .ref (q 0)), (1, .int z1), (2, .int z2), (3, .int z3)]) (by decide) rfl rfl (Nat.le_of_ble_eq_true rfl) rfl (fun κ sz hk hR hN => ?_)
  have hin11 : ∀ w ∈ u_ws RX11 TX11 10, w ∈ wz_k268_X11_match := fun w h => (List.mem_cons_of_mem _ (List.mem_append_right _ (List.mem_append_left _ h)))
  refine g_iload_n hk dX11_match_0 rfl ?_
  have b6547l := Int32.le_toInt z2
  have b6547h := Int32.toInt_lt z2
  refine g_if_lt (tgt := 24) (a := z2.toInt) hk dX11_match_1 (by decide) rfl (fun c6548 => ?_) (fun c6548 => ?_)
  · skip
    refine g_iconst (v := (-1)) hk dX11_match_24 (by decide) ?_
    exact g_iret hk hR rfl ⟨I, A, (show Md [28, 30, 31, 32, 33, 34, 37] I I from Md.rf), (show Md [21, 22, 23, 26, 27, 28] A A from Md.rf), hIv, (-1), rfl, rfl⟩ dX11_match_25
  · skip
    refine g_iload_n hk dX11_match_4 rfl ?_
    have b6549l := Int32.le_toInt z3
    have b6549h := Int32.toInt_lt z3
    refine g_if_lt (tgt := 24) (a := z3.toInt) hk dX11_match_5 (by decide) rfl (fun c6550 => ?_) (fun c6550 => ?_)
    · skip
      refine g_iconst (v := (-1)) hk dX11_match_24 (by decide) ?_
      exact g_iret hk hR rfl ⟨I, A, (show Md [28, 30, 31, 32, 33, 34, 37] I I from Md.rf), (show Md [21, 22, 23, 26, 27, 28] A A from Md.rf), hIv, (-1), rfl, rfl⟩ dX11_match_25
    · skip
      refine g_iload_n hk dX11_match_8 rfl ?_
      refine g_iconst (v := 1) hk dX11_match_9 (by decide) ?_
      refine g_icmp_gt (tgt := 24) (a := z3.toInt) (b := 1) hk dX11_match_10 (by decide) rfl rfl (fun c6551 => ?_) (fun c6551 => ?_)
      · skip
        refine g_iconst (v := (-1)) hk dX11_match_24 (by decide) ?_
        exact g_iret hk hR rfl ⟨I, A, (show Md [28, 30, 31, 32, 33, 34, 37] I I from Md.rf), (show Md [21, 22, 23, 26, 27, 28] A A from Md.rf), hIv, (-1), rfl, rfl⟩ dX11_match_25
      · skip
        refine g_aload_n hk dX11_match_13 rfl ?_
        refine gX_r0_3 hk hin11 (List.mem_cons_of_mem _ (List.mem_append_left _ (List.mem_of_getElem? (i := 0) rfl))) dX11_match_14 ?_
        refine g_iload_n hk dX11_match_17 rfl ?_
        refine g_callV (n := 1) hk (k168_X4_has l D zt q d I A z1 hIv) (SP.same _) (fun _ h => h) (gi_V (List.mem_cons_of_mem _ (List.mem_append_left _ (List.mem_of_getElem? (i := 1) rfl))) (List.mem_cons_of_mem _ (List.mem_append_left _ (List.mem_of_getElem? (i := 2) rfl))) (List.mem_cons_of_mem _ (List.mem_append_left _ (List.mem_of_getElem? (i := 3) rfl))) (List.mem_cons_of_mem _ (List.mem_append_left _ (List.mem_of_getElem? (i := 4) rfl))) (gi_sub (fun w h => (List.mem_cons_of_mem _ (List.mem_append_right _ (List.mem_append_right _ (List.mem_append_left _ h))))) zg_k168_X4_has)) rfl rfl rfl (by decide +kernel) ⟨Nat.le_of_ble_eq_true rfl, Nat.le_of_ble_eq_true rfl⟩ 15 rfl rfl rfl rfl (Nat.le_of_ble_eq_true rfl) ⟨Nat.le_of_ble_eq_true rfl, Nat.le_of_ble_eq_true rfl⟩ dX11_match_18 (fun v ty' w' hp hk' => ?_)
        rcases hp with ⟨rfl, rfl⟩ | ⟨c6553, c6554, c6555, c6556, rfl, rfl⟩
        · skip
          show GW κ 4 0 0 (wX q d I A) 21 [(0, .ref (q 0)), (1, .int z1), (2, .int z2), (3, .int z3)] [.int 0]
          refine g_if_ne (tgt := 26) (a := 0) hk dX11_match_21 (by decide) rfl (fun z9 => absurd z9 (show ¬ ((0 : Int) ≠ (0 : Int)) from by decide)) (fun _ => ?_)
          refine g_iconst (v := (-1)) hk dX11_match_24 (by decide) ?_
          exact g_iret hk hR rfl ⟨I, A, (show Md [28, 30, 31, 32, 33, 34, 37] I I from Md.rf), (show Md [21, 22, 23, 26, 27, 28] A A from Md.rf), hIv, (-1), rfl, rfl⟩ dX11_match_25
        · skip
          show GW κ 4 0 0 (wX q d I A) 21 [(0, .ref (q 0)), (1, .int z1), (2, .int z2), (3, .int z3)] [.int 1]
          refine g_if_ne (tgt := 26) (a := 1) hk dX11_match_21 (by decide) rfl (fun _ => ?_) (fun z9 => absurd (show (1 : Int) ≠ (0 : Int) from by decide) z9)
          refine g_aload_n hk dX11_match_26 rfl ?_
          refine gX_r0_8 hk hin11 (List.mem_cons_of_mem _ (List.mem_append_left _ (List.mem_of_getElem? (i := 5) rfl))) dX11_match_27 ?_
          refine g_iload_n hk dX11_match_30 rfl ?_
          refine g_callV (n := 1) hk (k269_X1_findMatches l D zt q d I A z1 hIv) (SP.same _) (fun _ h => h) (gi_V (List.mem_cons_of_mem _ (List.mem_append_left _ (List.mem_of_getElem? (i := 6) rfl))) (List.mem_cons_of_mem _ (List.mem_append_left _ (List.mem_of_getElem? (i := 7) rfl))) (List.mem_cons_of_mem _ (List.mem_append_left _ (List.mem_of_getElem? (i := 8) rfl))) (List.mem_cons_of_mem _ (List.mem_append_left _ (List.mem_of_getElem? (i := 9) rfl))) (gi_sub (fun w h => (List.mem_cons_of_mem _ (List.mem_append_right _ (List.mem_append_right _ (List.mem_append_right _ (List.mem_append_left _ h)))))) zg_k269_X1_findMatches)) rfl rfl rfl (by decide +kernel) ⟨Nat.le_of_ble_eq_true rfl, Nat.le_of_ble_eq_true rfl⟩ 43 rfl rfl rfl rfl (Nat.le_of_ble_eq_true rfl) ⟨Nat.le_of_ble_eq_true rfl, Nat.le_of_ble_eq_true rfl⟩ dX11_match_31 (fun v ty' w' hp hk' => ?_)
          obtain ⟨I6966, A6966, hI6966, hA6966, hV6966, rfl, rfl⟩ := hp
          show GW κ 4 0 0 (wX q d I6966 A6966) 34 [(0, .ref (q 0)), (1, .int z1), (2, .int z2), (3, .int z3)] []
          refine g_iload_n hk dX11_match_34 rfl ?_
          refine g_if_ne (tgt := 49) (a := z3.toInt) hk dX11_match_35 (by decide) rfl (fun c6967 => ?_) (fun c6967 => ?_)
          · skip
            refine g_aload_n hk dX11_match_49 rfl ?_
            refine gX_r0_8 hk hin11 (List.mem_cons_of_mem _ (List.mem_append_left _ (List.mem_of_getElem? (i := 5) rfl))) dX11_match_50 ?_
            refine g_iload_n hk dX11_match_53 rfl ?_
            refine g_callV (n := 1) hk (k273_X1_matchDistance l D zt q d I6966 A6966 z2 hV6966) (SP.same _) (fun _ h => h) (gi_V (List.mem_cons_of_mem _ (List.mem_append_left _ (List.mem_of_getElem? (i := 10) rfl))) (List.mem_cons_of_mem _ (List.mem_append_left _ (List.mem_of_getElem? (i := 11) rfl))) (List.mem_cons_of_mem _ (List.mem_append_left _ (List.mem_of_getElem? (i := 12) rfl))) (List.mem_cons_of_mem _ (List.mem_append_left _ (List.mem_of_getElem? (i := 9) rfl))) (gi_sub (fun w h => (List.mem_cons_of_mem _ (List.mem_append_right _ (List.mem_append_right _ (List.mem_append_right _ (List.mem_append_right _ (List.mem_append_left _ h))))))) zg_k273_X1_matchDistance)) rfl rfl rfl (by decide +kernel) ⟨Nat.le_of_ble_eq_true rfl, Nat.le_of_ble_eq_true rfl⟩ 43 rfl rfl rfl rfl (Nat.le_of_ble_eq_true rfl) ⟨Nat.le_of_ble_eq_true rfl, Nat.le_of_ble_eq_true rfl⟩ dX11_match_54 (fun v ty' w' hp hk' => ?_)
            obtain ⟨y6974, rfl, rfl⟩ := hp
            show GW κ 4 0 0 (wX q d I6966 A6966) 57 [(0, .ref (q 0)), (1, .int z1), (2, .int z2), (3, .int z3)] [.int y6974]
            have b6975l := Int32.le_toInt y6974
            have b6975h := Int32.toInt_lt y6974
            exact g_iret hk hR rfl ⟨I6966, A6966, (show Md [28, 30, 31, 32, 33, 34, 37] I I6966 from (Md.tr Md.rf hI6966 rfl)), (show Md [21, 22, 23, 26, 27, 28] A A6966 from (Md.tr Md.rf hA6966 rfl)), hV6966, y6974, rfl, rfl⟩ dX11_match_57
          · skip
            refine g_aload_n hk dX11_match_38 rfl ?_
            refine gX_r0_8 hk hin11 (List.mem_cons_of_mem _ (List.mem_append_left _ (List.mem_of_getElem? (i := 5) rfl))) dX11_match_39 ?_
            refine g_iload_n hk dX11_match_42 rfl ?_
            refine g_callV (n := 1) hk (k274_X1_matchWindow l D zt q d I6966 A6966 z2 hV6966) (SP.same _) (fun _ h => h) (gi_V (List.mem_cons_of_mem _ (List.mem_append_left _ (List.mem_of_getElem? (i := 13) rfl))) (List.mem_cons_of_mem _ (List.mem_append_left _ (List.mem_of_getElem? (i := 14) rfl))) (List.mem_cons_of_mem _ (List.mem_append_left _ (List.mem_of_getElem? (i := 15) rfl))) (List.mem_cons_of_mem _ (List.mem_append_left _ (List.mem_of_getElem? (i := 9) rfl))) (gi_sub (fun w h => (List.mem_cons_of_mem _ (List.mem_append_right _ (List.mem_append_right _ (List.mem_append_right _ (List.mem_append_right _ (List.mem_append_right _ (List.mem_append_left _ h)))))))) zg_k274_X1_matchWindow)) rfl rfl rfl (by decide +kernel) ⟨Nat.le_of_ble_eq_true rfl, Nat.le_of_ble_eq_true rfl⟩ 43 rfl rfl rfl rfl (Nat.le_of_ble_eq_true rfl) ⟨Nat.le_of_ble_eq_true rfl, Nat.le_of_ble_eq_true rfl⟩ dX11_match_43 (fun v ty' w' hp hk' => ?_)
            obtain ⟨y6982, rfl, rfl⟩ := hp
            show GW κ 4 0 0 (wX q d I6966 A6966) 46 [(0, .ref (q 0)), (1, .int z1), (2, .int z2), (3, .int z3)] [.int y6982]
            refine g_goto (tgt := 57) hk dX11_match_46 (by decide) ?_
            have b6983l := Int32.le_toInt y6982
            have b6983h := Int32.toInt_lt y6982
            exact g_iret hk hR rfl ⟨I6966, A6966, (show Md [28, 30, 31, 32, 33, 34, 37] I I6966 from (Md.tr Md.rf hI6966 rfl)), (show Md [21, 22, 23, 26, 27, 28] A A6966 from (Md.tr Md.rf hA6966 rfl)), hV6966, y6982, rfl, rfl⟩ dX11_match_57
def wo_k276_X1_matchesWithin : List Cond := [Cond.fieldLink RX1 119 "WarpDesk$Finder" "matches" "I", Cond.methodLink RX1 133 yX1_matchDistance, Cond.instanceMethod yX1_matchDistance, Cond.selects RX1 yX1_matchDistance yX1_matchDistance, Cond.initialized RX1]
def wz_k276_X1_matchesWithin : List Cond := .code yX1_matchesWithin cX1_matchesWithin 4 (some .int) :: (wo_k276_X1_matchesWithin ++ (wsX10 ++ (wz_k273_X1_matchDistance ++ ([] : List Cond))))
theorem zg_k276_X1_matchesWithin : ∀ w ∈ wz_k276_X1_matchesWithin, goodWord w = true := zg_cons rfl (zg_app (by decide +kernel) (zg_app zgU_wsX10 (zg_app zg_k273_X1_matchDistance zg_nil)))
theorem zi_k276_X1_matchesWithin : ∀ w ∈ wz_k276_X1_matchesWithin, w ∈ lw_tbl := zi_cons zw_1179 (zi_app (zi_cons zw_414 (zi_cons zw_1180 (zi_cons zw_1169 (zi_cons zw_1170 (zi_cons zw_113 zi_nil))))) (zi_app inX1 (zi_app zi_k273_X1_matchDistance zi_nil)))
set_option maxHeartbeats 4000000 in
set_option maxRecDepth 100000 in
theorem k276_X1_matchesWithin (l : Launch) (D : va_G) (zt : Nat × Nat × Nat × (Nat → Nat) × (Nat → Nat)) (q : Nat → Nat) (d : Nat → ClassId) (I : Nat → Int32) (A : Nat → Nat → Int32) (z1 : Int32) (hIv : IvX I A) : GM l D zt (tyX d) yX1_matchesWithin wz_k276_X1_matchesWithin ({ frames := 1, cells := 0, slots := 0, locals := 21 } : Room) [.ref (q 43), .int z1] (wX q d I A) (fun v _ w' => ∃ y0 : Int32, v = some (.int y0) ∧ w' = wX q d I A) 0 0 := by
  refine GM.of (cc := cX1_matchesWithin) (maxL := 4) (ret := (some .int)) (own := RX1) (lv := [(0, .ref (q 43)), (1, .int z1)]) (by decide) rfl rfl (Nat.le_of_ble_eq_true rfl) rfl (fun κ sz hk hR hN => ?_)
  have hin1 : ∀ w ∈ u_ws RX1 TX1 11, w ∈ wz_k276_X1_matchesWithin := fun w h => (List.mem_cons_of_mem _ (List.mem_append_right _ (List.mem_append_left _ h)))
  refine g_iconst (v := 0) hk dX1_matchesWithin_0 (by decide) ?_
  refine g_istore_n (lv' := [(2, .int 0), (0, .ref (q 43)), (1, .int z1)]) hk dX1_matchesWithin_1 (by decide) rfl ?_
  refine g_iconst (v := 0) hk dX1_matchesWithin_2 (by decide) ?_
  refine g_istore_n (lv' := [(3, .int 0), (2, .int 0), (0, .ref (q 43)), (1, .int z1)]) hk dX1_matchesWithin_3 (by decide) rfl ?_
  have lp7038 : ∀ (n7039 : Nat) (x6994 : Int32) (x6995 : Int32), (0 ≤ x6994.toInt) → ((I 37).toInt + 1 - x6994.toInt < (n7039 : Int)) → (0 < n7039) → GW κ 4 0 0 (wX q d I A) 4 [(3, .int x6994), (2, .int x6995), (0, .ref (q 43)), (1, .int z1)] [] := by
    intro n7039
    induction n7039 with
    | zero =>
      intro x6994 x6995 h7037 m7040 m7040z
      exact absurd m7040z (Nat.lt_irrefl 0)
    | succ n7039 ih7041 =>
      intro x6994 x6995 h7037 m7040 m7040z
      refine g_iload_n hk dX1_matchesWithin_4 rfl ?_
      refine g_aload_n hk dX1_matchesWithin_5 rfl ?_
      refine gX_i37 (v := (I 37)) hk hin1 (List.mem_cons_of_mem _ (List.mem_append_left _ (List.mem_of_getElem? (i := 0) rfl))) dX1_matchesWithin_6 rfl ?_
      have b7042l := Int32.le_toInt x6994
      have b7042h := Int32.toInt_lt x6994
      have b7043l := Int32.le_toInt (I 37)
      have b7043h := Int32.toInt_lt (I 37)
      refine g_icmp_ge (tgt := 30) (a := x6994.toInt) (b := (I 37).toInt) hk dX1_matchesWithin_9 (by decide) rfl rfl (fun c7044 => ?_) (fun c7044 => ?_)
      · skip
        refine g_iload_n hk dX1_matchesWithin_30 rfl ?_
        have b7045l := Int32.le_toInt x6995
        have b7045h := Int32.toInt_lt x6995
        exact g_iret hk hR rfl ⟨x6995, rfl, rfl⟩ dX1_matchesWithin_31
      · skip
        refine g_aload_n hk dX1_matchesWithin_12 rfl ?_
        refine g_iload_n hk dX1_matchesWithin_13 rfl ?_
        refine g_callV (n := 1) hk (k273_X1_matchDistance l D zt q d I A x6994 hIv) (SP.same _) (fun _ h => h) (gi_V (List.mem_cons_of_mem _ (List.mem_append_left _ (List.mem_of_getElem? (i := 1) rfl))) (List.mem_cons_of_mem _ (List.mem_append_left _ (List.mem_of_getElem? (i := 2) rfl))) (List.mem_cons_of_mem _ (List.mem_append_left _ (List.mem_of_getElem? (i := 3) rfl))) (List.mem_cons_of_mem _ (List.mem_append_left _ (List.mem_of_getElem? (i := 4) rfl))) (gi_sub (fun w h => (List.mem_cons_of_mem _ (List.mem_append_right _ (List.mem_append_right _ (List.mem_append_left _ h))))) zg_k273_X1_matchDistance)) rfl rfl rfl (by decide +kernel) ⟨Nat.le_of_ble_eq_true rfl, Nat.le_of_ble_eq_true rfl⟩ 43 rfl rfl rfl rfl (Nat.le_of_ble_eq_true rfl) ⟨Nat.le_of_ble_eq_true rfl, Nat.le_of_ble_eq_true rfl⟩ dX1_matchesWithin_14 (fun v ty' w' hp hk' => ?_)
        obtain ⟨y7046, rfl, rfl⟩ := hp
        show GW κ 4 0 0 (wX q d I A) 17 [(3, .int x6994), (2, .int x6995), (0, .ref (q 43)), (1, .int z1)] [.int y7046]
        refine g_iload_n hk dX1_matchesWithin_17 rfl ?_
        have b7047l := Int32.le_toInt y7046
        have b7047h := Int32.toInt_lt y7046
        have b7048l := Int32.le_toInt z1
        have b7048h := Int32.toInt_lt z1
        refine g_icmp_gt (tgt := 24) (a := y7046.toInt) (b := z1.toInt) hk dX1_matchesWithin_18 (by decide) rfl rfl (fun c7049 => ?_) (fun c7049 => ?_)
        · skip
          obtain ⟨y7050, ey7050⟩ : ∃ y : Int32, y = x6994 + Int32.ofInt 1 := ⟨_, rfl⟩
          have hy7050 : y7050.toInt = x6994.toInt + 1 := i32_add ey7050 rfl (by decide) (by omega) (by omega)
          refine g_iinc (v := y7050) (lv' := [(3, .int y7050), (2, .int x6995), (0, .ref (q 43)), (1, .int z1)]) hk 0 dX1_matchesWithin_24 rfl ey7050.symm (by decide) rfl ?_
          refine g_goto (tgt := 4) hk dX1_matchesWithin_27 (by decide) ?_
          exact g_lv (List.forall_mem_cons.mpr ⟨List.mem_of_getElem? (i := 0) rfl, (List.forall_mem_cons.mpr ⟨List.mem_of_getElem? (i := 1) rfl, (List.forall_mem_cons.mpr ⟨List.mem_of_getElem? (i := 2) rfl, (List.forall_mem_cons.mpr ⟨List.mem_of_getElem? (i := 3) rfl, (fun _ h => absurd h List.not_mem_nil)⟩)⟩)⟩)⟩) (ih7041 y7050 x6995 (by omega) (by omega) (by omega))
        · skip
          have b7051l := Int32.le_toInt x6995
          have b7051h := Int32.toInt_lt x6995
          obtain ⟨y7052, ey7052⟩ : ∃ y : Int32, y = x6995 + Int32.ofInt 1 := ⟨_, rfl⟩
          refine g_iinc (v := y7052) (lv' := [(2, .int y7052), (3, .int x6994), (0, .ref (q 43)), (1, .int z1)]) hk 1 dX1_matchesWithin_21 rfl ey7052.symm (by decide) rfl ?_
          obtain ⟨y7053, ey7053⟩ : ∃ y : Int32, y = x6994 + Int32.ofInt 1 := ⟨_, rfl⟩
          have hy7053 : y7053.toInt = x6994.toInt + 1 := i32_add ey7053 rfl (by decide) (by omega) (by omega)
          refine g_iinc (v := y7053) (lv' := [(3, .int y7053), (2, .int y7052), (0, .ref (q 43)), (1, .int z1)]) hk 1 dX1_matchesWithin_24 rfl ey7053.symm (by decide) rfl ?_
          refine g_goto (tgt := 4) hk dX1_matchesWithin_27 (by decide) ?_
          exact g_lv (List.forall_mem_cons.mpr ⟨List.mem_of_getElem? (i := 0) rfl, (List.forall_mem_cons.mpr ⟨List.mem_of_getElem? (i := 1) rfl, (List.forall_mem_cons.mpr ⟨List.mem_of_getElem? (i := 2) rfl, (List.forall_mem_cons.mpr ⟨List.mem_of_getElem? (i := 3) rfl, (fun _ h => absurd h List.not_mem_nil)⟩)⟩)⟩)⟩) (ih7041 y7053 y7052 (by omega) (by omega) (by omega))
  have k7055 : (0 : Int32).toInt = 0 := rfl
  obtain ⟨n7054, n7054a, n7054b⟩ : ∃ n : Nat, (I 37).toInt + 1 - 0 < (n : Int) ∧ 0 < n := ⟨(((I 37).toInt + 1 - 0 : Int)).toNat + 1, by omega, by omega⟩
  exact lp7038 n7054 0 0 (by omega) n7054a n7054b
def wo_k275_X11_within : List Cond := [Cond.fieldLink RX11 35 "WarpDesk" "queries" "LWarpDesk$Queries;", Cond.methodLink RX11 251 yX4_has, Cond.instanceMethod yX4_has, Cond.selects RX4 yX4_has yX4_has, Cond.initialized RX4, Cond.fieldLink RX11 74 "WarpDesk" "finder" "LWarpDesk$Finder;", Cond.methodLink RX11 284 yX1_findMatches, Cond.instanceMethod yX1_findMatches, Cond.selects RX1 yX1_findMatches yX1_findMatches, Cond.initialized RX1, Cond.methodLink RX11 293 yX1_matchesWithin, Cond.instanceMethod yX1_matchesWithin, Cond.selects RX1 yX1_matchesWithin yX1_matchesWithin]
def wz_k275_X11_within : List Cond := .code yX11_within cX11_within 3 (some .int) :: (wo_k275_X11_within ++ (wsX110 ++ (wz_k168_X4_has ++ (wz_k269_X1_findMatches ++ (wz_k276_X1_matchesWithin ++ ([] : List Cond))))))
theorem zg_k275_X11_within : ∀ w ∈ wz_k275_X11_within, goodWord w = true := zg_cons rfl (zg_app (by decide +kernel) (zg_app zgU_wsX110 (zg_app zg_k168_X4_has (zg_app zg_k269_X1_findMatches (zg_app zg_k276_X1_matchesWithin zg_nil)))))
theorem zi_k275_X11_within : ∀ w ∈ wz_k275_X11_within, w ∈ lw_tbl := zi_cons zw_1175 (zi_app (zi_cons zw_490 (zi_cons zw_1086 (zi_cons zw_747 (zi_cons zw_748 (zi_cons zw_108 (zi_cons zw_495 (zi_cons zw_1147 (zi_cons zw_1148 (zi_cons zw_1149 (zi_cons zw_113 (zi_cons zw_1176 (zi_cons zw_1177 (zi_cons zw_1178 zi_nil))))))))))))) (zi_app inX11 (zi_app zi_k168_X4_has (zi_app zi_k269_X1_findMatches (zi_app zi_k276_X1_matchesWithin zi_nil)))))
set_option maxHeartbeats 4000000 in
set_option maxRecDepth 100000 in
theorem k275_X11_within (l : Launch) (D : va_G) (zt : Nat × Nat × Nat × (Nat → Nat) × (Nat → Nat)) (q : Nat → Nat) (d : Nat → ClassId) (I : Nat → Int32) (A : Nat → Nat → Int32) (z1 : Int32) (z2 : Int32) (hIv : IvX I A) : GM l D zt (tyX d) yX11_within wz_k275_X11_within ({ frames := 7, cells := 0, slots := 0, locals := 154 } : Room) [.ref (q 0), .int z1, .int z2] (wX q d I A) (fun v _ w' => ∃ (I' : Nat → Int32) (A' : Nat → Nat → Int32), Md [28, 30, 31, 32, 33, 34, 37] I I' ∧ Md [21, 22, 23, 26, 27, 28] A A' ∧ IvX I' A' ∧ ∃ y0 : Int32, v = some (.int y0) ∧ w' = wX q d I' A') 0 0 := by
  refine GM.of (cc := cX11_within) (maxL := 3) (ret := (some .int)) (own := RX11) (lv := [(0, .ref (q 0)), (1, .int z1), (2, .int z2)]) (by decide) rfl rfl (Nat.le_of_ble_eq_true rfl) rfl (fun κ sz hk hR hN => ?_)
  have hin11 : ∀ w ∈ u_ws RX11 TX11 10, w ∈ wz_k275_X11_within := fun w h => (List.mem_cons_of_mem _ (List.mem_append_right _ (List.mem_append_left _ h)))
  refine g_iload_n hk dX11_within_0 rfl ?_
  have b6984l := Int32.le_toInt z2
  have b6984h := Int32.toInt_lt z2
  refine g_if_lt (tgt := 15) (a := z2.toInt) hk dX11_within_1 (by decide) rfl (fun c6985 => ?_) (fun c6985 => ?_)
  · skip
    refine g_iconst (v := (-1)) hk dX11_within_15 (by decide) ?_
    exact g_iret hk hR rfl ⟨I, A, (show Md [28, 30, 31, 32, 33, 34, 37] I I from Md.rf), (show Md [21, 22, 23, 26, 27, 28] A A from Md.rf), hIv, (-1), rfl, rfl⟩ dX11_within_16
  · skip
    refine g_aload_n hk dX11_within_4 rfl ?_
    refine gX_r0_3 hk hin11 (List.mem_cons_of_mem _ (List.mem_append_left _ (List.mem_of_getElem? (i := 0) rfl))) dX11_within_5 ?_
    refine g_iload_n hk dX11_within_8 rfl ?_
    refine g_callV (n := 1) hk (k168_X4_has l D zt q d I A z1 hIv) (SP.same _) (fun _ h => h) (gi_V (List.mem_cons_of_mem _ (List.mem_append_left _ (List.mem_of_getElem? (i := 1) rfl))) (List.mem_cons_of_mem _ (List.mem_append_left _ (List.mem_of_getElem? (i := 2) rfl))) (List.mem_cons_of_mem _ (List.mem_append_left _ (List.mem_of_getElem? (i := 3) rfl))) (List.mem_cons_of_mem _ (List.mem_append_left _ (List.mem_of_getElem? (i := 4) rfl))) (gi_sub (fun w h => (List.mem_cons_of_mem _ (List.mem_append_right _ (List.mem_append_right _ (List.mem_append_left _ h))))) zg_k168_X4_has)) rfl rfl rfl (by decide +kernel) ⟨Nat.le_of_ble_eq_true rfl, Nat.le_of_ble_eq_true rfl⟩ 15 rfl rfl rfl rfl (Nat.le_of_ble_eq_true rfl) ⟨Nat.le_of_ble_eq_true rfl, Nat.le_of_ble_eq_true rfl⟩ dX11_within_9 (fun v ty' w' hp hk' => ?_)
    rcases hp with ⟨rfl, rfl⟩ | ⟨c6987, c6988, c6989, c6990, rfl, rfl⟩
    · skip
      show GW κ 3 0 0 (wX q d I A) 12 [(0, .ref (q 0)), (1, .int z1), (2, .int z2)] [.int 0]
      refine g_if_ne (tgt := 17) (a := 0) hk dX11_within_12 (by decide) rfl (fun z9 => absurd z9 (show ¬ ((0 : Int) ≠ (0 : Int)) from by decide)) (fun _ => ?_)
      refine g_iconst (v := (-1)) hk dX11_within_15 (by decide) ?_
      exact g_iret hk hR rfl ⟨I, A, (show Md [28, 30, 31, 32, 33, 34, 37] I I from Md.rf), (show Md [21, 22, 23, 26, 27, 28] A A from Md.rf), hIv, (-1), rfl, rfl⟩ dX11_within_16
    · skip
      show GW κ 3 0 0 (wX q d I A) 12 [(0, .ref (q 0)), (1, .int z1), (2, .int z2)] [.int 1]
      refine g_if_ne (tgt := 17) (a := 1) hk dX11_within_12 (by decide) rfl (fun _ => ?_) (fun z9 => absurd (show (1 : Int) ≠ (0 : Int) from by decide) z9)
      refine g_aload_n hk dX11_within_17 rfl ?_
      refine gX_r0_8 hk hin11 (List.mem_cons_of_mem _ (List.mem_append_left _ (List.mem_of_getElem? (i := 5) rfl))) dX11_within_18 ?_
      refine g_iload_n hk dX11_within_21 rfl ?_
      refine g_callV (n := 1) hk (k269_X1_findMatches l D zt q d I A z1 hIv) (SP.same _) (fun _ h => h) (gi_V (List.mem_cons_of_mem _ (List.mem_append_left _ (List.mem_of_getElem? (i := 6) rfl))) (List.mem_cons_of_mem _ (List.mem_append_left _ (List.mem_of_getElem? (i := 7) rfl))) (List.mem_cons_of_mem _ (List.mem_append_left _ (List.mem_of_getElem? (i := 8) rfl))) (List.mem_cons_of_mem _ (List.mem_append_left _ (List.mem_of_getElem? (i := 9) rfl))) (gi_sub (fun w h => (List.mem_cons_of_mem _ (List.mem_append_right _ (List.mem_append_right _ (List.mem_append_right _ (List.mem_append_left _ h)))))) zg_k269_X1_findMatches)) rfl rfl rfl (by decide +kernel) ⟨Nat.le_of_ble_eq_true rfl, Nat.le_of_ble_eq_true rfl⟩ 43 rfl rfl rfl rfl (Nat.le_of_ble_eq_true rfl) ⟨Nat.le_of_ble_eq_true rfl, Nat.le_of_ble_eq_true rfl⟩ dX11_within_22 (fun v ty' w' hp hk' => ?_)
      obtain ⟨I6993, A6993, hI6993, hA6993, hV6993, rfl, rfl⟩ := hp
      show GW κ 3 0 0 (wX q d I6993 A6993) 25 [(0, .ref (q 0)), (1, .int z1), (2, .int z2)] []
      refine g_aload_n hk dX11_within_25 rfl ?_
      refine gX_r0_8 hk hin11 (List.mem_cons_of_mem _ (List.mem_append_left _ (List.mem_of_getElem? (i := 5) rfl))) dX11_within_26 ?_
      refine g_iload_n hk dX11_within_29 rfl ?_
      refine g_callV (n := 1) hk (k276_X1_matchesWithin l D zt q d I6993 A6993 z2 hV6993) (SP.same _) (fun _ h => h) (gi_V (List.mem_cons_of_mem _ (List.mem_append_left _ (List.mem_of_getElem? (i := 10) rfl))) (List.mem_cons_of_mem _ (List.mem_append_left _ (List.mem_of_getElem? (i := 11) rfl))) (List.mem_cons_of_mem _ (List.mem_append_left _ (List.mem_of_getElem? (i := 12) rfl))) (List.mem_cons_of_mem _ (List.mem_append_left _ (List.mem_of_getElem? (i := 9) rfl))) (gi_sub (fun w h => (List.mem_cons_of_mem _ (List.mem_append_right _ (List.mem_append_right _ (List.mem_append_right _ (List.mem_append_right _ (List.mem_append_left _ h))))))) zg_k276_X1_matchesWithin)) rfl rfl rfl (by decide +kernel) ⟨Nat.le_of_ble_eq_true rfl, Nat.le_of_ble_eq_true rfl⟩ 43 rfl rfl rfl rfl (Nat.le_of_ble_eq_true rfl) ⟨Nat.le_of_ble_eq_true rfl, Nat.le_of_ble_eq_true rfl⟩ dX11_within_30 (fun v ty' w' hp hk' => ?_)
      obtain ⟨y7056, rfl, rfl⟩ := hp
      show GW κ 3 0 0 (wX q d I6993 A6993) 33 [(0, .ref (q 0)), (1, .int z1), (2, .int z2)] [.int y7056]
      have b7057l := Int32.le_toInt y7056
      have b7057h := Int32.toInt_lt y7056
      exact g_iret hk hR rfl ⟨I6993, A6993, (show Md [28, 30, 31, 32, 33, 34, 37] I I6993 from (Md.tr Md.rf hI6993 rfl)), (show Md [21, 22, 23, 26, 27, 28] A A6993 from (Md.tr Md.rf hA6993 rfl)), hV6993, y7056, rfl, rfl⟩ dX11_within_33
def wo_k279_X1_coverFrom : List Cond := [Cond.fieldLink RX1 24 "WarpDesk$Finder" "covered" "[Z"]
def wz_k279_X1_coverFrom : List Cond := .code yX1_coverFrom cX1_coverFrom 5 none :: (wo_k279_X1_coverFrom ++ (wsX10 ++ ([] : List Cond)))
theorem zg_k279_X1_coverFrom : ∀ w ∈ wz_k279_X1_coverFrom, goodWord w = true := zg_cons rfl (zg_app (by decide +kernel) (zg_app zgU_wsX10 zg_nil))
theorem zi_k279_X1_coverFrom : ∀ w ∈ wz_k279_X1_coverFrom, w ∈ lw_tbl := zi_cons zw_1193 (zi_app (zi_cons zw_415 zi_nil) (zi_app inX1 zi_nil))
set_option maxHeartbeats 4000000 in
set_option maxRecDepth 100000 in
theorem k279_X1_coverFrom (l : Launch) (D : va_G) (zt : Nat × Nat × Nat × (Nat → Nat) × (Nat → Nat)) (q : Nat → Nat) (d : Nat → ClassId) (I : Nat → Int32) (A : Nat → Nat → Int32) (z1 : Int32) (z2 : Int32) (hIv : IvX I A) : GM l D zt (tyX d) yX1_coverFrom wz_k279_X1_coverFrom ({ frames := 0, cells := 0, slots := 0, locals := 0 } : Room) [.ref (q 43), .int z1, .int z2] (wX q d I A) (fun v _ w' => ∃ (I' : Nat → Int32) (A' : Nat → Nat → Int32), Md [] I I' ∧ Md [29] A A' ∧ IvX I' A' ∧ v = none ∧ w' = wX q d I' A') 0 0 := by
  refine GM.of (cc := cX1_coverFrom) (maxL := 5) (ret := none) (own := RX1) (lv := [(0, .ref (q 43)), (1, .int z1), (2, .int z2)]) (by decide) rfl rfl (Nat.le_of_ble_eq_true rfl) rfl (fun κ sz hk hR hN => ?_)
  have hin1 : ∀ w ∈ u_ws RX1 TX1 11, w ∈ wz_k279_X1_coverFrom := fun w h => (List.mem_cons_of_mem _ (List.mem_append_right _ (List.mem_append_left _ h)))
  refine g_iconst (v := 0) hk dX1_coverFrom_0 (by decide) ?_
  refine g_istore_n (lv' := [(3, .int 0), (0, .ref (q 43)), (1, .int z1), (2, .int z2)]) hk dX1_coverFrom_1 (by decide) rfl ?_
  have lp7189 : ∀ (n7190 : Nat) (x7152 : Int32) (I7156 : Nat → Int32) (A7156 : Nat → Nat → Int32), (Md [] I I7156) → (Md [29] A A7156) → (IvX I7156 A7156) → (0 ≤ x7152.toInt) → (z2.toInt + 1 - x7152.toInt < (n7190 : Int)) → (0 < n7190) → GW κ 5 0 0 (wX q d I7156 A7156) 2 [(3, .int x7152), (0, .ref (q 43)), (1, .int z1), (2, .int z2)] [] := by
    intro n7190
    induction n7190 with
    | zero =>
      intro x7152 I7156 A7156 hI7156 hA7156 hV7156 h7188 m7191 m7191z
      exact absurd m7191z (Nat.lt_irrefl 0)
    | succ n7190 ih7192 =>
      intro x7152 I7156 A7156 hI7156 hA7156 hV7156 h7188 m7191 m7191z
      refine g_iload_n hk dX1_coverFrom_2 rfl ?_
      refine g_iload_n hk dX1_coverFrom_3 rfl ?_
      have b7193l := Int32.le_toInt x7152
      have b7193h := Int32.toInt_lt x7152
      have b7194l := Int32.le_toInt z2
      have b7194h := Int32.toInt_lt z2
      refine g_icmp_ge (tgt := 39) (a := x7152.toInt) (b := z2.toInt) hk dX1_coverFrom_4 (by decide) rfl rfl (fun c7195 => ?_) (fun c7195 => ?_)
      · skip
        exact g_vret hk hR ⟨I7156, A7156, (show Md [] I I7156 from (Md.tr Md.rf hI7156 rfl)), (show Md [29] A A7156 from (Md.tr Md.rf hA7156 rfl)), hV7156, rfl, rfl⟩ dX1_coverFrom_39
      · skip
        refine g_iload_n hk dX1_coverFrom_7 rfl ?_
        refine g_iload_n hk dX1_coverFrom_8 rfl ?_
        have b7196l := Int32.le_toInt z1
        have b7196h := Int32.toInt_lt z1
        refine g_iadd hk dX1_coverFrom_9 ?_
        refine g_topi (fun y7197 ey7197 => ?_)
        refine g_istore (lv' := [(4, .int y7197), (3, .int x7152), (0, .ref (q 43)), (1, .int z1), (2, .int z2)]) hk dX1_coverFrom_10 (by decide) rfl ?_
        refine g_iload hk dX1_coverFrom_12 rfl ?_
        have b7198l := Int32.le_toInt y7197
        have b7198h := Int32.toInt_lt y7197
        refine g_if_lt (tgt := 33) (a := y7197.toInt) hk dX1_coverFrom_14 (by decide) rfl (fun c7199 => ?_) (fun c7199 => ?_)
        · skip
          obtain ⟨y7200, ey7200⟩ : ∃ y : Int32, y = x7152 + Int32.ofInt 1 := ⟨_, rfl⟩
          have hy7200 : y7200.toInt = x7152.toInt + 1 := i32_add ey7200 rfl (by decide) (by omega) (by omega)
          refine g_iinc (v := y7200) (lv' := [(3, .int y7200), (4, .int y7197), (0, .ref (q 43)), (1, .int z1), (2, .int z2)]) hk 1 dX1_coverFrom_33 rfl ey7200.symm (by decide) rfl ?_
          refine g_goto (tgt := 2) hk dX1_coverFrom_36 (by decide) ?_
          exact g_lv (List.forall_mem_cons.mpr ⟨List.mem_of_getElem? (i := 0) rfl, (List.forall_mem_cons.mpr ⟨List.mem_of_getElem? (i := 2) rfl, (List.forall_mem_cons.mpr ⟨List.mem_of_getElem? (i := 3) rfl, (List.forall_mem_cons.mpr ⟨List.mem_of_getElem? (i := 4) rfl, (fun _ h => absurd h List.not_mem_nil)⟩)⟩)⟩)⟩) (ih7192 y7200 I7156 A7156 (show Md [] I I7156 from Md.tr hI7156 (show Md [] I7156 I7156 from Md.rf) rfl) (show Md [29] A A7156 from Md.tr hA7156 (show Md [29] A7156 A7156 from Md.rf) rfl) hV7156 (by omega) (by omega) (by omega))
        · skip
          refine g_iload hk dX1_coverFrom_17 rfl ?_
          refine g_sipush (v := 160) hk dX1_coverFrom_19 (by decide) ?_
          refine g_icmp_ge (tgt := 33) (a := y7197.toInt) (b := 160) hk dX1_coverFrom_22 (by decide) rfl rfl (fun c7201 => ?_) (fun c7201 => ?_)
          · skip
            obtain ⟨y7202, ey7202⟩ : ∃ y : Int32, y = x7152 + Int32.ofInt 1 := ⟨_, rfl⟩
            have hy7202 : y7202.toInt = x7152.toInt + 1 := i32_add ey7202 rfl (by decide) (by omega) (by omega)
            refine g_iinc (v := y7202) (lv' := [(3, .int y7202), (4, .int y7197), (0, .ref (q 43)), (1, .int z1), (2, .int z2)]) hk 1 dX1_coverFrom_33 rfl ey7202.symm (by decide) rfl ?_
            refine g_goto (tgt := 2) hk dX1_coverFrom_36 (by decide) ?_
            exact g_lv (List.forall_mem_cons.mpr ⟨List.mem_of_getElem? (i := 0) rfl, (List.forall_mem_cons.mpr ⟨List.mem_of_getElem? (i := 2) rfl, (List.forall_mem_cons.mpr ⟨List.mem_of_getElem? (i := 3) rfl, (List.forall_mem_cons.mpr ⟨List.mem_of_getElem? (i := 4) rfl, (fun _ h => absurd h List.not_mem_nil)⟩)⟩)⟩)⟩) (ih7192 y7202 I7156 A7156 (show Md [] I I7156 from Md.tr hI7156 (show Md [] I7156 I7156 from Md.rf) rfl) (show Md [29] A A7156 from Md.tr hA7156 (show Md [29] A7156 A7156 from Md.rf) rfl) hV7156 (by omega) (by omega) (by omega))
          · skip
            refine g_aload_n hk dX1_coverFrom_25 rfl ?_
            refine gX_r43_10 hk hin1 (List.mem_cons_of_mem _ (List.mem_append_left _ (List.mem_of_getElem? (i := 0) rfl))) dX1_coverFrom_26 ?_
            refine g_iload hk dX1_coverFrom_29 rfl ?_
            refine g_iconst (v := 1) hk dX1_coverFrom_31 (by decide) ?_
            have k7203 : (1 : Int32).toInt = 1 := rfl
            refine sX_29 (y := (vp_nar .boolean 1)) (j := y7197.toNatClampNeg) hk (vp_in_iff.mpr ⟨by omega, by omega⟩) rfl rfl dX1_coverFrom_32 ?_
            obtain ⟨y7204, ey7204⟩ : ∃ y : Int32, y = x7152 + Int32.ofInt 1 := ⟨_, rfl⟩
            have hy7204 : y7204.toInt = x7152.toInt + 1 := i32_add ey7204 rfl (by decide) (by omega) (by omega)
            refine g_iinc (v := y7204) (lv' := [(3, .int y7204), (4, .int y7197), (0, .ref (q 43)), (1, .int z1), (2, .int z2)]) hk 1 dX1_coverFrom_33 rfl ey7204.symm (by decide) rfl ?_
            refine g_goto (tgt := 2) hk dX1_coverFrom_36 (by decide) ?_
            exact g_lv (List.forall_mem_cons.mpr ⟨List.mem_of_getElem? (i := 0) rfl, (List.forall_mem_cons.mpr ⟨List.mem_of_getElem? (i := 2) rfl, (List.forall_mem_cons.mpr ⟨List.mem_of_getElem? (i := 3) rfl, (List.forall_mem_cons.mpr ⟨List.mem_of_getElem? (i := 4) rfl, (fun _ h => absurd h List.not_mem_nil)⟩)⟩)⟩)⟩) (ih7192 y7204 I7156 (up3 A7156 29 (y7197.toNatClampNeg) (vp_nar .boolean 1)) (show Md [] I I7156 from Md.tr hI7156 (show Md [] I7156 I7156 from Md.rf) rfl) (show Md [29] A (up3 A7156 29 (y7197.toNatClampNeg) (vp_nar .boolean 1)) from Md.tr hA7156 (show Md [29] A7156 (up3 A7156 29 (y7197.toNatClampNeg) (vp_nar .boolean 1)) from (Md.up3 Md.rf rfl)) rfl) ⟨(IvX_f0 (I := I7156) (A := A7156) hV7156), (IvX_f18 (I := I7156) (A := A7156) hV7156), (IvX_f30 (I := I7156) (A := A7156) hV7156), (IvX_f31 (I := I7156) (A := A7156) hV7156), (IvX_a4 (I := I7156) (A := A7156) hV7156), (IvX_a9 (I := I7156) (A := A7156) hV7156), trivial⟩ (by omega) (by omega) (by omega))
  have k7206 : (0 : Int32).toInt = 0 := rfl
  obtain ⟨n7205, n7205a, n7205b⟩ : ∃ n : Nat, z2.toInt + 1 - 0 < (n : Int) ∧ 0 < n := ⟨((z2.toInt + 1 - 0 : Int)).toNat + 1, by omega, by omega⟩
  exact lp7189 n7205 0 I A Md.rf Md.rf hIv (by omega) n7205a n7205b
def wo_k278_X1_placesWithin : List Cond := [Cond.fieldLink RX1 24 "WarpDesk$Finder" "covered" "[Z", Cond.fieldLink RX1 119 "WarpDesk$Finder" "matches" "I", Cond.methodLink RX1 133 yX1_matchDistance, Cond.instanceMethod yX1_matchDistance, Cond.selects RX1 yX1_matchDistance yX1_matchDistance, Cond.initialized RX1, Cond.methodLink RX1 136 yX1_matchWindow, Cond.instanceMethod yX1_matchWindow, Cond.selects RX1 yX1_matchWindow yX1_matchWindow, Cond.methodLink RX1 139 yX1_coverFrom, Cond.instanceMethod yX1_coverFrom, Cond.selects RX1 yX1_coverFrom yX1_coverFrom]
def wz_k278_X1_placesWithin : List Cond := .code yX1_placesWithin cX1_placesWithin 5 (some .int) :: (wo_k278_X1_placesWithin ++ (wsX10 ++ (wz_k273_X1_matchDistance ++ (wz_k274_X1_matchWindow ++ (wz_k279_X1_coverFrom ++ ([] : List Cond))))))
theorem zg_k278_X1_placesWithin : ∀ w ∈ wz_k278_X1_placesWithin, goodWord w = true := zg_cons rfl (zg_app (by decide +kernel) (zg_app zgU_wsX10 (zg_app zg_k273_X1_matchDistance (zg_app zg_k274_X1_matchWindow (zg_app zg_k279_X1_coverFrom zg_nil)))))
theorem zi_k278_X1_placesWithin : ∀ w ∈ wz_k278_X1_placesWithin, w ∈ lw_tbl := zi_cons zw_1188 (zi_app (zi_cons zw_415 (zi_cons zw_414 (zi_cons zw_1180 (zi_cons zw_1169 (zi_cons zw_1170 (zi_cons zw_113 (zi_cons zw_1189 (zi_cons zw_1165 (zi_cons zw_1166 (zi_cons zw_1190 (zi_cons zw_1192 (zi_cons zw_38 zi_nil)))))))))))) (zi_app inX1 (zi_app zi_k273_X1_matchDistance (zi_app zi_k274_X1_matchWindow (zi_app zi_k279_X1_coverFrom zi_nil)))))
set_option maxHeartbeats 4000000 in
set_option maxRecDepth 100000 in
theorem k278_X1_placesWithin (l : Launch) (D : va_G) (zt : Nat × Nat × Nat × (Nat → Nat) × (Nat → Nat)) (q : Nat → Nat) (d : Nat → ClassId) (I : Nat → Int32) (A : Nat → Nat → Int32) (z1 : Int32) (z2 : Int32) (hIv : IvX I A) : GM l D zt (tyX d) yX1_placesWithin wz_k278_X1_placesWithin ({ frames := 1, cells := 0, slots := 0, locals := 24 } : Room) [.ref (q 43), .int z1, .int z2] (wX q d I A) (fun v _ w' => ∃ (I' : Nat → Int32) (A' : Nat → Nat → Int32), Md [] I I' ∧ Md [29] A A' ∧ IvX I' A' ∧ ∃ y0 : Int32, v = some (.int y0) ∧ w' = wX q d I' A') 0 0 := by
  refine GM.of (cc := cX1_placesWithin) (maxL := 5) (ret := (some .int)) (own := RX1) (lv := [(0, .ref (q 43)), (1, .int z1), (2, .int z2)]) (by decide) rfl rfl (Nat.le_of_ble_eq_true rfl) rfl (fun κ sz hk hR hN => ?_)
  have hin1 : ∀ w ∈ u_ws RX1 TX1 11, w ∈ wz_k278_X1_placesWithin := fun w h => (List.mem_cons_of_mem _ (List.mem_append_right _ (List.mem_append_left _ h)))
  refine g_iconst (v := 0) hk dX1_placesWithin_0 (by decide) ?_
  refine g_istore_n (lv' := [(3, .int 0), (0, .ref (q 43)), (1, .int z1), (2, .int z2)]) hk dX1_placesWithin_1 (by decide) rfl ?_
  have lp7672 : ∀ (n7673 : Nat) (x7078 : Int32) (I7082 : Nat → Int32) (A7082 : Nat → Nat → Int32), (Md [] I I7082) → (Md [29] A A7082) → (IvX I7082 A7082) → (0 ≤ x7078.toInt) → (x7078.toInt ≤ 160) → (161 - x7078.toInt < (n7673 : Int)) → (0 < n7673) → GW κ 5 0 0 (wX q d I7082 A7082) 2 [(3, .int x7078), (0, .ref (q 43)), (1, .int z1), (2, .int z2)] [] := by
    intro n7673
    induction n7673 with
    | zero =>
      intro x7078 I7082 A7082 hI7082 hA7082 hV7082 h7670 h7671 m7674 m7674z
      exact absurd m7674z (Nat.lt_irrefl 0)
    | succ n7673 ih7675 =>
      intro x7078 I7082 A7082 hI7082 hA7082 hV7082 h7670 h7671 m7674 m7674z
      refine g_iload_n hk dX1_placesWithin_2 rfl ?_
      refine g_sipush (v := 160) hk dX1_placesWithin_3 (by decide) ?_
      refine g_icmp_ge (tgt := 22) (a := x7078.toInt) (b := 160) hk dX1_placesWithin_6 (by decide) rfl rfl (fun c7676 => ?_) (fun c7676 => ?_)
      · skip
        refine g_iconst (v := 0) hk dX1_placesWithin_22 (by decide) ?_
        refine g_istore_n (lv' := [(3, .int 0), (0, .ref (q 43)), (1, .int z1), (2, .int z2)]) hk dX1_placesWithin_23 (by decide) rfl ?_
        have lp7869 : ∀ (n7870 : Nat) (x7677 : Int32) (I7681 : Nat → Int32) (A7681 : Nat → Nat → Int32), (Md [] I7082 I7681) → (Md [29] A7082 A7681) → (IvX I7681 A7681) → (0 ≤ x7677.toInt) → ((I 37).toInt + 1 - x7677.toInt < (n7870 : Int)) → (0 < n7870) → GW κ 5 0 0 (wX q d I7681 A7681) 24 [(3, .int x7677), (0, .ref (q 43)), (1, .int z1), (2, .int z2)] [] := by
          intro n7870
          induction n7870 with
          | zero =>
            intro x7677 I7681 A7681 hI7681 hA7681 hV7681 h7868 m7871 m7871z
            exact absurd m7871z (Nat.lt_irrefl 0)
          | succ n7870 ih7872 =>
            intro x7677 I7681 A7681 hI7681 hA7681 hV7681 h7868 m7871 m7871z
            refine g_iload_n hk dX1_placesWithin_24 rfl ?_
            refine g_aload_n hk dX1_placesWithin_25 rfl ?_
            refine gX_i37 (v := (I 37)) hk hin1 (List.mem_cons_of_mem _ (List.mem_append_left _ (List.mem_of_getElem? (i := 1) rfl))) dX1_placesWithin_26 ((hI7681 37 rfl).trans (hI7082 37 rfl)) ?_
            have b7873l := Int32.le_toInt x7677
            have b7873h := Int32.toInt_lt x7677
            have b7874l := Int32.le_toInt (I 37)
            have b7874h := Int32.toInt_lt (I 37)
            refine g_icmp_ge (tgt := 57) (a := x7677.toInt) (b := (I 37).toInt) hk dX1_placesWithin_29 (by decide) rfl rfl (fun c7875 => ?_) (fun c7875 => ?_)
            · skip
              refine g_iconst (v := 0) hk dX1_placesWithin_57 (by decide) ?_
              refine g_istore_n (lv' := [(3, .int 0), (0, .ref (q 43)), (1, .int z1), (2, .int z2)]) hk dX1_placesWithin_58 (by decide) rfl ?_
              refine g_iconst (v := 0) hk dX1_placesWithin_59 (by decide) ?_
              refine g_istore (lv' := [(4, .int 0), (3, .int 0), (0, .ref (q 43)), (1, .int z1), (2, .int z2)]) hk dX1_placesWithin_60 (by decide) rfl ?_
              have lp7914 : ∀ (n7915 : Nat) (x7876 : Int32) (x7877 : Int32), (0 ≤ x7876.toInt) → (x7876.toInt ≤ 160) → (161 - x7876.toInt < (n7915 : Int)) → (0 < n7915) → GW κ 5 0 0 (wX q d I7681 A7681) 62 [(4, .int x7876), (3, .int x7877), (0, .ref (q 43)), (1, .int z1), (2, .int z2)] [] := by
                intro n7915
                induction n7915 with
                | zero =>
                  intro x7876 x7877 h7912 h7913 m7916 m7916z
                  exact absurd m7916z (Nat.lt_irrefl 0)
                | succ n7915 ih7917 =>
                  intro x7876 x7877 h7912 h7913 m7916 m7916z
                  refine g_iload hk dX1_placesWithin_62 rfl ?_
                  refine g_sipush (v := 160) hk dX1_placesWithin_64 (by decide) ?_
                  refine g_icmp_ge (tgt := 89) (a := x7876.toInt) (b := 160) hk dX1_placesWithin_67 (by decide) rfl rfl (fun c7918 => ?_) (fun c7918 => ?_)
                  · skip
                    refine g_iload_n hk dX1_placesWithin_89 rfl ?_
                    have b7919l := Int32.le_toInt x7877
                    have b7919h := Int32.toInt_lt x7877
                    exact g_iret hk hR rfl ⟨I7681, A7681, (show Md [] I I7681 from (Md.tr (Md.tr Md.rf hI7082 rfl) hI7681 rfl)), (show Md [29] A A7681 from (Md.tr (Md.tr Md.rf hA7082 rfl) hA7681 rfl)), hV7681, x7877, rfl, rfl⟩ dX1_placesWithin_90
                  · skip
                    refine g_aload_n hk dX1_placesWithin_70 rfl ?_
                    refine gX_r43_10 hk hin1 (List.mem_cons_of_mem _ (List.mem_append_left _ (List.mem_of_getElem? (i := 0) rfl))) dX1_placesWithin_71 ?_
                    refine g_iload hk dX1_placesWithin_74 rfl ?_
                    refine lX_29 (v := (A7681 29 x7876.toNatClampNeg)) hk (vp_in_iff.mpr ⟨by omega, by omega⟩) rfl dX1_placesWithin_76 ?_
                    have b7920l := Int32.le_toInt (A7681 29 x7876.toNatClampNeg)
                    have b7920h := Int32.toInt_lt (A7681 29 x7876.toNatClampNeg)
                    refine g_if_eq (tgt := 83) (a := (A7681 29 x7876.toNatClampNeg).toInt) hk dX1_placesWithin_77 (by decide) rfl (fun c7921 => ?_) (fun c7921 => ?_)
                    · skip
                      obtain ⟨y7922, ey7922⟩ : ∃ y : Int32, y = x7876 + Int32.ofInt 1 := ⟨_, rfl⟩
                      have hy7922 : y7922.toInt = x7876.toInt + 1 := i32_add ey7922 rfl (by decide) (by omega) (by omega)
                      refine g_iinc (v := y7922) (lv' := [(4, .int y7922), (3, .int x7877), (0, .ref (q 43)), (1, .int z1), (2, .int z2)]) hk 0 dX1_placesWithin_83 rfl ey7922.symm (by decide) rfl ?_
                      refine g_goto (tgt := 62) hk dX1_placesWithin_86 (by decide) ?_
                      exact g_lv (List.forall_mem_cons.mpr ⟨List.mem_of_getElem? (i := 0) rfl, (List.forall_mem_cons.mpr ⟨List.mem_of_getElem? (i := 1) rfl, (List.forall_mem_cons.mpr ⟨List.mem_of_getElem? (i := 2) rfl, (List.forall_mem_cons.mpr ⟨List.mem_of_getElem? (i := 3) rfl, (List.forall_mem_cons.mpr ⟨List.mem_of_getElem? (i := 4) rfl, (fun _ h => absurd h List.not_mem_nil)⟩)⟩)⟩)⟩)⟩) (ih7917 y7922 x7877 (by omega) (by omega) (by omega) (by omega))
                    · skip
                      have b7923l := Int32.le_toInt x7877
                      have b7923h := Int32.toInt_lt x7877
                      obtain ⟨y7924, ey7924⟩ : ∃ y : Int32, y = x7877 + Int32.ofInt 1 := ⟨_, rfl⟩
                      refine g_iinc (v := y7924) (lv' := [(3, .int y7924), (4, .int x7876), (0, .ref (q 43)), (1, .int z1), (2, .int z2)]) hk 1 dX1_placesWithin_80 rfl ey7924.symm (by decide) rfl ?_
                      obtain ⟨y7925, ey7925⟩ : ∃ y : Int32, y = x7876 + Int32.ofInt 1 := ⟨_, rfl⟩
                      have hy7925 : y7925.toInt = x7876.toInt + 1 := i32_add ey7925 rfl (by decide) (by omega) (by omega)
                      refine g_iinc (v := y7925) (lv' := [(4, .int y7925), (3, .int y7924), (0, .ref (q 43)), (1, .int z1), (2, .int z2)]) hk 1 dX1_placesWithin_83 rfl ey7925.symm (by decide) rfl ?_
                      refine g_goto (tgt := 62) hk dX1_placesWithin_86 (by decide) ?_
                      exact g_lv (List.forall_mem_cons.mpr ⟨List.mem_of_getElem? (i := 0) rfl, (List.forall_mem_cons.mpr ⟨List.mem_of_getElem? (i := 1) rfl, (List.forall_mem_cons.mpr ⟨List.mem_of_getElem? (i := 2) rfl, (List.forall_mem_cons.mpr ⟨List.mem_of_getElem? (i := 3) rfl, (List.forall_mem_cons.mpr ⟨List.mem_of_getElem? (i := 4) rfl, (fun _ h => absurd h List.not_mem_nil)⟩)⟩)⟩)⟩)⟩) (ih7917 y7925 y7924 (by omega) (by omega) (by omega) (by omega))
              have k7927 : (0 : Int32).toInt = 0 := rfl
              obtain ⟨n7926, n7926a, n7926b⟩ : ∃ n : Nat, 161 - 0 < (n : Int) ∧ 0 < n := ⟨((161 - 0 : Int)).toNat + 1, by omega, by omega⟩
              exact lp7914 n7926 0 0 (by omega) (by omega) n7926a n7926b
            · skip
              refine g_aload_n hk dX1_placesWithin_32 rfl ?_
              refine g_iload_n hk dX1_placesWithin_33 rfl ?_
              refine g_callV (n := 1) hk (k273_X1_matchDistance l D zt q d I7681 A7681 x7677 hV7681) (SP.same _) (fun _ h => h) (gi_V (List.mem_cons_of_mem _ (List.mem_append_left _ (List.mem_of_getElem? (i := 2) rfl))) (List.mem_cons_of_mem _ (List.mem_append_left _ (List.mem_of_getElem? (i := 3) rfl))) (List.mem_cons_of_mem _ (List.mem_append_left _ (List.mem_of_getElem? (i := 4) rfl))) (List.mem_cons_of_mem _ (List.mem_append_left _ (List.mem_of_getElem? (i := 5) rfl))) (gi_sub (fun w h => (List.mem_cons_of_mem _ (List.mem_append_right _ (List.mem_append_right _ (List.mem_append_left _ h))))) zg_k273_X1_matchDistance)) rfl rfl rfl (by decide +kernel) ⟨Nat.le_of_ble_eq_true rfl, Nat.le_of_ble_eq_true rfl⟩ 43 rfl rfl rfl rfl (Nat.le_of_ble_eq_true rfl) ⟨Nat.le_of_ble_eq_true rfl, Nat.le_of_ble_eq_true rfl⟩ dX1_placesWithin_34 (fun v ty' w' hp hk' => ?_)
              obtain ⟨y7928, rfl, rfl⟩ := hp
              show GW κ 5 0 0 (wX q d I7681 A7681) 37 [(3, .int x7677), (0, .ref (q 43)), (1, .int z1), (2, .int z2)] [.int y7928]
              refine g_iload_n hk dX1_placesWithin_37 rfl ?_
              have b7929l := Int32.le_toInt y7928
              have b7929h := Int32.toInt_lt y7928
              have b7930l := Int32.le_toInt z1
              have b7930h := Int32.toInt_lt z1
              refine g_icmp_gt (tgt := 51) (a := y7928.toInt) (b := z1.toInt) hk dX1_placesWithin_38 (by decide) rfl rfl (fun c7931 => ?_) (fun c7931 => ?_)
              · skip
                obtain ⟨y7932, ey7932⟩ : ∃ y : Int32, y = x7677 + Int32.ofInt 1 := ⟨_, rfl⟩
                have hy7932 : y7932.toInt = x7677.toInt + 1 := i32_add ey7932 rfl (by decide) (by omega) (by omega)
                refine g_iinc (v := y7932) (lv' := [(3, .int y7932), (0, .ref (q 43)), (1, .int z1), (2, .int z2)]) hk 0 dX1_placesWithin_51 rfl ey7932.symm (by decide) rfl ?_
                refine g_goto (tgt := 24) hk dX1_placesWithin_54 (by decide) ?_
                exact g_lv (List.forall_mem_cons.mpr ⟨List.mem_of_getElem? (i := 0) rfl, (List.forall_mem_cons.mpr ⟨List.mem_of_getElem? (i := 1) rfl, (List.forall_mem_cons.mpr ⟨List.mem_of_getElem? (i := 2) rfl, (List.forall_mem_cons.mpr ⟨List.mem_of_getElem? (i := 3) rfl, (fun _ h => absurd h List.not_mem_nil)⟩)⟩)⟩)⟩) (ih7872 y7932 I7681 A7681 (show Md [] I7082 I7681 from Md.tr hI7681 (show Md [] I7681 I7681 from Md.rf) rfl) (show Md [29] A7082 A7681 from Md.tr hA7681 (show Md [29] A7681 A7681 from Md.rf) rfl) hV7681 (by omega) (by omega) (by omega))
              · skip
                refine g_aload_n hk dX1_placesWithin_41 rfl ?_
                refine g_aload_n hk dX1_placesWithin_42 rfl ?_
                refine g_iload_n hk dX1_placesWithin_43 rfl ?_
                refine g_callV (n := 1) hk (k274_X1_matchWindow l D zt q d I7681 A7681 x7677 hV7681) (SP.same _) (fun _ h => h) (gi_V (List.mem_cons_of_mem _ (List.mem_append_left _ (List.mem_of_getElem? (i := 6) rfl))) (List.mem_cons_of_mem _ (List.mem_append_left _ (List.mem_of_getElem? (i := 7) rfl))) (List.mem_cons_of_mem _ (List.mem_append_left _ (List.mem_of_getElem? (i := 8) rfl))) (List.mem_cons_of_mem _ (List.mem_append_left _ (List.mem_of_getElem? (i := 5) rfl))) (gi_sub (fun w h => (List.mem_cons_of_mem _ (List.mem_append_right _ (List.mem_append_right _ (List.mem_append_right _ (List.mem_append_left _ h)))))) zg_k274_X1_matchWindow)) rfl rfl rfl (by decide +kernel) ⟨Nat.le_of_ble_eq_true rfl, Nat.le_of_ble_eq_true rfl⟩ 43 rfl rfl rfl rfl (Nat.le_of_ble_eq_true rfl) ⟨Nat.le_of_ble_eq_true rfl, Nat.le_of_ble_eq_true rfl⟩ dX1_placesWithin_44 (fun v ty' w' hp hk' => ?_)
                obtain ⟨y7933, rfl, rfl⟩ := hp
                show GW κ 5 0 0 (wX q d I7681 A7681) 47 [(3, .int x7677), (0, .ref (q 43)), (1, .int z1), (2, .int z2)] [.int y7933, .ref (q 43)]
                refine g_iload_n hk dX1_placesWithin_47 rfl ?_
                refine g_callV (n := 2) hk (k279_X1_coverFrom l D zt q d I7681 A7681 y7933 z2 hV7681) (SP.same _) (fun _ h => h) (gi_V (List.mem_cons_of_mem _ (List.mem_append_left _ (List.mem_of_getElem? (i := 9) rfl))) (List.mem_cons_of_mem _ (List.mem_append_left _ (List.mem_of_getElem? (i := 10) rfl))) (List.mem_cons_of_mem _ (List.mem_append_left _ (List.mem_of_getElem? (i := 11) rfl))) (List.mem_cons_of_mem _ (List.mem_append_left _ (List.mem_of_getElem? (i := 5) rfl))) (gi_sub (fun w h => (List.mem_cons_of_mem _ (List.mem_append_right _ (List.mem_append_right _ (List.mem_append_right _ (List.mem_append_right _ (List.mem_append_left _ h))))))) zg_k279_X1_coverFrom)) rfl rfl rfl (by decide +kernel) ⟨Nat.le_of_ble_eq_true rfl, Nat.le_of_ble_eq_true rfl⟩ 43 rfl rfl rfl rfl (Nat.le_of_ble_eq_true rfl) ⟨Nat.le_of_ble_eq_true rfl, Nat.le_of_ble_eq_true rfl⟩ dX1_placesWithin_48 (fun v ty' w' hp hk' => ?_)
                obtain ⟨I7935, A7935, hI7935, hA7935, hV7935, rfl, rfl⟩ := hp
                show GW κ 5 0 0 (wX q d I7935 A7935) 51 [(3, .int x7677), (0, .ref (q 43)), (1, .int z1), (2, .int z2)] []
                obtain ⟨y7936, ey7936⟩ : ∃ y : Int32, y = x7677 + Int32.ofInt 1 := ⟨_, rfl⟩
                have hy7936 : y7936.toInt = x7677.toInt + 1 := i32_add ey7936 rfl (by decide) (by omega) (by omega)
                refine g_iinc (v := y7936) (lv' := [(3, .int y7936), (0, .ref (q 43)), (1, .int z1), (2, .int z2)]) hk 0 dX1_placesWithin_51 rfl ey7936.symm (by decide) rfl ?_
                refine g_goto (tgt := 24) hk dX1_placesWithin_54 (by decide) ?_
                exact g_lv (List.forall_mem_cons.mpr ⟨List.mem_of_getElem? (i := 0) rfl, (List.forall_mem_cons.mpr ⟨List.mem_of_getElem? (i := 1) rfl, (List.forall_mem_cons.mpr ⟨List.mem_of_getElem? (i := 2) rfl, (List.forall_mem_cons.mpr ⟨List.mem_of_getElem? (i := 3) rfl, (fun _ h => absurd h List.not_mem_nil)⟩)⟩)⟩)⟩) (ih7872 y7936 I7935 A7935 (show Md [] I7082 I7935 from Md.tr hI7681 (show Md [] I7681 I7935 from (Md.tr Md.rf hI7935 rfl)) rfl) (show Md [29] A7082 A7935 from Md.tr hA7681 (show Md [29] A7681 A7935 from (Md.tr Md.rf hA7935 rfl)) rfl) hV7935 (by omega) (by omega) (by omega))
        have k7938 : (0 : Int32).toInt = 0 := rfl
        obtain ⟨n7937, n7937a, n7937b⟩ : ∃ n : Nat, (I 37).toInt + 1 - 0 < (n : Int) ∧ 0 < n := ⟨(((I 37).toInt + 1 - 0 : Int)).toNat + 1, by omega, by omega⟩
        exact lp7869 n7937 0 I7082 A7082 Md.rf Md.rf hV7082 (by omega) n7937a n7937b
      · skip
        refine g_aload_n hk dX1_placesWithin_9 rfl ?_
        refine gX_r43_10 hk hin1 (List.mem_cons_of_mem _ (List.mem_append_left _ (List.mem_of_getElem? (i := 0) rfl))) dX1_placesWithin_10 ?_
        refine g_iload_n hk dX1_placesWithin_13 rfl ?_
        refine g_iconst (v := 0) hk dX1_placesWithin_14 (by decide) ?_
        have k7939 : (0 : Int32).toInt = 0 := rfl
        refine sX_29 (y := (vp_nar .boolean 0)) (j := x7078.toNatClampNeg) hk (vp_in_iff.mpr ⟨by omega, by omega⟩) rfl rfl dX1_placesWithin_15 ?_
        obtain ⟨y7940, ey7940⟩ : ∃ y : Int32, y = x7078 + Int32.ofInt 1 := ⟨_, rfl⟩
        have hy7940 : y7940.toInt = x7078.toInt + 1 := i32_add ey7940 rfl (by decide) (by omega) (by omega)
        refine g_iinc (v := y7940) (lv' := [(3, .int y7940), (0, .ref (q 43)), (1, .int z1), (2, .int z2)]) hk 0 dX1_placesWithin_16 rfl ey7940.symm (by decide) rfl ?_
        refine g_goto (tgt := 2) hk dX1_placesWithin_19 (by decide) ?_
        exact g_lv (List.forall_mem_cons.mpr ⟨List.mem_of_getElem? (i := 0) rfl, (List.forall_mem_cons.mpr ⟨List.mem_of_getElem? (i := 1) rfl, (List.forall_mem_cons.mpr ⟨List.mem_of_getElem? (i := 2) rfl, (List.forall_mem_cons.mpr ⟨List.mem_of_getElem? (i := 3) rfl, (fun _ h => absurd h List.not_mem_nil)⟩)⟩)⟩)⟩) (ih7675 y7940 I7082 (up3 A7082 29 (x7078.toNatClampNeg) (vp_nar .boolean 0)) (show Md [] I I7082 from Md.tr hI7082 (show Md [] I7082 I7082 from Md.rf) rfl) (show Md [29] A (up3 A7082 29 (x7078.toNatClampNeg) (vp_nar .boolean 0)) from Md.tr hA7082 (show Md [29] A7082 (up3 A7082 29 (x7078.toNatClampNeg) (vp_nar .boolean 0)) from (Md.up3 Md.rf rfl)) rfl) ⟨(IvX_f0 (I := I7082) (A := A7082) hV7082), (IvX_f18 (I := I7082) (A := A7082) hV7082), (IvX_f30 (I := I7082) (A := A7082) hV7082), (IvX_f31 (I := I7082) (A := A7082) hV7082), (IvX_a4 (I := I7082) (A := A7082) hV7082), (IvX_a9 (I := I7082) (A := A7082) hV7082), trivial⟩ (by omega) (by omega) (by omega) (by omega))
  have k7942 : (0 : Int32).toInt = 0 := rfl
  obtain ⟨n7941, n7941a, n7941b⟩ : ∃ n : Nat, 161 - 0 < (n : Int) ∧ 0 < n := ⟨((161 - 0 : Int)).toNat + 1, by omega, by omega⟩
  exact lp7672 n7941 0 I A Md.rf Md.rf hIv (by omega) (by omega) n7941a n7941b
def wo_k277_X11_cover : List Cond := [Cond.fieldLink RX11 35 "WarpDesk" "queries" "LWarpDesk$Queries;", Cond.methodLink RX11 251 yX4_has, Cond.instanceMethod yX4_has, Cond.selects RX4 yX4_has yX4_has, Cond.initialized RX4, Cond.fieldLink RX11 74 "WarpDesk" "finder" "LWarpDesk$Finder;", Cond.methodLink RX11 284 yX1_findMatches, Cond.instanceMethod yX1_findMatches, Cond.selects RX1 yX1_findMatches yX1_findMatches, Cond.initialized RX1, Cond.methodLink RX11 254 yX4_lengthOf, Cond.instanceMethod yX4_lengthOf, Cond.selects RX4 yX4_lengthOf yX4_lengthOf, Cond.methodLink RX11 296 yX1_placesWithin, Cond.instanceMethod yX1_placesWithin, Cond.selects RX1 yX1_placesWithin yX1_placesWithin]
def wz_k277_X11_cover : List Cond := .code yX11_cover cX11_cover 3 (some .int) :: (wo_k277_X11_cover ++ (wsX110 ++ (wz_k168_X4_has ++ (wz_k269_X1_findMatches ++ (wz_k182_X4_lengthOf ++ (wz_k278_X1_placesWithin ++ ([] : List Cond)))))))
theorem zg_k277_X11_cover : ∀ w ∈ wz_k277_X11_cover, goodWord w = true := zg_cons rfl (zg_app (by decide +kernel) (zg_app zgU_wsX110 (zg_app zg_k168_X4_has (zg_app zg_k269_X1_findMatches (zg_app zg_k182_X4_lengthOf (zg_app zg_k278_X1_placesWithin zg_nil))))))
theorem zi_k277_X11_cover : ∀ w ∈ wz_k277_X11_cover, w ∈ lw_tbl := zi_cons zw_1184 (zi_app (zi_cons zw_490 (zi_cons zw_1086 (zi_cons zw_747 (zi_cons zw_748 (zi_cons zw_108 (zi_cons zw_495 (zi_cons zw_1147 (zi_cons zw_1148 (zi_cons zw_1149 (zi_cons zw_113 (zi_cons zw_1087 (zi_cons zw_757 (zi_cons zw_758 (zi_cons zw_1185 (zi_cons zw_1186 (zi_cons zw_1187 zi_nil)))))))))))))))) (zi_app inX11 (zi_app zi_k168_X4_has (zi_app zi_k269_X1_findMatches (zi_app zi_k182_X4_lengthOf (zi_app zi_k278_X1_placesWithin zi_nil))))))
set_option maxHeartbeats 4000000 in
set_option maxRecDepth 100000 in
theorem k277_X11_cover (l : Launch) (D : va_G) (zt : Nat × Nat × Nat × (Nat → Nat) × (Nat → Nat)) (q : Nat → Nat) (d : Nat → ClassId) (I : Nat → Int32) (A : Nat → Nat → Int32) (z1 : Int32) (z2 : Int32) (hIv : IvX I A) : GM l D zt (tyX d) yX11_cover wz_k277_X11_cover ({ frames := 7, cells := 0, slots := 0, locals := 154 } : Room) [.ref (q 0), .int z1, .int z2] (wX q d I A) (fun v _ w' => ∃ (I' : Nat → Int32) (A' : Nat → Nat → Int32), Md [28, 30, 31, 32, 33, 34, 37] I I' ∧ Md [21, 22, 23, 26, 27, 28, 29] A A' ∧ IvX I' A' ∧ ∃ y0 : Int32, v = some (.int y0) ∧ w' = wX q d I' A') 0 0 := by
  refine GM.of (cc := cX11_cover) (maxL := 3) (ret := (some .int)) (own := RX11) (lv := [(0, .ref (q 0)), (1, .int z1), (2, .int z2)]) (by decide) rfl rfl (Nat.le_of_ble_eq_true rfl) rfl (fun κ sz hk hR hN => ?_)
  have hin11 : ∀ w ∈ u_ws RX11 TX11 10, w ∈ wz_k277_X11_cover := fun w h => (List.mem_cons_of_mem _ (List.mem_append_right _ (List.mem_append_left _ h)))
  refine g_iload_n hk dX11_cover_0 rfl ?_
  have b7058l := Int32.le_toInt z2
  have b7058h := Int32.toInt_lt z2
  refine g_if_lt (tgt := 15) (a := z2.toInt) hk dX11_cover_1 (by decide) rfl (fun c7059 => ?_) (fun c7059 => ?_)
  · skip
    refine g_iconst (v := (-1)) hk dX11_cover_15 (by decide) ?_
    exact g_iret hk hR rfl ⟨I, A, (show Md [28, 30, 31, 32, 33, 34, 37] I I from Md.rf), (show Md [21, 22, 23, 26, 27, 28, 29] A A from Md.rf), hIv, (-1), rfl, rfl⟩ dX11_cover_16
  · skip
    refine g_aload_n hk dX11_cover_4 rfl ?_
    refine gX_r0_3 hk hin11 (List.mem_cons_of_mem _ (List.mem_append_left _ (List.mem_of_getElem? (i := 0) rfl))) dX11_cover_5 ?_
    refine g_iload_n hk dX11_cover_8 rfl ?_
    refine g_callV (n := 1) hk (k168_X4_has l D zt q d I A z1 hIv) (SP.same _) (fun _ h => h) (gi_V (List.mem_cons_of_mem _ (List.mem_append_left _ (List.mem_of_getElem? (i := 1) rfl))) (List.mem_cons_of_mem _ (List.mem_append_left _ (List.mem_of_getElem? (i := 2) rfl))) (List.mem_cons_of_mem _ (List.mem_append_left _ (List.mem_of_getElem? (i := 3) rfl))) (List.mem_cons_of_mem _ (List.mem_append_left _ (List.mem_of_getElem? (i := 4) rfl))) (gi_sub (fun w h => (List.mem_cons_of_mem _ (List.mem_append_right _ (List.mem_append_right _ (List.mem_append_left _ h))))) zg_k168_X4_has)) rfl rfl rfl (by decide +kernel) ⟨Nat.le_of_ble_eq_true rfl, Nat.le_of_ble_eq_true rfl⟩ 15 rfl rfl rfl rfl (Nat.le_of_ble_eq_true rfl) ⟨Nat.le_of_ble_eq_true rfl, Nat.le_of_ble_eq_true rfl⟩ dX11_cover_9 (fun v ty' w' hp hk' => ?_)
    rcases hp with ⟨rfl, rfl⟩ | ⟨c7061, c7062, c7063, c7064, rfl, rfl⟩
    · skip
      show GW κ 3 0 0 (wX q d I A) 12 [(0, .ref (q 0)), (1, .int z1), (2, .int z2)] [.int 0]
      refine g_if_ne (tgt := 17) (a := 0) hk dX11_cover_12 (by decide) rfl (fun z9 => absurd z9 (show ¬ ((0 : Int) ≠ (0 : Int)) from by decide)) (fun _ => ?_)
      refine g_iconst (v := (-1)) hk dX11_cover_15 (by decide) ?_
      exact g_iret hk hR rfl ⟨I, A, (show Md [28, 30, 31, 32, 33, 34, 37] I I from Md.rf), (show Md [21, 22, 23, 26, 27, 28, 29] A A from Md.rf), hIv, (-1), rfl, rfl⟩ dX11_cover_16
    · skip
      show GW κ 3 0 0 (wX q d I A) 12 [(0, .ref (q 0)), (1, .int z1), (2, .int z2)] [.int 1]
      refine g_if_ne (tgt := 17) (a := 1) hk dX11_cover_12 (by decide) rfl (fun _ => ?_) (fun z9 => absurd (show (1 : Int) ≠ (0 : Int) from by decide) z9)
      refine g_aload_n hk dX11_cover_17 rfl ?_
      refine gX_r0_8 hk hin11 (List.mem_cons_of_mem _ (List.mem_append_left _ (List.mem_of_getElem? (i := 5) rfl))) dX11_cover_18 ?_
      refine g_iload_n hk dX11_cover_21 rfl ?_
      refine g_callV (n := 1) hk (k269_X1_findMatches l D zt q d I A z1 hIv) (SP.same _) (fun _ h => h) (gi_V (List.mem_cons_of_mem _ (List.mem_append_left _ (List.mem_of_getElem? (i := 6) rfl))) (List.mem_cons_of_mem _ (List.mem_append_left _ (List.mem_of_getElem? (i := 7) rfl))) (List.mem_cons_of_mem _ (List.mem_append_left _ (List.mem_of_getElem? (i := 8) rfl))) (List.mem_cons_of_mem _ (List.mem_append_left _ (List.mem_of_getElem? (i := 9) rfl))) (gi_sub (fun w h => (List.mem_cons_of_mem _ (List.mem_append_right _ (List.mem_append_right _ (List.mem_append_right _ (List.mem_append_left _ h)))))) zg_k269_X1_findMatches)) rfl rfl rfl (by decide +kernel) ⟨Nat.le_of_ble_eq_true rfl, Nat.le_of_ble_eq_true rfl⟩ 43 rfl rfl rfl rfl (Nat.le_of_ble_eq_true rfl) ⟨Nat.le_of_ble_eq_true rfl, Nat.le_of_ble_eq_true rfl⟩ dX11_cover_22 (fun v ty' w' hp hk' => ?_)
      obtain ⟨I7067, A7067, hI7067, hA7067, hV7067, rfl, rfl⟩ := hp
      show GW κ 3 0 0 (wX q d I7067 A7067) 25 [(0, .ref (q 0)), (1, .int z1), (2, .int z2)] []
      refine g_aload_n hk dX11_cover_25 rfl ?_
      refine gX_r0_8 hk hin11 (List.mem_cons_of_mem _ (List.mem_append_left _ (List.mem_of_getElem? (i := 5) rfl))) dX11_cover_26 ?_
      refine g_iload_n hk dX11_cover_29 rfl ?_
      refine g_aload_n hk dX11_cover_30 rfl ?_
      refine gX_r0_3 hk hin11 (List.mem_cons_of_mem _ (List.mem_append_left _ (List.mem_of_getElem? (i := 0) rfl))) dX11_cover_31 ?_
      refine g_iload_n hk dX11_cover_34 rfl ?_
      refine g_callV (n := 1) hk (k182_X4_lengthOf l D zt q d I7067 A7067 z1 hV7067) (SP.same _) (fun _ h => h) (gi_V (List.mem_cons_of_mem _ (List.mem_append_left _ (List.mem_of_getElem? (i := 10) rfl))) (List.mem_cons_of_mem _ (List.mem_append_left _ (List.mem_of_getElem? (i := 11) rfl))) (List.mem_cons_of_mem _ (List.mem_append_left _ (List.mem_of_getElem? (i := 12) rfl))) (List.mem_cons_of_mem _ (List.mem_append_left _ (List.mem_of_getElem? (i := 4) rfl))) (gi_sub (fun w h => (List.mem_cons_of_mem _ (List.mem_append_right _ (List.mem_append_right _ (List.mem_append_right _ (List.mem_append_right _ (List.mem_append_left _ h))))))) zg_k182_X4_lengthOf)) rfl rfl rfl (by decide +kernel) ⟨Nat.le_of_ble_eq_true rfl, Nat.le_of_ble_eq_true rfl⟩ 15 rfl rfl rfl rfl (Nat.le_of_ble_eq_true rfl) ⟨Nat.le_of_ble_eq_true rfl, Nat.le_of_ble_eq_true rfl⟩ dX11_cover_35 (fun v ty' w' hp hk' => ?_)
      rcases hp with ⟨rfl, rfl⟩ | ⟨y7075, c7069, c7070, c7071, c7072, c7073, c7074, c7076, c7077, rfl, rfl⟩
      · skip
        show GW κ 3 0 0 (wX q d I7067 A7067) 38 [(0, .ref (q 0)), (1, .int z1), (2, .int z2)] [.int 0, .int z2, .ref (q 43)]
        have k7943 : (0 : Int32).toInt = 0 := rfl
        refine g_callV (n := 2) hk (k278_X1_placesWithin l D zt q d I7067 A7067 z2 0 hV7067) (SP.same _) (fun _ h => h) (gi_V (List.mem_cons_of_mem _ (List.mem_append_left _ (List.mem_of_getElem? (i := 13) rfl))) (List.mem_cons_of_mem _ (List.mem_append_left _ (List.mem_of_getElem? (i := 14) rfl))) (List.mem_cons_of_mem _ (List.mem_append_left _ (List.mem_of_getElem? (i := 15) rfl))) (List.mem_cons_of_mem _ (List.mem_append_left _ (List.mem_of_getElem? (i := 9) rfl))) (gi_sub (fun w h => (List.mem_cons_of_mem _ (List.mem_append_right _ (List.mem_append_right _ (List.mem_append_right _ (List.mem_append_right _ (List.mem_append_right _ (List.mem_append_left _ h)))))))) zg_k278_X1_placesWithin)) rfl rfl rfl (by decide +kernel) ⟨Nat.le_of_ble_eq_true rfl, Nat.le_of_ble_eq_true rfl⟩ 43 rfl rfl rfl rfl (Nat.le_of_ble_eq_true rfl) ⟨Nat.le_of_ble_eq_true rfl, Nat.le_of_ble_eq_true rfl⟩ dX11_cover_38 (fun v ty' w' hp hk' => ?_)
        obtain ⟨I7945, A7945, hI7945, hA7945, hV7945, y7944, rfl, rfl⟩ := hp
        show GW κ 3 0 0 (wX q d I7945 A7945) 41 [(0, .ref (q 0)), (1, .int z1), (2, .int z2)] [.int y7944]
        have b7946l := Int32.le_toInt y7944
        have b7946h := Int32.toInt_lt y7944
        exact g_iret hk hR rfl ⟨I7945, A7945, (show Md [28, 30, 31, 32, 33, 34, 37] I I7945 from (Md.tr (Md.tr Md.rf hI7067 rfl) hI7945 rfl)), (show Md [21, 22, 23, 26, 27, 28, 29] A A7945 from (Md.tr (Md.tr Md.rf hA7067 rfl) hA7945 rfl)), hV7945, y7944, rfl, rfl⟩ dX11_cover_41
      · skip
        show GW κ 3 0 0 (wX q d I7067 A7067) 38 [(0, .ref (q 0)), (1, .int z1), (2, .int z2)] [.int y7075, .int z2, .ref (q 43)]
        refine g_callV (n := 2) hk (k278_X1_placesWithin l D zt q d I7067 A7067 z2 y7075 hV7067) (SP.same _) (fun _ h => h) (gi_V (List.mem_cons_of_mem _ (List.mem_append_left _ (List.mem_of_getElem? (i := 13) rfl))) (List.mem_cons_of_mem _ (List.mem_append_left _ (List.mem_of_getElem? (i := 14) rfl))) (List.mem_cons_of_mem _ (List.mem_append_left _ (List.mem_of_getElem? (i := 15) rfl))) (List.mem_cons_of_mem _ (List.mem_append_left _ (List.mem_of_getElem? (i := 9) rfl))) (gi_sub (fun w h => (List.mem_cons_of_mem _ (List.mem_append_right _ (List.mem_append_right _ (List.mem_append_right _ (List.mem_append_right _ (List.mem_append_right _ (List.mem_append_left _ h)))))))) zg_k278_X1_placesWithin)) rfl rfl rfl (by decide +kernel) ⟨Nat.le_of_ble_eq_true rfl, Nat.le_of_ble_eq_true rfl⟩ 43 rfl rfl rfl rfl (Nat.le_of_ble_eq_true rfl) ⟨Nat.le_of_ble_eq_true rfl, Nat.le_of_ble_eq_true rfl⟩ dX11_cover_38 (fun v ty' w' hp hk' => ?_)
        obtain ⟨I7948, A7948, hI7948, hA7948, hV7948, y7947, rfl, rfl⟩ := hp
        show GW κ 3 0 0 (wX q d I7948 A7948) 41 [(0, .ref (q 0)), (1, .int z1), (2, .int z2)] [.int y7947]
        have b7949l := Int32.le_toInt y7947
        have b7949h := Int32.toInt_lt y7947
        exact g_iret hk hR rfl ⟨I7948, A7948, (show Md [28, 30, 31, 32, 33, 34, 37] I I7948 from (Md.tr (Md.tr Md.rf hI7067 rfl) hI7948 rfl)), (show Md [21, 22, 23, 26, 27, 28, 29] A A7948 from (Md.tr (Md.tr Md.rf hA7067 rfl) hA7948 rfl)), hV7948, y7947, rfl, rfl⟩ dX11_cover_41
def wo_k281_X1_neededBand : List Cond := [Cond.fieldLink RX1 43 "WarpDesk$Finder" "queries" "LWarpDesk$Queries;", Cond.methodLink RX1 65 yX4_lengthOf, Cond.instanceMethod yX4_lengthOf, Cond.selects RX4 yX4_lengthOf yX4_lengthOf, Cond.initialized RX4, Cond.methodLink RX1 110 yX1_findBest, Cond.instanceMethod yX1_findBest, Cond.selects RX1 yX1_findBest yX1_findBest, Cond.initialized RX1, Cond.fieldLink RX1 100 "WarpDesk$Finder" "bestWindow" "I"]
def wz_k281_X1_neededBand : List Cond := .code yX1_neededBand cX1_neededBand 4 (some .int) :: (wo_k281_X1_neededBand ++ (wsX10 ++ (wz_k182_X4_lengthOf ++ (wz_k263_X1_findBest ++ ([] : List Cond)))))
theorem zg_k281_X1_neededBand : ∀ w ∈ wz_k281_X1_neededBand, goodWord w = true := zg_cons rfl (zg_app (by decide +kernel) (zg_app zgU_wsX10 (zg_app zg_k182_X4_lengthOf (zg_app zg_k263_X1_findBest zg_nil))))
theorem zi_k281_X1_neededBand : ∀ w ∈ wz_k281_X1_neededBand, w ∈ lw_tbl := zi_cons zw_1202 (zi_app (zi_cons zw_404 (zi_cons zw_1102 (zi_cons zw_757 (zi_cons zw_758 (zi_cons zw_108 (zi_cons zw_1203 (zi_cons zw_1118 (zi_cons zw_1119 (zi_cons zw_113 (zi_cons zw_407 zi_nil)))))))))) (zi_app inX1 (zi_app zi_k182_X4_lengthOf (zi_app zi_k263_X1_findBest zi_nil))))
set_option maxHeartbeats 4000000 in
set_option maxRecDepth 100000 in
theorem k281_X1_neededBand (l : Launch) (D : va_G) (zt : Nat × Nat × Nat × (Nat → Nat) × (Nat → Nat)) (q : Nat → Nat) (d : Nat → ClassId) (I : Nat → Int32) (A : Nat → Nat → Int32) (z1 : Int32) (z2 : Int32) (hIv : IvX I A) : GM l D zt (tyX d) yX1_neededBand wz_k281_X1_neededBand ({ frames := 6, cells := 0, slots := 0, locals := 133 } : Room) [.ref (q 43), .int z1, .int z2] (wX q d I A) (fun v _ w' => ∃ (I' : Nat → Int32) (A' : Nat → Nat → Int32), Md [28, 30, 31, 32, 33, 34, 35, 36] I I' ∧ Md [21, 22, 23] A A' ∧ IvX I' A' ∧ ∃ y0 : Int32, ((-2) ≤ y0.toInt) ∧ (y0.toInt ≤ 15) ∧ v = some (.int y0) ∧ w' = wX q d I' A') 0 0 := by
  refine GM.of (cc := cX1_neededBand) (maxL := 4) (ret := (some .int)) (own := RX1) (lv := [(0, .ref (q 43)), (1, .int z1), (2, .int z2)]) (by decide) rfl rfl (Nat.le_of_ble_eq_true rfl) rfl (fun κ sz hk hR hN => ?_)
  have hin1 : ∀ w ∈ u_ws RX1 TX1 11, w ∈ wz_k281_X1_neededBand := fun w h => (List.mem_cons_of_mem _ (List.mem_append_right _ (List.mem_append_left _ h)))
  refine g_iconst (v := 0) hk dX1_neededBand_0 (by decide) ?_
  refine g_istore_n (lv' := [(3, .int 0), (0, .ref (q 43)), (1, .int z1), (2, .int z2)]) hk dX1_neededBand_1 (by decide) rfl ?_
  have lp8037 : ∀ (n8038 : Nat) (x7960 : Int32) (I7964 : Nat → Int32) (A7964 : Nat → Nat → Int32), (Md [28, 30, 31, 32, 33, 34, 35, 36] I I7964) → (Md [21, 22, 23] A A7964) → (IvX I7964 A7964) → (0 ≤ x7960.toInt) → (x7960.toInt ≤ 16) → (17 - x7960.toInt < (n8038 : Int)) → (0 < n8038) → GW κ 4 0 0 (wX q d I7964 A7964) 2 [(3, .int x7960), (0, .ref (q 43)), (1, .int z1), (2, .int z2)] [] := by
    intro n8038
    induction n8038 with
    | zero =>
      intro x7960 I7964 A7964 hI7964 hA7964 hV7964 h8035 h8036 m8039 m8039z
      exact absurd m8039z (Nat.lt_irrefl 0)
    | succ n8038 ih8040 =>
      intro x7960 I7964 A7964 hI7964 hA7964 hV7964 h8035 h8036 m8039 m8039z
      refine g_iload_n hk dX1_neededBand_2 rfl ?_
      refine g_aload_n hk dX1_neededBand_3 rfl ?_
      refine gX_r43_2 hk hin1 (List.mem_cons_of_mem _ (List.mem_append_left _ (List.mem_of_getElem? (i := 0) rfl))) dX1_neededBand_4 ?_
      refine g_iload_n hk dX1_neededBand_7 rfl ?_
      refine g_callV (n := 1) hk (k182_X4_lengthOf l D zt q d I7964 A7964 z1 hV7964) (SP.same _) (fun _ h => h) (gi_V (List.mem_cons_of_mem _ (List.mem_append_left _ (List.mem_of_getElem? (i := 1) rfl))) (List.mem_cons_of_mem _ (List.mem_append_left _ (List.mem_of_getElem? (i := 2) rfl))) (List.mem_cons_of_mem _ (List.mem_append_left _ (List.mem_of_getElem? (i := 3) rfl))) (List.mem_cons_of_mem _ (List.mem_append_left _ (List.mem_of_getElem? (i := 4) rfl))) (gi_sub (fun w h => (List.mem_cons_of_mem _ (List.mem_append_right _ (List.mem_append_right _ (List.mem_append_left _ h))))) zg_k182_X4_lengthOf)) rfl rfl rfl (by decide +kernel) ⟨Nat.le_of_ble_eq_true rfl, Nat.le_of_ble_eq_true rfl⟩ 15 rfl rfl rfl rfl (Nat.le_of_ble_eq_true rfl) ⟨Nat.le_of_ble_eq_true rfl, Nat.le_of_ble_eq_true rfl⟩ dX1_neededBand_8 (fun v ty' w' hp hk' => ?_)
      rcases hp with ⟨rfl, rfl⟩ | ⟨y8048, c8042, c8043, c8044, c8045, c8046, c8047, c8049, c8050, rfl, rfl⟩
      · skip
        show GW κ 4 0 0 (wX q d I7964 A7964) 11 [(3, .int x7960), (0, .ref (q 43)), (1, .int z1), (2, .int z2)] [.int 0, .int x7960]
        refine g_icmp_ge (tgt := 36) (a := x7960.toInt) (b := 0) hk dX1_neededBand_11 (by decide) rfl rfl (fun _ => ?_) (fun z9 => absurd (show 0 ≤ x7960.toInt from by omega) z9)
        refine g_bipush (v := (-2)) hk dX1_neededBand_36 (by decide) ?_
        exact g_iret hk hR rfl ⟨I7964, A7964, (show Md [28, 30, 31, 32, 33, 34, 35, 36] I I7964 from (Md.tr Md.rf hI7964 rfl)), (show Md [21, 22, 23] A A7964 from (Md.tr Md.rf hA7964 rfl)), hV7964, (-2), (by decide), (by decide), rfl, rfl⟩ dX1_neededBand_38
      · skip
        show GW κ 4 0 0 (wX q d I7964 A7964) 11 [(3, .int x7960), (0, .ref (q 43)), (1, .int z1), (2, .int z2)] [.int y8048, .int x7960]
        refine g_icmp_ge (tgt := 36) (a := x7960.toInt) (b := y8048.toInt) hk dX1_neededBand_11 (by decide) rfl rfl (fun c8051 => ?_) (fun c8051 => ?_)
        · skip
          refine g_bipush (v := (-2)) hk dX1_neededBand_36 (by decide) ?_
          exact g_iret hk hR rfl ⟨I7964, A7964, (show Md [28, 30, 31, 32, 33, 34, 35, 36] I I7964 from (Md.tr Md.rf hI7964 rfl)), (show Md [21, 22, 23] A A7964 from (Md.tr Md.rf hA7964 rfl)), hV7964, (-2), (by decide), (by decide), rfl, rfl⟩ dX1_neededBand_38
        · skip
          refine g_aload_n hk dX1_neededBand_14 rfl ?_
          refine g_iload_n hk dX1_neededBand_15 rfl ?_
          refine g_iload_n hk dX1_neededBand_16 rfl ?_
          refine g_callV (n := 2) hk (k263_X1_findBest l D zt q d I7964 A7964 z1 x7960 hV7964) (SP.same _) (fun _ h => h) (gi_V (List.mem_cons_of_mem _ (List.mem_append_left _ (List.mem_of_getElem? (i := 5) rfl))) (List.mem_cons_of_mem _ (List.mem_append_left _ (List.mem_of_getElem? (i := 6) rfl))) (List.mem_cons_of_mem _ (List.mem_append_left _ (List.mem_of_getElem? (i := 7) rfl))) (List.mem_cons_of_mem _ (List.mem_append_left _ (List.mem_of_getElem? (i := 8) rfl))) (gi_sub (fun w h => (List.mem_cons_of_mem _ (List.mem_append_right _ (List.mem_append_right _ (List.mem_append_right _ (List.mem_append_left _ h)))))) zg_k263_X1_findBest)) rfl rfl rfl (by decide +kernel) ⟨Nat.le_of_ble_eq_true rfl, Nat.le_of_ble_eq_true rfl⟩ 43 rfl rfl rfl rfl (Nat.le_of_ble_eq_true rfl) ⟨Nat.le_of_ble_eq_true rfl, Nat.le_of_ble_eq_true rfl⟩ dX1_neededBand_17 (fun v ty' w' hp hk' => ?_)
          obtain ⟨I8053, A8053, hI8053, hA8053, hV8053, rfl, rfl⟩ := hp
          show GW κ 4 0 0 (wX q d I8053 A8053) 20 [(3, .int x7960), (0, .ref (q 43)), (1, .int z1), (2, .int z2)] []
          refine g_aload_n hk dX1_neededBand_20 rfl ?_
          refine gX_i35 (v := (I8053 35)) hk hin1 (List.mem_cons_of_mem _ (List.mem_append_left _ (List.mem_of_getElem? (i := 9) rfl))) dX1_neededBand_21 rfl ?_
          refine g_iload_n hk dX1_neededBand_24 rfl ?_
          have b8054l := Int32.le_toInt (I8053 35)
          have b8054h := Int32.toInt_lt (I8053 35)
          have b8055l := Int32.le_toInt z2
          have b8055h := Int32.toInt_lt z2
          refine g_icmp_ne (tgt := 30) (a := (I8053 35).toInt) (b := z2.toInt) hk dX1_neededBand_25 (by decide) rfl rfl (fun c8056 => ?_) (fun c8056 => ?_)
          · skip
            obtain ⟨y8057, ey8057⟩ : ∃ y : Int32, y = x7960 + Int32.ofInt 1 := ⟨_, rfl⟩
            have hy8057 : y8057.toInt = x7960.toInt + 1 := i32_add ey8057 rfl (by decide) (by omega) (by omega)
            refine g_iinc (v := y8057) (lv' := [(3, .int y8057), (0, .ref (q 43)), (1, .int z1), (2, .int z2)]) hk 0 dX1_neededBand_30 rfl ey8057.symm (by decide) rfl ?_
            refine g_goto (tgt := 2) hk dX1_neededBand_33 (by decide) ?_
            exact g_lv (List.forall_mem_cons.mpr ⟨List.mem_of_getElem? (i := 0) rfl, (List.forall_mem_cons.mpr ⟨List.mem_of_getElem? (i := 1) rfl, (List.forall_mem_cons.mpr ⟨List.mem_of_getElem? (i := 2) rfl, (List.forall_mem_cons.mpr ⟨List.mem_of_getElem? (i := 3) rfl, (fun _ h => absurd h List.not_mem_nil)⟩)⟩)⟩)⟩) (ih8040 y8057 I8053 A8053 (show Md [28, 30, 31, 32, 33, 34, 35, 36] I I8053 from Md.tr hI7964 (show Md [28, 30, 31, 32, 33, 34, 35, 36] I7964 I8053 from (Md.tr Md.rf hI8053 rfl)) rfl) (show Md [21, 22, 23] A A8053 from Md.tr hA7964 (show Md [21, 22, 23] A7964 A8053 from (Md.tr Md.rf hA8053 rfl)) rfl) hV8053 (by omega) (by omega) (by omega) (by omega))
          · skip
            refine g_iload_n hk dX1_neededBand_28 rfl ?_
            exact g_iret hk hR rfl ⟨I8053, A8053, (show Md [28, 30, 31, 32, 33, 34, 35, 36] I I8053 from (Md.tr (Md.tr Md.rf hI7964 rfl) hI8053 rfl)), (show Md [21, 22, 23] A A8053 from (Md.tr (Md.tr Md.rf hA7964 rfl) hA8053 rfl)), hV8053, x7960, (by omega), (by omega), rfl, rfl⟩ dX1_neededBand_29
  have k8059 : (0 : Int32).toInt = 0 := rfl
  obtain ⟨n8058, n8058a, n8058b⟩ : ∃ n : Nat, 17 - 0 < (n : Int) ∧ 0 < n := ⟨((17 - 0 : Int)).toNat + 1, by omega, by omega⟩
  exact lp8037 n8058 0 I A Md.rf Md.rf hIv (by omega) (by omega) n8058a n8058b
def wo_k280_X11_needs : List Cond := [Cond.fieldLink RX11 65 "WarpDesk" "bench" "LWarpDesk$Bench;", Cond.methodLink RX11 299 yX0_hasBoth, Cond.instanceMethod yX0_hasBoth, Cond.selects RX0 yX0_hasBoth yX0_hasBoth, Cond.initialized RX0, Cond.fieldLink RX11 74 "WarpDesk" "finder" "LWarpDesk$Finder;", Cond.methodLink RX11 302 yX1_neededBand, Cond.instanceMethod yX1_neededBand, Cond.selects RX1 yX1_neededBand yX1_neededBand, Cond.initialized RX1]
def wz_k280_X11_needs : List Cond := .code yX11_needs cX11_needs 3 (some .int) :: (wo_k280_X11_needs ++ (wsX110 ++ (wz_k223_X0_hasBoth ++ (wz_k281_X1_neededBand ++ ([] : List Cond)))))
theorem zg_k280_X11_needs : ∀ w ∈ wz_k280_X11_needs, goodWord w = true := zg_cons rfl (zg_app (by decide +kernel) (zg_app zgU_wsX110 (zg_app zg_k223_X0_hasBoth (zg_app zg_k281_X1_neededBand zg_nil))))
theorem zi_k280_X11_needs : ∀ w ∈ wz_k280_X11_needs, w ∈ lw_tbl := zi_cons zw_1197 (zi_app (zi_cons zw_494 (zi_cons zw_1198 (zi_cons zw_974 (zi_cons zw_975 (zi_cons zw_111 (zi_cons zw_495 (zi_cons zw_1199 (zi_cons zw_1200 (zi_cons zw_1201 (zi_cons zw_113 zi_nil)))))))))) (zi_app inX11 (zi_app zi_k223_X0_hasBoth (zi_app zi_k281_X1_neededBand zi_nil))))
set_option maxHeartbeats 4000000 in
set_option maxRecDepth 100000 in
theorem k280_X11_needs (l : Launch) (D : va_G) (zt : Nat × Nat × Nat × (Nat → Nat) × (Nat → Nat)) (q : Nat → Nat) (d : Nat → ClassId) (I : Nat → Int32) (A : Nat → Nat → Int32) (z1 : Int32) (z2 : Int32) (hIv : IvX I A) : GM l D zt (tyX d) yX11_needs wz_k280_X11_needs ({ frames := 7, cells := 0, slots := 0, locals := 156 } : Room) [.ref (q 0), .int z1, .int z2] (wX q d I A) (fun v _ w' => ∃ (I' : Nat → Int32) (A' : Nat → Nat → Int32), Md [28, 30, 31, 32, 33, 34, 35, 36] I I' ∧ Md [21, 22, 23] A A' ∧ IvX I' A' ∧ ∃ y0 : Int32, ((-2) ≤ y0.toInt) ∧ (y0.toInt ≤ 15) ∧ v = some (.int y0) ∧ w' = wX q d I' A') 0 0 := by
  refine GM.of (cc := cX11_needs) (maxL := 3) (ret := (some .int)) (own := RX11) (lv := [(0, .ref (q 0)), (1, .int z1), (2, .int z2)]) (by decide) rfl rfl (Nat.le_of_ble_eq_true rfl) rfl (fun κ sz hk hR hN => ?_)
  have hin11 : ∀ w ∈ u_ws RX11 TX11 10, w ∈ wz_k280_X11_needs := fun w h => (List.mem_cons_of_mem _ (List.mem_append_right _ (List.mem_append_left _ h)))
  refine g_aload_n hk dX11_needs_0 rfl ?_
  refine gX_r0_7 hk hin11 (List.mem_cons_of_mem _ (List.mem_append_left _ (List.mem_of_getElem? (i := 0) rfl))) dX11_needs_1 ?_
  refine g_iload_n hk dX11_needs_4 rfl ?_
  refine g_iload_n hk dX11_needs_5 rfl ?_
  refine g_callV (n := 2) hk (k223_X0_hasBoth l D zt q d I A z1 z2 hIv) (SP.same _) (fun _ h => h) (gi_V (List.mem_cons_of_mem _ (List.mem_append_left _ (List.mem_of_getElem? (i := 1) rfl))) (List.mem_cons_of_mem _ (List.mem_append_left _ (List.mem_of_getElem? (i := 2) rfl))) (List.mem_cons_of_mem _ (List.mem_append_left _ (List.mem_of_getElem? (i := 3) rfl))) (List.mem_cons_of_mem _ (List.mem_append_left _ (List.mem_of_getElem? (i := 4) rfl))) (gi_sub (fun w h => (List.mem_cons_of_mem _ (List.mem_append_right _ (List.mem_append_right _ (List.mem_append_left _ h))))) zg_k223_X0_hasBoth)) rfl rfl rfl (by decide +kernel) ⟨Nat.le_of_ble_eq_true rfl, Nat.le_of_ble_eq_true rfl⟩ 37 rfl rfl rfl rfl (Nat.le_of_ble_eq_true rfl) ⟨Nat.le_of_ble_eq_true rfl, Nat.le_of_ble_eq_true rfl⟩ dX11_needs_6 (fun v ty' w' hp hk' => ?_)
  rcases hp with ⟨rfl, rfl⟩ | ⟨c7951, c7952, c7953, c7954, c7955, c7956, c7957, c7958, rfl, rfl⟩
  · skip
    show GW κ 3 0 0 (wX q d I A) 9 [(0, .ref (q 0)), (1, .int z1), (2, .int z2)] [.int 0]
    refine g_if_eq (tgt := 24) (a := 0) hk dX11_needs_9 (by decide) rfl (fun _ => ?_) (fun z9 => absurd (show (0 : Int) = (0 : Int) from by decide) z9)
    refine g_iconst (v := (-1)) hk dX11_needs_24 (by decide) ?_
    exact g_iret hk hR rfl ⟨I, A, (show Md [28, 30, 31, 32, 33, 34, 35, 36] I I from Md.rf), (show Md [21, 22, 23] A A from Md.rf), hIv, (-1), (by decide), (by decide), rfl, rfl⟩ dX11_needs_25
  · skip
    show GW κ 3 0 0 (wX q d I A) 9 [(0, .ref (q 0)), (1, .int z1), (2, .int z2)] [.int 1]
    refine g_if_eq (tgt := 24) (a := 1) hk dX11_needs_9 (by decide) rfl (fun z9 => absurd z9 (show ¬ ((1 : Int) = (0 : Int)) from by decide)) (fun _ => ?_)
    refine g_aload_n hk dX11_needs_12 rfl ?_
    refine gX_r0_8 hk hin11 (List.mem_cons_of_mem _ (List.mem_append_left _ (List.mem_of_getElem? (i := 5) rfl))) dX11_needs_13 ?_
    refine g_iload_n hk dX11_needs_16 rfl ?_
    refine g_iload_n hk dX11_needs_17 rfl ?_
    refine g_callV (n := 2) hk (k281_X1_neededBand l D zt q d I A z1 z2 hIv) (SP.same _) (fun _ h => h) (gi_V (List.mem_cons_of_mem _ (List.mem_append_left _ (List.mem_of_getElem? (i := 6) rfl))) (List.mem_cons_of_mem _ (List.mem_append_left _ (List.mem_of_getElem? (i := 7) rfl))) (List.mem_cons_of_mem _ (List.mem_append_left _ (List.mem_of_getElem? (i := 8) rfl))) (List.mem_cons_of_mem _ (List.mem_append_left _ (List.mem_of_getElem? (i := 9) rfl))) (gi_sub (fun w h => (List.mem_cons_of_mem _ (List.mem_append_right _ (List.mem_append_right _ (List.mem_append_right _ (List.mem_append_left _ h)))))) zg_k281_X1_neededBand)) rfl rfl rfl (by decide +kernel) ⟨Nat.le_of_ble_eq_true rfl, Nat.le_of_ble_eq_true rfl⟩ 43 rfl rfl rfl rfl (Nat.le_of_ble_eq_true rfl) ⟨Nat.le_of_ble_eq_true rfl, Nat.le_of_ble_eq_true rfl⟩ dX11_needs_18 (fun v ty' w' hp hk' => ?_)
    obtain ⟨I8063, A8063, hI8063, hA8063, hV8063, y8060, c8061, c8062, rfl, rfl⟩ := hp
    show GW κ 3 0 0 (wX q d I8063 A8063) 21 [(0, .ref (q 0)), (1, .int z1), (2, .int z2)] [.int y8060]
    refine g_goto (tgt := 25) hk dX11_needs_21 (by decide) ?_
    exact g_iret hk hR rfl ⟨I8063, A8063, (show Md [28, 30, 31, 32, 33, 34, 35, 36] I I8063 from (Md.tr Md.rf hI8063 rfl)), (show Md [21, 22, 23] A A8063 from (Md.tr Md.rf hA8063 rfl)), hV8063, y8060, (by omega), (by omega), rfl, rfl⟩ dX11_needs_25
def wo_k284_X1_scannedDistance : List Cond := [Cond.fieldLink RX1 15 "WarpDesk$Finder" "distances" "[I"]
def wz_k284_X1_scannedDistance : List Cond := .code yX1_scannedDistance cX1_scannedDistance 2 (some .int) :: (wo_k284_X1_scannedDistance ++ (wsX10 ++ ([] : List Cond)))
theorem zg_k284_X1_scannedDistance : ∀ w ∈ wz_k284_X1_scannedDistance, goodWord w = true := zg_cons rfl (zg_app (by decide +kernel) (zg_app zgU_wsX10 zg_nil))
theorem zi_k284_X1_scannedDistance : ∀ w ∈ wz_k284_X1_scannedDistance, w ∈ lw_tbl := zi_cons zw_1216 (zi_app (zi_cons zw_411 zi_nil) (zi_app inX1 zi_nil))
set_option maxHeartbeats 4000000 in
set_option maxRecDepth 100000 in
theorem k284_X1_scannedDistance (l : Launch) (D : va_G) (zt : Nat × Nat × Nat × (Nat → Nat) × (Nat → Nat)) (q : Nat → Nat) (d : Nat → ClassId) (I : Nat → Int32) (A : Nat → Nat → Int32) (z1 : Int32) (hIv : IvX I A) : GM l D zt (tyX d) yX1_scannedDistance wz_k284_X1_scannedDistance ({ frames := 0, cells := 0, slots := 0, locals := 0 } : Room) [.ref (q 43), .int z1] (wX q d I A) (fun v _ w' => ∃ y0 : Int32, v = some (.int y0) ∧ w' = wX q d I A) 0 0 := by
  refine GM.of (cc := cX1_scannedDistance) (maxL := 2) (ret := (some .int)) (own := RX1) (lv := [(0, .ref (q 43)), (1, .int z1)]) (by decide) rfl rfl (Nat.le_of_ble_eq_true rfl) rfl (fun κ sz hk hR hN => ?_)
  have hin1 : ∀ w ∈ u_ws RX1 TX1 11, w ∈ wz_k284_X1_scannedDistance := fun w h => (List.mem_cons_of_mem _ (List.mem_append_right _ (List.mem_append_left _ h)))
  refine g_iload_n hk dX1_scannedDistance_0 rfl ?_
  have b8076l := Int32.le_toInt z1
  have b8076h := Int32.toInt_lt z1
  refine g_if_lt (tgt := 20) (a := z1.toInt) hk dX1_scannedDistance_1 (by decide) rfl (fun c8077 => ?_) (fun c8077 => ?_)
  · skip
    refine g_bipush (v := (-2)) hk dX1_scannedDistance_20 (by decide) ?_
    exact g_iret hk hR rfl ⟨(-2), rfl, rfl⟩ dX1_scannedDistance_22
  · skip
    refine g_iload_n hk dX1_scannedDistance_4 rfl ?_
    refine g_sipush (v := 160) hk dX1_scannedDistance_5 (by decide) ?_
    refine g_icmp_ge (tgt := 20) (a := z1.toInt) (b := 160) hk dX1_scannedDistance_8 (by decide) rfl rfl (fun c8078 => ?_) (fun c8078 => ?_)
    · skip
      refine g_bipush (v := (-2)) hk dX1_scannedDistance_20 (by decide) ?_
      exact g_iret hk hR rfl ⟨(-2), rfl, rfl⟩ dX1_scannedDistance_22
    · skip
      refine g_aload_n hk dX1_scannedDistance_11 rfl ?_
      refine gX_r43_6 hk hin1 (List.mem_cons_of_mem _ (List.mem_append_left _ (List.mem_of_getElem? (i := 0) rfl))) dX1_scannedDistance_12 ?_
      refine g_iload_n hk dX1_scannedDistance_15 rfl ?_
      refine lX_26 (v := (A 26 z1.toNatClampNeg)) hk (vp_in_iff.mpr ⟨by omega, by omega⟩) rfl dX1_scannedDistance_16 ?_
      refine g_goto (tgt := 22) hk dX1_scannedDistance_17 (by decide) ?_
      have b8079l := Int32.le_toInt (A 26 z1.toNatClampNeg)
      have b8079h := Int32.toInt_lt (A 26 z1.toNatClampNeg)
      exact g_iret hk hR rfl ⟨(A 26 z1.toNatClampNeg), rfl, rfl⟩ dX1_scannedDistance_22
