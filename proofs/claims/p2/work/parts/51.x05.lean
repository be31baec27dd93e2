def wo_k263_X1_findBest : List Cond := [Cond.fieldLink RX1 100 "WarpDesk$Finder" "bestWindow" "I", Cond.fieldLink RX1 103 "WarpDesk$Finder" "bestDistance" "I", Cond.constant RX1 44 (2147483647), Cond.fieldLink RX1 28 "WarpDesk$Finder" "bench" "LWarpDesk$Bench;", Cond.methodLink RX1 55 yX0_openQuery, Cond.instanceMethod yX0_openQuery, Cond.selects RX0 yX0_openQuery yX0_openQuery, Cond.initialized RX0, Cond.fieldLink RX1 38 "WarpDesk$Finder" "series" "LWarpDesk$Series;", Cond.fieldLink RX1 59 "WarpDesk$Series" "size" "I", Cond.fieldLink RX1 43 "WarpDesk$Finder" "queries" "LWarpDesk$Queries;", Cond.methodLink RX1 65 yX4_lengthOf, Cond.instanceMethod yX4_lengthOf, Cond.selects RX4 yX4_lengthOf yX4_lengthOf, Cond.initialized RX4, Cond.methodLink RX1 70 yX6_hasWindow, Cond.instanceMethod yX6_hasWindow, Cond.selects RX6 yX6_hasWindow yX6_hasWindow, Cond.initialized RX6, Cond.methodLink RX1 74 yX0_laySecondWindow, Cond.instanceMethod yX0_laySecondWindow, Cond.selects RX0 yX0_laySecondWindow yX0_laySecondWindow, Cond.fieldLink RX1 78 "WarpDesk$Bench" "fit" "LWarpDesk$Fit;", Cond.methodLink RX1 106 yX2_isLess, Cond.instanceMethod yX2_isLess, Cond.selects RX2 yX2_isLess yX2_isLess, Cond.initialized RX2, Cond.methodLink RX1 90 yX2_laidDistance, Cond.instanceMethod yX2_laidDistance, Cond.selects RX2 yX2_laidDistance yX2_laidDistance]
def wz_k263_X1_findBest : List Cond := .code yX1_findBest cX1_findBest 5 none :: (wo_k263_X1_findBest ++ (wsX00 ++ (wsX10 ++ (wsX60 ++ (wz_k224_X0_openQuery ++ (wz_k182_X4_lengthOf ++ (wz_k207_X6_hasWindow ++ (wz_k226_X0_laySecondWindow ++ (wz_k264_X2_isLess ++ (wz_k237_X2_laidDistance ++ ([] : List Cond)))))))))))
theorem zg_k263_X1_findBest : ∀ w ∈ wz_k263_X1_findBest, goodWord w = true := zg_cons rfl (zg_app (by decide +kernel) (zg_app zgU_wsX00 (zg_app zgU_wsX10 (zg_app zgU_wsX60 (zg_app zg_k224_X0_openQuery (zg_app zg_k182_X4_lengthOf (zg_app zg_k207_X6_hasWindow (zg_app zg_k226_X0_laySecondWindow (zg_app zg_k264_X2_isLess (zg_app zg_k237_X2_laidDistance zg_nil))))))))))
theorem zi_k263_X1_findBest : ∀ w ∈ wz_k263_X1_findBest, w ∈ lw_tbl := zi_cons zw_1120 (zi_app (zi_cons zw_407 (zi_cons zw_409 (zi_cons zw_1101 (zi_cons zw_402 (zi_cons zw_1121 (zi_cons zw_981 (zi_cons zw_982 (zi_cons zw_111 (zi_cons zw_403 (zi_cons zw_283 (zi_cons zw_404 (zi_cons zw_1102 (zi_cons zw_757 (zi_cons zw_758 (zi_cons zw_108 (zi_cons zw_1122 (zi_cons zw_902 (zi_cons zw_903 (zi_cons zw_109 (zi_cons zw_1123 (zi_cons zw_989 (zi_cons zw_990 (zi_cons zw_382 (zi_cons zw_1124 (zi_cons zw_1125 (zi_cons zw_1126 (zi_cons zw_112 (zi_cons zw_1128 (zi_cons zw_1014 (zi_cons zw_1015 zi_nil)))))))))))))))))))))))))))))) (zi_app inX0 (zi_app inX1 (zi_app inX6 (zi_app zi_k224_X0_openQuery (zi_app zi_k182_X4_lengthOf (zi_app zi_k207_X6_hasWindow (zi_app zi_k226_X0_laySecondWindow (zi_app zi_k264_X2_isLess (zi_app zi_k237_X2_laidDistance zi_nil))))))))))
set_option maxHeartbeats 4000000 in
set_option maxRecDepth 100000 in
theorem k263_X1_findBest (l : Launch) (D : va_G) (zt : Nat × Nat × Nat × (Nat → Nat) × (Nat → Nat)) (q : Nat → Nat) (d : Nat → ClassId) (I : Nat → Int32) (A : Nat → Nat → Int32) (z1 : Int32) (z2 : Int32) (hIv : IvX I A) : GM l D zt (tyX d) yX1_findBest wz_k263_X1_findBest ({ frames := 5, cells := 0, slots := 0, locals := 109 } : Room) [.ref (q 43), .int z1, .int z2] (wX q d I A) (fun v _ w' => ∃ (I' : Nat → Int32) (A' : Nat → Nat → Int32), Md [28, 30, 31, 32, 33, 34, 35, 36] I I' ∧ Md [21, 22, 23] A A' ∧ IvX I' A' ∧ v = none ∧ w' = wX q d I' A') 0 0 := by
  refine GM.of (cc := cX1_findBest) (maxL := 5) (ret := none) (own := RX1) (lv := [(0, .ref (q 43)), (1, .int z1), (2, .int z2)]) (by decide) rfl rfl (Nat.le_of_ble_eq_true rfl) rfl (fun κ sz hk hR hN => ?_)
  have hin0 : ∀ w ∈ u_ws RX0 TX0 5, w ∈ wz_k263_X1_findBest := fun w h => (List.mem_cons_of_mem _ (List.mem_append_right _ (List.mem_append_left _ h)))
  have hin1 : ∀ w ∈ u_ws RX1 TX1 11, w ∈ wz_k263_X1_findBest := fun w h => (List.mem_cons_of_mem _ (List.mem_append_right _ (List.mem_append_right _ (List.mem_append_left _ h))))
  have hin6 : ∀ w ∈ u_ws RX6 TX6 3, w ∈ wz_k263_X1_findBest := fun w h => (List.mem_cons_of_mem _ (List.mem_append_right _ (List.mem_append_right _ (List.mem_append_right _ (List.mem_append_left _ h)))))
  refine g_aload_n hk dX1_findBest_0 rfl ?_
  refine g_bipush (v := (-2)) hk dX1_findBest_1 (by decide) ?_
  refine pX_i35 hk hin1 (List.mem_cons_of_mem _ (List.mem_append_left _ (List.mem_of_getElem? (i := 0) rfl))) dX1_findBest_3 ?_
  refine g_aload_n hk dX1_findBest_6 rfl ?_
  refine g_bipush (v := (-2)) hk dX1_findBest_7 (by decide) ?_
  refine pX_i36 hk hin1 (List.mem_cons_of_mem _ (List.mem_append_left _ (List.mem_of_getElem? (i := 1) rfl))) dX1_findBest_9 ?_
  refine g_ldc (v := 2147483647) hk (List.mem_cons_of_mem _ (List.mem_append_left _ (List.mem_of_getElem? (i := 2) rfl))) dX1_findBest_12 ?_
  refine g_istore_n (lv' := [(3, .int 2147483647), (0, .ref (q 43)), (1, .int z1), (2, .int z2)]) hk dX1_findBest_14 (by decide) rfl ?_
  refine g_aload_n hk dX1_findBest_15 rfl ?_
  refine gX_r43_0 hk hin1 (List.mem_cons_of_mem _ (List.mem_append_left _ (List.mem_of_getElem? (i := 3) rfl))) dX1_findBest_16 ?_
  refine g_iload_n hk dX1_findBest_19 rfl ?_
  refine g_iload_n hk dX1_findBest_20 rfl ?_
  refine g_callV (n := 2) hk (k224_X0_openQuery l D zt q d (upd (upd I 35 (-2)) 36 (-2)) A z1 z2 ⟨(IvX_f0 (I := I) (A := A) hIv), (IvX_f18 (I := I) (A := A) hIv), (IvX_f30 (I := I) (A := A) hIv), (IvX_f31 (I := I) (A := A) hIv), (IvX_a4 (I := I) (A := A) hIv), (IvX_a9 (I := I) (A := A) hIv), trivial⟩) (SP.same _) (fun _ h => h) (gi_V (List.mem_cons_of_mem _ (List.mem_append_left _ (List.mem_of_getElem? (i := 4) rfl))) (List.mem_cons_of_mem _ (List.mem_append_left _ (List.mem_of_getElem? (i := 5) rfl))) (List.mem_cons_of_mem _ (List.mem_append_left _ (List.mem_of_getElem? (i := 6) rfl))) (List.mem_cons_of_mem _ (List.mem_append_left _ (List.mem_of_getElem? (i := 7) rfl))) (gi_sub (fun w h => (List.mem_cons_of_mem _ (List.mem_append_right _ (List.mem_append_right _ (List.mem_append_right _ (List.mem_append_right _ (List.mem_append_left _ h))))))) zg_k224_X0_openQuery)) rfl rfl rfl (by decide +kernel) ⟨Nat.le_of_ble_eq_true rfl, Nat.le_of_ble_eq_true rfl⟩ 37 rfl rfl rfl rfl (Nat.le_of_ble_eq_true rfl) ⟨Nat.le_of_ble_eq_true rfl, Nat.le_of_ble_eq_true rfl⟩ dX1_findBest_21 (fun v ty' w' hp hk' => ?_)
  obtain ⟨I5302, A5302, hI5302, hA5302, hV5302, rfl, rfl⟩ := hp
  show GW κ 5 0 0 (wX q d I5302 A5302) 24 [(3, .int 2147483647), (0, .ref (q 43)), (1, .int z1), (2, .int z2)] []
  refine g_iconst (v := 0) hk dX1_findBest_24 (by decide) ?_
  refine g_istore (lv' := [(4, .int 0), (3, .int 2147483647), (0, .ref (q 43)), (1, .int z1), (2, .int z2)]) hk dX1_findBest_25 (by decide) rfl ?_
  have lp5524 : ∀ (n5525 : Nat) (x5303 : Int32) (x5304 : Int32) (I5308 : Nat → Int32) (A5308 : Nat → Nat → Int32), (Md [33, 34, 35, 36] I5302 I5308) → (Md [22, 23] A5302 A5308) → (IvX I5308 A5308) → (0 ≤ x5303.toInt) → (x5303.toInt ≤ 160) → (161 - x5303.toInt < (n5525 : Int)) → (0 < n5525) → GW κ 5 0 0 (wX q d I5308 A5308) 27 [(4, .int x5303), (3, .int x5304), (0, .ref (q 43)), (1, .int z1), (2, .int z2)] [] := by
    intro n5525
    induction n5525 with
    | zero =>
      intro x5303 x5304 I5308 A5308 hI5308 hA5308 hV5308 h5522 h5523 m5526 m5526z
      exact absurd m5526z (Nat.lt_irrefl 0)
    | succ n5525 ih =>
      intro x5303 x5304 I5308 A5308 hI5308 hA5308 hV5308 h5522 h5523 m5526 m5526z
      refine g_iload hk dX1_findBest_27 rfl ?_
      refine g_aload_n hk dX1_findBest_29 rfl ?_
      refine gX_r43_1 hk hin1 (List.mem_cons_of_mem _ (List.mem_append_left _ (List.mem_of_getElem? (i := 8) rfl))) dX1_findBest_30 ?_
      refine gX_i18 (v := (I 18)) hk hin6 (List.mem_cons_of_mem _ (List.mem_append_left _ (List.mem_of_getElem? (i := 9) rfl))) dX1_findBest_33 ((hI5308 18 rfl).trans (hI5302 18 rfl)) ?_
      have f5527 := IvX_f18 hIv
      refine g_icmp_ge (tgt := 110) (a := x5303.toInt) (b := (I 18).toInt) hk dX1_findBest_36 (by decide) rfl rfl (fun c5528 => ?_) (fun c5528 => ?_)
      · skip
        exact g_vret hk hR ⟨I5308, A5308, (show Md [28, 30, 31, 32, 33, 34, 35, 36] I I5308 from (Md.tr (Md.tr (Md.up (Md.up Md.rf rfl) rfl) hI5302 rfl) hI5308 rfl)), (show Md [21, 22, 23] A A5308 from (Md.tr (Md.tr Md.rf hA5302 rfl) hA5308 rfl)), hV5308, rfl, rfl⟩ dX1_findBest_110
      · skip
        refine g_aload_n hk dX1_findBest_39 rfl ?_
        refine gX_r43_1 hk hin1 (List.mem_cons_of_mem _ (List.mem_append_left _ (List.mem_of_getElem? (i := 8) rfl))) dX1_findBest_40 ?_
        refine g_iload hk dX1_findBest_43 rfl ?_
        refine g_aload_n hk dX1_findBest_45 rfl ?_
        refine gX_r43_2 hk hin1 (List.mem_cons_of_mem _ (List.mem_append_left _ (List.mem_of_getElem? (i := 10) rfl))) dX1_findBest_46 ?_
        refine g_iload_n hk dX1_findBest_49 rfl ?_
        refine g_callV (n := 1) hk (k182_X4_lengthOf l D zt q d I5308 A5308 z1 hV5308) (SP.same _) (fun _ h => h) (gi_V (List.mem_cons_of_mem _ (List.mem_append_left _ (List.mem_of_getElem? (i := 11) rfl))) (List.mem_cons_of_mem _ (List.mem_append_left _ (List.mem_of_getElem? (i := 12) rfl))) (List.mem_cons_of_mem _ (List.mem_append_left _ (List.mem_of_getElem? (i := 13) rfl))) (List.mem_cons_of_mem _ (List.mem_append_left _ (List.mem_of_getElem? (i := 14) rfl))) (gi_sub (fun w h => (List.mem_cons_of_mem _ (List.mem_append_right _ (List.mem_append_right _ (List.mem_append_right _ (List.mem_append_right _ (List.mem_append_right _ (List.mem_append_left _ h)))))))) zg_k182_X4_lengthOf)) rfl rfl rfl (by decide +kernel) ⟨Nat.le_of_ble_eq_true rfl, Nat.le_of_ble_eq_true rfl⟩ 15 rfl rfl rfl rfl (Nat.le_of_ble_eq_true rfl) ⟨Nat.le_of_ble_eq_true rfl, Nat.le_of_ble_eq_true rfl⟩ dX1_findBest_50 (fun v ty' w' hp hk' => ?_)
        rcases hp with ⟨rfl, rfl⟩ | ⟨y5536, c5530, c5531, c5532, c5533, c5534, c5535, c5537, c5538, rfl, rfl⟩
        · skip
          show GW κ 5 0 0 (wX q d I5308 A5308) 53 [(4, .int x5303), (3, .int x5304), (0, .ref (q 43)), (1, .int z1), (2, .int z2)] [.int 0, .int x5303, .ref (q 13)]
          have k5539 : (0 : Int32).toInt = 0 := rfl
          refine g_callV (n := 2) hk (k207_X6_hasWindow l D zt q d I5308 A5308 x5303 0 hV5308) (SP.same _) (fun _ h => h) (gi_V (List.mem_cons_of_mem _ (List.mem_append_left _ (List.mem_of_getElem? (i := 15) rfl))) (List.mem_cons_of_mem _ (List.mem_append_left _ (List.mem_of_getElem? (i := 16) rfl))) (List.mem_cons_of_mem _ (List.mem_append_left _ (List.mem_of_getElem? (i := 17) rfl))) (List.mem_cons_of_mem _ (List.mem_append_left _ (List.mem_of_getElem? (i := 18) rfl))) (gi_sub (fun w h => (List.mem_cons_of_mem _ (List.mem_append_right _ (List.mem_append_right _ (List.mem_append_right _ (List.mem_append_right _ (List.mem_append_right _ (List.mem_append_right _ (List.mem_append_left _ h))))))))) zg_k207_X6_hasWindow)) rfl rfl rfl (by decide +kernel) ⟨Nat.le_of_ble_eq_true rfl, Nat.le_of_ble_eq_true rfl⟩ 13 rfl rfl rfl rfl (Nat.le_of_ble_eq_true rfl) ⟨Nat.le_of_ble_eq_true rfl, Nat.le_of_ble_eq_true rfl⟩ dX1_findBest_53 (fun v ty' w' hp hk' => ?_)
          rcases hp with ⟨rfl, rfl⟩ | ⟨c5541, c5542, c5543, c5544, c5545, c5546, rfl, rfl⟩
          · skip
            show GW κ 5 0 0 (wX q d I5308 A5308) 56 [(4, .int x5303), (3, .int x5304), (0, .ref (q 43)), (1, .int z1), (2, .int z2)] [.int 0]
            refine g_if_eq (tgt := 104) (a := 0) hk dX1_findBest_56 (by decide) rfl (fun _ => ?_) (fun z9 => absurd (show (0 : Int) = (0 : Int) from by decide) z9)
            obtain ⟨y5548, ey5548⟩ : ∃ y : Int32, y = x5303 + Int32.ofInt 1 := ⟨_, rfl⟩
            have hy5548 : y5548.toInt = x5303.toInt + 1 := i32_add ey5548 rfl (by decide) (by omega) (by omega)
            refine g_iinc (v := y5548) (lv' := [(4, .int y5548), (3, .int x5304), (0, .ref (q 43)), (1, .int z1), (2, .int z2)]) hk 0 dX1_findBest_104 rfl ey5548.symm (by decide) rfl ?_
            refine g_goto (tgt := 27) hk dX1_findBest_107 (by decide) ?_
            exact g_lv (List.forall_mem_cons.mpr ⟨List.mem_of_getElem? (i := 0) rfl, (List.forall_mem_cons.mpr ⟨List.mem_of_getElem? (i := 1) rfl, (List.forall_mem_cons.mpr ⟨List.mem_of_getElem? (i := 2) rfl, (List.forall_mem_cons.mpr ⟨List.mem_of_getElem? (i := 3) rfl, (List.forall_mem_cons.mpr ⟨List.mem_of_getElem? (i := 4) rfl, (fun _ h => absurd h List.not_mem_nil)⟩)⟩)⟩)⟩)⟩) (ih y5548 x5304 I5308 A5308 (show Md [33, 34, 35, 36] I5302 I5308 from Md.tr hI5308 (show Md [33, 34, 35, 36] I5308 I5308 from Md.rf) rfl) (show Md [22, 23] A5302 A5308 from Md.tr hA5308 (show Md [22, 23] A5308 A5308 from Md.rf) rfl) hV5308 (by omega) (by omega) (by omega) (by omega))
          · skip
            show GW κ 5 0 0 (wX q d I5308 A5308) 56 [(4, .int x5303), (3, .int x5304), (0, .ref (q 43)), (1, .int z1), (2, .int z2)] [.int 1]
            refine g_if_eq (tgt := 104) (a := 1) hk dX1_findBest_56 (by decide) rfl (fun z9 => absurd z9 (show ¬ ((1 : Int) = (0 : Int)) from by decide)) (fun _ => ?_)
            refine g_aload_n hk dX1_findBest_59 rfl ?_
            refine gX_r43_0 hk hin1 (List.mem_cons_of_mem _ (List.mem_append_left _ (List.mem_of_getElem? (i := 3) rfl))) dX1_findBest_60 ?_
            refine g_iload hk dX1_findBest_63 rfl ?_
            refine g_callV (n := 1) hk (k226_X0_laySecondWindow l D zt q d I5308 A5308 x5303 hV5308) (SP.same _) (fun _ h => h) (gi_V (List.mem_cons_of_mem _ (List.mem_append_left _ (List.mem_of_getElem? (i := 19) rfl))) (List.mem_cons_of_mem _ (List.mem_append_left _ (List.mem_of_getElem? (i := 20) rfl))) (List.mem_cons_of_mem _ (List.mem_append_left _ (List.mem_of_getElem? (i := 21) rfl))) (List.mem_cons_of_mem _ (List.mem_append_left _ (List.mem_of_getElem? (i := 7) rfl))) (gi_sub (fun w h => (List.mem_cons_of_mem _ (List.mem_append_right _ (List.mem_append_right _ (List.mem_append_right _ (List.mem_append_right _ (List.mem_append_right _ (List.mem_append_right _ (List.mem_append_right _ (List.mem_append_left _ h)))))))))) zg_k226_X0_laySecondWindow)) rfl rfl rfl (by decide +kernel) ⟨Nat.le_of_ble_eq_true rfl, Nat.le_of_ble_eq_true rfl⟩ 37 rfl rfl rfl rfl (Nat.le_of_ble_eq_true rfl) ⟨Nat.le_of_ble_eq_true rfl, Nat.le_of_ble_eq_true rfl⟩ dX1_findBest_65 (fun v ty' w' hp hk' => ?_)
            obtain ⟨I5550, A5550, hI5550, hA5550, hV5550, rfl, rfl⟩ := hp
            show GW κ 5 0 0 (wX q d I5550 A5550) 68 [(4, .int x5303), (3, .int x5304), (0, .ref (q 43)), (1, .int z1), (2, .int z2)] []
            refine g_aload_n hk dX1_findBest_68 rfl ?_
            refine gX_r43_0 hk hin1 (List.mem_cons_of_mem _ (List.mem_append_left _ (List.mem_of_getElem? (i := 3) rfl))) dX1_findBest_69 ?_
            refine gX_r37_3 hk hin0 (List.mem_cons_of_mem _ (List.mem_append_left _ (List.mem_of_getElem? (i := 22) rfl))) dX1_findBest_72 ?_
            refine g_iload_n hk dX1_findBest_75 rfl ?_
            refine g_callV (n := 1) hk (k264_X2_isLess l D zt q d I5550 A5550 x5304 hV5550) (SP.same _) (fun _ h => h) (gi_V (List.mem_cons_of_mem _ (List.mem_append_left _ (List.mem_of_getElem? (i := 23) rfl))) (List.mem_cons_of_mem _ (List.mem_append_left _ (List.mem_of_getElem? (i := 24) rfl))) (List.mem_cons_of_mem _ (List.mem_append_left _ (List.mem_of_getElem? (i := 25) rfl))) (List.mem_cons_of_mem _ (List.mem_append_left _ (List.mem_of_getElem? (i := 26) rfl))) (gi_sub (fun w h => (List.mem_cons_of_mem _ (List.mem_append_right _ (List.mem_append_right _ (List.mem_append_right _ (List.mem_append_right _ (List.mem_append_right _ (List.mem_append_right _ (List.mem_append_right _ (List.mem_append_right _ (List.mem_append_left _ h))))))))))) zg_k264_X2_isLess)) rfl rfl rfl (by decide +kernel) ⟨Nat.le_of_ble_eq_true rfl, Nat.le_of_ble_eq_true rfl⟩ 38 rfl rfl rfl rfl (Nat.le_of_ble_eq_true rfl) ⟨Nat.le_of_ble_eq_true rfl, Nat.le_of_ble_eq_true rfl⟩ dX1_findBest_76 (fun v ty' w' hp hk' => ?_)
            obtain ⟨I5554, A5554, hI5554, hA5554, hV5554, y5551, c5552, c5553, rfl, rfl⟩ := hp
            show GW κ 5 0 0 (wX q d I5554 A5554) 79 [(4, .int x5303), (3, .int x5304), (0, .ref (q 43)), (1, .int z1), (2, .int z2)] [.int y5551]
            refine g_if_eq (tgt := 104) (a := y5551.toInt) hk dX1_findBest_79 (by decide) rfl (fun c5555 => ?_) (fun c5555 => ?_)
            · skip
              obtain ⟨y5556, ey5556⟩ : ∃ y : Int32, y = x5303 + Int32.ofInt 1 := ⟨_, rfl⟩
              have hy5556 : y5556.toInt = x5303.toInt + 1 := i32_add ey5556 rfl (by decide) (by omega) (by omega)
              refine g_iinc (v := y5556) (lv' := [(4, .int y5556), (3, .int x5304), (0, .ref (q 43)), (1, .int z1), (2, .int z2)]) hk 0 dX1_findBest_104 rfl ey5556.symm (by decide) rfl ?_
              refine g_goto (tgt := 27) hk dX1_findBest_107 (by decide) ?_
              exact g_lv (List.forall_mem_cons.mpr ⟨List.mem_of_getElem? (i := 0) rfl, (List.forall_mem_cons.mpr ⟨List.mem_of_getElem? (i := 1) rfl, (List.forall_mem_cons.mpr ⟨List.mem_of_getElem? (i := 2) rfl, (List.forall_mem_cons.mpr ⟨List.mem_of_getElem? (i := 3) rfl, (List.forall_mem_cons.mpr ⟨List.mem_of_getElem? (i := 4) rfl, (fun _ h => absurd h List.not_mem_nil)⟩)⟩)⟩)⟩)⟩) (ih y5556 x5304 I5554 A5554 (show Md [33, 34, 35, 36] I5302 I5554 from Md.tr hI5308 (show Md [33, 34, 35, 36] I5308 I5554 from (Md.tr (Md.tr Md.rf hI5550 rfl) hI5554 rfl)) rfl) (show Md [22, 23] A5302 A5554 from Md.tr hA5308 (show Md [22, 23] A5308 A5554 from (Md.tr (Md.tr Md.rf hA5550 rfl) hA5554 rfl)) rfl) hV5554 (by omega) (by omega) (by omega) (by omega))
            · skip
              refine g_aload_n hk dX1_findBest_82 rfl ?_
              refine gX_r43_0 hk hin1 (List.mem_cons_of_mem _ (List.mem_append_left _ (List.mem_of_getElem? (i := 3) rfl))) dX1_findBest_83 ?_
              refine gX_r37_3 hk hin0 (List.mem_cons_of_mem _ (List.mem_append_left _ (List.mem_of_getElem? (i := 22) rfl))) dX1_findBest_86 ?_
              refine g_callV (n := 0) hk (k237_X2_laidDistance l D zt q d I5554 A5554  hV5554) (SP.same _) (fun _ h => h) (gi_V (List.mem_cons_of_mem _ (List.mem_append_left _ (List.mem_of_getElem? (i := 27) rfl))) (List.mem_cons_of_mem _ (List.mem_append_left _ (List.mem_of_getElem? (i := 28) rfl))) (List.mem_cons_of_mem _ (List.mem_append_left _ (List.mem_of_getElem? (i := 29) rfl))) (List.mem_cons_of_mem _ (List.mem_append_left _ (List.mem_of_getElem? (i := 26) rfl))) (gi_sub (fun w h => (List.mem_cons_of_mem _ (List.mem_append_right _ (List.mem_append_right _ (List.mem_append_right _ (List.mem_append_right _ (List.mem_append_right _ (List.mem_append_right _ (List.mem_append_right _ (List.mem_append_right _ (List.mem_append_right _ (List.mem_append_left _ h)))))))))))) zg_k237_X2_laidDistance)) rfl rfl rfl (by decide +kernel) ⟨Nat.le_of_ble_eq_true rfl, Nat.le_of_ble_eq_true rfl⟩ 38 rfl rfl rfl rfl (Nat.le_of_ble_eq_true rfl) ⟨Nat.le_of_ble_eq_true rfl, Nat.le_of_ble_eq_true rfl⟩ dX1_findBest_89 (fun v ty' w' hp hk' => ?_)
              obtain ⟨y5557, rfl, rfl⟩ := hp
              show GW κ 5 0 0 (wX q d I5554 A5554) 92 [(4, .int x5303), (3, .int x5304), (0, .ref (q 43)), (1, .int z1), (2, .int z2)] [.int y5557]
              refine g_istore_n (lv' := [(3, .int y5557), (4, .int x5303), (0, .ref (q 43)), (1, .int z1), (2, .int z2)]) hk dX1_findBest_92 (by decide) rfl ?_
              refine g_aload_n hk dX1_findBest_93 rfl ?_
              refine g_iload hk dX1_findBest_94 rfl ?_
              refine pX_i35 hk hin1 (List.mem_cons_of_mem _ (List.mem_append_left _ (List.mem_of_getElem? (i := 0) rfl))) dX1_findBest_96 ?_
              refine g_aload_n hk dX1_findBest_99 rfl ?_
              refine g_iload_n hk dX1_findBest_100 rfl ?_
              refine pX_i36 hk hin1 (List.mem_cons_of_mem _ (List.mem_append_left _ (List.mem_of_getElem? (i := 1) rfl))) dX1_findBest_101 ?_
              obtain ⟨y5558, ey5558⟩ : ∃ y : Int32, y = x5303 + Int32.ofInt 1 := ⟨_, rfl⟩
              have hy5558 : y5558.toInt = x5303.toInt + 1 := i32_add ey5558 rfl (by decide) (by omega) (by omega)
              refine g_iinc (v := y5558) (lv' := [(4, .int y5558), (3, .int y5557), (0, .ref (q 43)), (1, .int z1), (2, .int z2)]) hk 1 dX1_findBest_104 rfl ey5558.symm (by decide) rfl ?_
              refine g_goto (tgt := 27) hk dX1_findBest_107 (by decide) ?_
              exact g_lv (List.forall_mem_cons.mpr ⟨List.mem_of_getElem? (i := 0) rfl, (List.forall_mem_cons.mpr ⟨List.mem_of_getElem? (i := 1) rfl, (List.forall_mem_cons.mpr ⟨List.mem_of_getElem? (i := 2) rfl, (List.forall_mem_cons.mpr ⟨List.mem_of_getElem? (i := 3) rfl, (List.forall_mem_cons.mpr ⟨List.mem_of_getElem? (i := 4) rfl, (fun _ h => absurd h List.not_mem_nil)⟩)⟩)⟩)⟩)⟩) (ih y5558 y5557 (upd (upd I5554 35 x5303) 36 y5557) A5554 (show Md [33, 34, 35, 36] I5302 (upd (upd I5554 35 x5303) 36 y5557) from Md.tr hI5308 (show Md [33, 34, 35, 36] I5308 (upd (upd I5554 35 x5303) 36 y5557) from (Md.up (Md.up (Md.tr (Md.tr Md.rf hI5550 rfl) hI5554 rfl) rfl) rfl)) rfl) (show Md [22, 23] A5302 A5554 from Md.tr hA5308 (show Md [22, 23] A5308 A5554 from (Md.tr (Md.tr Md.rf hA5550 rfl) hA5554 rfl)) rfl) ⟨(IvX_f0 (I := I5554) (A := A5554) hV5554), (IvX_f18 (I := I5554) (A := A5554) hV5554), (IvX_f30 (I := I5554) (A := A5554) hV5554), (IvX_f31 (I := I5554) (A := A5554) hV5554), (IvX_a4 (I := I5554) (A := A5554) hV5554), (IvX_a9 (I := I5554) (A := A5554) hV5554), trivial⟩ (by omega) (by omega) (by omega) (by omega))
        · skip
          show GW κ 5 0 0 (wX q d I5308 A5308) 53 [(4, .int x5303), (3, .int x5304), (0, .ref (q 43)), (1, .int z1), (2, .int z2)] [.int y5536, .int x5303, .ref (q 13)]
          refine g_callV (n := 2) hk (k207_X6_hasWindow l D zt q d I5308 A5308 x5303 y5536 hV5308) (SP.same _) (fun _ h => h) (gi_V (List.mem_cons_of_mem _ (List.mem_append_left _ (List.mem_of_getElem? (i := 15) rfl))) (List.mem_cons_of_mem _ (List.mem_append_left _ (List.mem_of_getElem? (i := 16) rfl))) (List.mem_cons_of_mem _ (List.mem_append_left _ (List.mem_of_getElem? (i := 17) rfl))) (List.mem_cons_of_mem _ (List.mem_append_left _ (List.mem_of_getElem? (i := 18) rfl))) (gi_sub (fun w h => (List.mem_cons_of_mem _ (List.mem_append_right _ (List.mem_append_right _ (List.mem_append_right _ (List.mem_append_right _ (List.mem_append_right _ (List.mem_append_right _ (List.mem_append_left _ h))))))))) zg_k207_X6_hasWindow)) rfl rfl rfl (by decide +kernel) ⟨Nat.le_of_ble_eq_true rfl, Nat.le_of_ble_eq_true rfl⟩ 13 rfl rfl rfl rfl (Nat.le_of_ble_eq_true rfl) ⟨Nat.le_of_ble_eq_true rfl, Nat.le_of_ble_eq_true rfl⟩ dX1_findBest_53 (fun v ty' w' hp hk' => ?_)
          rcases hp with ⟨rfl, rfl⟩ | ⟨c5560, c5561, c5562, c5563, c5564, c5565, rfl, rfl⟩
          · skip
            show GW κ 5 0 0 (wX q d I5308 A5308) 56 [(4, .int x5303), (3, .int x5304), (0, .ref (q 43)), (1, .int z1), (2, .int z2)] [.int 0]
            refine g_if_eq (tgt := 104) (a := 0) hk dX1_findBest_56 (by decide) rfl (fun _ => ?_) (fun z9 => absurd (show (0 : Int) = (0 : Int) from by decide) z9)
            obtain ⟨y5567, ey5567⟩ : ∃ y : Int32, y = x5303 + Int32.ofInt 1 := ⟨_, rfl⟩
            have hy5567 : y5567.toInt = x5303.toInt + 1 := i32_add ey5567 rfl (by decide) (by omega) (by omega)
            refine g_iinc (v := y5567) (lv' := [(4, .int y5567), (3, .int x5304), (0, .ref (q 43)), (1, .int z1), (2, .int z2)]) hk 0 dX1_findBest_104 rfl ey5567.symm (by decide) rfl ?_
            refine g_goto (tgt := 27) hk dX1_findBest_107 (by decide) ?_
            exact g_lv (List.forall_mem_cons.mpr ⟨List.mem_of_getElem? (i := 0) rfl, (List.forall_mem_cons.mpr ⟨List.mem_of_getElem? (i := 1) rfl, (List.forall_mem_cons.mpr ⟨List.mem_of_getElem? (i := 2) rfl, (List.forall_mem_cons.mpr ⟨List.mem_of_getElem? (i := 3) rfl, (List.forall_mem_cons.mpr ⟨List.mem_of_getElem? (i := 4) rfl, (fun _ h => absurd h List.not_mem_nil)⟩)⟩)⟩)⟩)⟩) (ih y5567 x5304 I5308 A5308 (show Md [33, 34, 35, 36] I5302 I5308 from Md.tr hI5308 (show Md [33, 34, 35, 36] I5308 I5308 from Md.rf) rfl) (show Md [22, 23] A5302 A5308 from Md.tr hA5308 (show Md [22, 23] A5308 A5308 from Md.rf) rfl) hV5308 (by omega) (by omega) (by omega) (by omega))
          · skip
            show GW κ 5 0 0 (wX q d I5308 A5308) 56 [(4, .int x5303), (3, .int x5304), (0, .ref (q 43)), (1, .int z1), (2, .int z2)] [.int 1]
            refine g_if_eq (tgt := 104) (a := 1) hk dX1_findBest_56 (by decide) rfl (fun z9 => absurd z9 (show ¬ ((1 : Int) = (0 : Int)) from by decide)) (fun _ => ?_)
            refine g_aload_n hk dX1_findBest_59 rfl ?_
            refine gX_r43_0 hk hin1 (List.mem_cons_of_mem _ (List.mem_append_left _ (List.mem_of_getElem? (i := 3) rfl))) dX1_findBest_60 ?_
            refine g_iload hk dX1_findBest_63 rfl ?_
            refine g_callV (n := 1) hk (k226_X0_laySecondWindow l D zt q d I5308 A5308 x5303 hV5308) (SP.same _) (fun _ h => h) (gi_V (List.mem_cons_of_mem _ (List.mem_append_left _ (List.mem_of_getElem? (i := 19) rfl))) (List.mem_cons_of_mem _ (List.mem_append_left _ (List.mem_of_getElem? (i := 20) rfl))) (List.mem_cons_of_mem _ (List.mem_append_left _ (List.mem_of_getElem? (i := 21) rfl))) (List.mem_cons_of_mem _ (List.mem_append_left _ (List.mem_of_getElem? (i := 7) rfl))) (gi_sub (fun w h => (List.mem_cons_of_mem _ (List.mem_append_right _ (List.mem_append_right _ (List.mem_append_right _ (List.mem_append_right _ (List.mem_append_right _ (List.mem_append_right _ (List.mem_append_right _ (List.mem_append_left _ h)))))))))) zg_k226_X0_laySecondWindow)) rfl rfl rfl (by decide +kernel) ⟨Nat.le_of_ble_eq_true rfl, Nat.le_of_ble_eq_true rfl⟩ 37 rfl rfl rfl rfl (Nat.le_of_ble_eq_true rfl) ⟨Nat.le_of_ble_eq_true rfl, Nat.le_of_ble_eq_true rfl⟩ dX1_findBest_65 (fun v ty' w' hp hk' => ?_)
            obtain ⟨I5569, A5569, hI5569, hA5569, hV5569, rfl, rfl⟩ := hp
            show GW κ 5 0 0 (wX q d I5569 A5569) 68 [(4, .int x5303), (3, .int x5304), (0, .ref (q 43)), (1, .int z1), (2, .int z2)] []
            refine g_aload_n hk dX1_findBest_68 rfl ?_
            refine gX_r43_0 hk hin1 (List.mem_cons_of_mem _ (List.mem_append_left _ (List.mem_of_getElem? (i := 3) rfl))) dX1_findBest_69 ?_
            refine gX_r37_3 hk hin0 (List.mem_cons_of_mem _ (List.mem_append_left _ (List.mem_of_getElem? (i := 22) rfl))) dX1_findBest_72 ?_
            refine g_iload_n hk dX1_findBest_75 rfl ?_
            refine g_callV (n := 1) hk (k264_X2_isLess l D zt q d I5569 A5569 x5304 hV5569) (SP.same _) (fun _ h => h) (gi_V (List.mem_cons_of_mem _ (List.mem_append_left _ (List.mem_of_getElem? (i := 23) rfl))) (List.mem_cons_of_mem _ (List.mem_append_left _ (List.mem_of_getElem? (i := 24) rfl))) (List.mem_cons_of_mem _ (List.mem_append_left _ (List.mem_of_getElem? (i := 25) rfl))) (List.mem_cons_of_mem _ (List.mem_append_left _ (List.mem_of_getElem? (i := 26) rfl))) (gi_sub (fun w h => (List.mem_cons_of_mem _ (List.mem_append_right _ (List.mem_append_right _ (List.mem_append_right _ (List.mem_append_right _ (List.mem_append_right _ (List.mem_append_right _ (List.mem_append_right _ (List.mem_append_right _ (List.mem_append_left _ h))))))))))) zg_k264_X2_isLess)) rfl rfl rfl (by decide +kernel) ⟨Nat.le_of_ble_eq_true rfl, Nat.le_of_ble_eq_true rfl⟩ 38 rfl rfl rfl rfl (Nat.le_of_ble_eq_true rfl) ⟨Nat.le_of_ble_eq_true rfl, Nat.le_of_ble_eq_true rfl⟩ dX1_findBest_76 (fun v ty' w' hp hk' => ?_)
            obtain ⟨I5573, A5573, hI5573, hA5573, hV5573, y5570, c5571, c5572, rfl, rfl⟩ := hp
            show GW κ 5 0 0 (wX q d I5573 A5573) 79 [(4, .int x5303), (3, .int x5304), (0, .ref (q 43)), (1, .int z1), (2, .int z2)] [.int y5570]
            refine g_if_eq (tgt := 104) (a := y5570.toInt) hk dX1_findBest_79 (by decide) rfl (fun c5574 => ?_) (fun c5574 => ?_)
            · skip
              obtain ⟨y5575, ey5575⟩ : ∃ y : Int32, y = x5303 + Int32.ofInt 1 := ⟨_, rfl⟩
              have hy5575 : y5575.toInt = x5303.toInt + 1 := i32_add ey5575 rfl (by decide) (by omega) (by omega)
              refine g_iinc (v := y5575) (lv' := [(4, .int y5575), (3, .int x5304), (0, .ref (q 43)), (1, .int z1), (2, .int z2)]) hk 0 dX1_findBest_104 rfl ey5575.symm (by decide) rfl ?_
              refine g_goto (tgt := 27) hk dX1_findBest_107 (by decide) ?_
              exact g_lv (List.forall_mem_cons.mpr ⟨List.mem_of_getElem? (i := 0) rfl, (List.forall_mem_cons.mpr ⟨List.mem_of_getElem? (i := 1) rfl, (List.forall_mem_cons.mpr ⟨List.mem_of_getElem? (i := 2) rfl, (List.forall_mem_cons.mpr ⟨List.mem_of_getElem? (i := 3) rfl, (List.forall_mem_cons.mpr ⟨List.mem_of_getElem? (i := 4) rfl, (fun _ h => absurd h List.not_mem_nil)⟩)⟩)⟩)⟩)⟩) (ih y5575 x5304 I5573 A5573 (show Md [33, 34, 35, 36] I5302 I5573 from Md.tr hI5308 (show Md [33, 34, 35, 36] I5308 I5573 from (Md.tr (Md.tr Md.rf hI5569 rfl) hI5573 rfl)) rfl) (show Md [22, 23] A5302 A5573 from Md.tr hA5308 (show Md [22, 23] A5308 A5573 from (Md.tr (Md.tr Md.rf hA5569 rfl) hA5573 rfl)) rfl) hV5573 (by omega) (by omega) (by omega) (by omega))
            · skip
              refine g_aload_n hk dX1_findBest_82 rfl ?_
              refine gX_r43_0 hk hin1 (List.mem_cons_of_mem _ (List.mem_append_left _ (List.mem_of_getElem? (i := 3) rfl))) dX1_findBest_83 ?_
              refine gX_r37_3 hk hin0 (List.mem_cons_of_mem _ (List.mem_append_left _ (List.mem_of_getElem? (i := 22) rfl))) dX1_findBest_86 ?_
              refine g_callV (n := 0) hk (k237_X2_laidDistance l D zt q d I5573 A5573  hV5573) (SP.same _) (fun _ h => h) (gi_V (List.mem_cons_of_mem _ (List.mem_append_left _ (List.mem_of_getElem? (i := 27) rfl))) (List.mem_cons_of_mem _ (List.mem_append_left _ (List.mem_of_getElem? (i := 28) rfl))) (List.mem_cons_of_mem _ (List.mem_append_left _ (List.mem_of_getElem? (i := 29) rfl))) (List.mem_cons_of_mem _ (List.mem_append_left _ (List.mem_of_getElem? (i := 26) rfl))) (gi_sub (fun w h => (List.mem_cons_of_mem _ (List.mem_append_right _ (List.mem_append_right _ (List.mem_append_right _ (List.mem_append_right _ (List.mem_append_right _ (List.mem_append_right _ (List.mem_append_right _ (List.mem_append_right _ (List.mem_append_right _ (List.mem_append_left _ h)))))))))))) zg_k237_X2_laidDistance)) rfl rfl rfl (by decide +kernel) ⟨Nat.le_of_ble_eq_true rfl, Nat.le_of_ble_eq_true rfl⟩ 38 rfl rfl rfl rfl (Nat.le_of_ble_eq_true rfl) ⟨Nat.le_of_ble_eq_true rfl, Nat.le_of_ble_eq_true rfl⟩ dX1_findBest_89 (fun v ty' w' hp hk' => ?_)
              obtain ⟨y5576, rfl, rfl⟩ := hp
              show GW κ 5 0 0 (wX q d I5573 A5573) 92 [(4, .int x5303), (3, .int x5304), (0, .ref (q 43)), (1, .int z1), (2, .int z2)] [.int y5576]
              refine g_istore_n (lv' := [(3, .int y5576), (4, .int x5303), (0, .ref (q 43)), (1, .int z1), (2, .int z2)]) hk dX1_findBest_92 (by decide) rfl ?_
              refine g_aload_n hk dX1_findBest_93 rfl ?_
              refine g_iload hk dX1_findBest_94 rfl ?_
              refine pX_i35 hk hin1 (List.mem_cons_of_mem _ (List.mem_append_left _ (List.mem_of_getElem? (i := 0) rfl))) dX1_findBest_96 ?_
              refine g_aload_n hk dX1_findBest_99 rfl ?_
              refine g_iload_n hk dX1_findBest_100 rfl ?_
              refine pX_i36 hk hin1 (List.mem_cons_of_mem _ (List.mem_append_left _ (List.mem_of_getElem? (i := 1) rfl))) dX1_findBest_101 ?_
              obtain ⟨y5577, ey5577⟩ : ∃ y : Int32, y = x5303 + Int32.ofInt 1 := ⟨_, rfl⟩
              have hy5577 : y5577.toInt = x5303.toInt + 1 := i32_add ey5577 rfl (by decide) (by omega) (by omega)
              refine g_iinc (v := y5577) (lv' := [(4, .int y5577), (3, .int y5576), (0, .ref (q 43)), (1, .int z1), (2, .int z2)]) hk 1 dX1_findBest_104 rfl ey5577.symm (by decide) rfl ?_
              refine g_goto (tgt := 27) hk dX1_findBest_107 (by decide) ?_
              exact g_lv (List.forall_mem_cons.mpr ⟨List.mem_of_getElem? (i := 0) rfl, (List.forall_mem_cons.mpr ⟨List.mem_of_getElem? (i := 1) rfl, (List.forall_mem_cons.mpr ⟨List.mem_of_getElem? (i := 2) rfl, (List.forall_mem_cons.mpr ⟨List.mem_of_getElem? (i := 3) rfl, (List.forall_mem_cons.mpr ⟨List.mem_of_getElem? (i := 4) rfl, (fun _ h => absurd h List.not_mem_nil)⟩)⟩)⟩)⟩)⟩) (ih y5577 y5576 (upd (upd I5573 35 x5303) 36 y5576) A5573 (show Md [33, 34, 35, 36] I5302 (upd (upd I5573 35 x5303) 36 y5576) from Md.tr hI5308 (show Md [33, 34, 35, 36] I5308 (upd (upd I5573 35 x5303) 36 y5576) from (Md.up (Md.up (Md.tr (Md.tr Md.rf hI5569 rfl) hI5573 rfl) rfl) rfl)) rfl) (show Md [22, 23] A5302 A5573 from Md.tr hA5308 (show Md [22, 23] A5308 A5573 from (Md.tr (Md.tr Md.rf hA5569 rfl) hA5573 rfl)) rfl) ⟨(IvX_f0 (I := I5573) (A := A5573) hV5573), (IvX_f18 (I := I5573) (A := A5573) hV5573), (IvX_f30 (I := I5573) (A := A5573) hV5573), (IvX_f31 (I := I5573) (A := A5573) hV5573), (IvX_a4 (I := I5573) (A := A5573) hV5573), (IvX_a9 (I := I5573) (A := A5573) hV5573), trivial⟩ (by omega) (by omega) (by omega) (by omega))
  have k5579 : (0 : Int32).toInt = 0 := rfl
  have k5580 : (2147483647 : Int32).toInt = 2147483647 := rfl
  obtain ⟨n5578, n5578a, n5578b⟩ : ∃ n : Nat, 161 - 0 < (n : Int) ∧ 0 < n := ⟨((161 - 0 : Int)).toNat + 1, by omega, by omega⟩
  exact lp5524 n5578 0 2147483647 I5302 A5302 Md.rf Md.rf hV5302 (by omega) (by omega) n5578a n5578b
def wo_k262_X11_best : List Cond := [Cond.fieldLink RX11 35 "WarpDesk" "queries" "LWarpDesk$Queries;", Cond.methodLink RX11 251 yX4_has, Cond.instanceMethod yX4_has, Cond.selects RX4 yX4_has yX4_has, Cond.initialized RX4, Cond.fieldLink RX11 74 "WarpDesk" "finder" "LWarpDesk$Finder;", Cond.fieldLink RX11 42 "WarpDesk" "settings" "LWarpDesk$Settings;", Cond.methodLink RX11 154 yX7_valueOf, Cond.instanceMethod yX7_valueOf, Cond.selects RX7 yX7_valueOf yX7_valueOf, Cond.initialized RX7, Cond.methodLink RX11 269 yX1_findBest, Cond.instanceMethod yX1_findBest, Cond.selects RX1 yX1_findBest yX1_findBest, Cond.initialized RX1, Cond.fieldLink RX11 275 "WarpDesk$Finder" "bestDistance" "I", Cond.fieldLink RX11 272 "WarpDesk$Finder" "bestWindow" "I"]
def wz_k262_X11_best : List Cond := .code yX11_best cX11_best 3 (some .int) :: (wo_k262_X11_best ++ (wsX10 ++ (wsX110 ++ (wz_k168_X4_has ++ (wz_k194_X7_valueOf ++ (wz_k263_X1_findBest ++ ([] : List Cond)))))))
theorem zg_k262_X11_best : ∀ w ∈ wz_k262_X11_best, goodWord w = true := zg_cons rfl (zg_app (by decide +kernel) (zg_app zgU_wsX10 (zg_app zgU_wsX110 (zg_app zg_k168_X4_has (zg_app zg_k194_X7_valueOf (zg_app zg_k263_X1_findBest zg_nil))))))
theorem zi_k262_X11_best : ∀ w ∈ wz_k262_X11_best, w ∈ lw_tbl := zi_cons zw_1116 (zi_app (zi_cons zw_490 (zi_cons zw_1086 (zi_cons zw_747 (zi_cons zw_748 (zi_cons zw_108 (zi_cons zw_495 (zi_cons zw_491 (zi_cons zw_863 (zi_cons zw_786 (zi_cons zw_787 (zi_cons zw_107 (zi_cons zw_1117 (zi_cons zw_1118 (zi_cons zw_1119 (zi_cons zw_113 (zi_cons zw_410 (zi_cons zw_408 zi_nil))))))))))))))))) (zi_app inX1 (zi_app inX11 (zi_app zi_k168_X4_has (zi_app zi_k194_X7_valueOf (zi_app zi_k263_X1_findBest zi_nil))))))
set_option maxHeartbeats 4000000 in
set_option maxRecDepth 100000 in
theorem k262_X11_best (l : Launch) (D : va_G) (zt : Nat × Nat × Nat × (Nat → Nat) × (Nat → Nat)) (q : Nat → Nat) (d : Nat → ClassId) (I : Nat → Int32) (A : Nat → Nat → Int32) (z1 : Int32) (z2 : Int32) (hIv : IvX I A) : GM l D zt (tyX d) yX11_best wz_k262_X11_best ({ frames := 6, cells := 0, slots := 0, locals := 133 } : Room) [.ref (q 0), .int z1, .int z2] (wX q d I A) (fun v _ w' => ∃ (I' : Nat → Int32) (A' : Nat → Nat → Int32), Md [28, 30, 31, 32, 33, 34, 35, 36] I I' ∧ Md [21, 22, 23] A A' ∧ IvX I' A' ∧ ∃ y0 : Int32, v = some (.int y0) ∧ w' = wX q d I' A') 0 0 := by
  refine GM.of (cc := cX11_best) (maxL := 3) (ret := (some .int)) (own := RX11) (lv := [(0, .ref (q 0)), (1, .int z1), (2, .int z2)]) (by decide) rfl rfl (Nat.le_of_ble_eq_true rfl) rfl (fun κ sz hk hR hN => ?_)
  have hin1 : ∀ w ∈ u_ws RX1 TX1 11, w ∈ wz_k262_X11_best := fun w h => (List.mem_cons_of_mem _ (List.mem_append_right _ (List.mem_append_left _ h)))
  have hin11 : ∀ w ∈ u_ws RX11 TX11 10, w ∈ wz_k262_X11_best := fun w h => (List.mem_cons_of_mem _ (List.mem_append_right _ (List.mem_append_right _ (List.mem_append_left _ h))))
  refine g_iload_n hk dX11_best_0 rfl ?_
  have b5290l := Int32.le_toInt z2
  have b5290h := Int32.toInt_lt z2
  refine g_if_lt (tgt := 20) (a := z2.toInt) hk dX11_best_1 (by decide) rfl (fun c5291 => ?_) (fun c5291 => ?_)
  · skip
    refine g_iconst (v := (-1)) hk dX11_best_20 (by decide) ?_
    exact g_iret hk hR rfl ⟨I, A, (show Md [28, 30, 31, 32, 33, 34, 35, 36] I I from Md.rf), (show Md [21, 22, 23] A A from Md.rf), hIv, (-1), rfl, rfl⟩ dX11_best_21
  · skip
    refine g_iload_n hk dX11_best_4 rfl ?_
    refine g_iconst (v := 1) hk dX11_best_5 (by decide) ?_
    refine g_icmp_gt (tgt := 20) (a := z2.toInt) (b := 1) hk dX11_best_6 (by decide) rfl rfl (fun c5292 => ?_) (fun c5292 => ?_)
    · skip
      refine g_iconst (v := (-1)) hk dX11_best_20 (by decide) ?_
      exact g_iret hk hR rfl ⟨I, A, (show Md [28, 30, 31, 32, 33, 34, 35, 36] I I from Md.rf), (show Md [21, 22, 23] A A from Md.rf), hIv, (-1), rfl, rfl⟩ dX11_best_21
    · skip
      refine g_aload_n hk dX11_best_9 rfl ?_
      refine gX_r0_3 hk hin11 (List.mem_cons_of_mem _ (List.mem_append_left _ (List.mem_of_getElem? (i := 0) rfl))) dX11_best_10 ?_
      refine g_iload_n hk dX11_best_13 rfl ?_
      refine g_callV (n := 1) hk (k168_X4_has l D zt q d I A z1 hIv) (SP.same _) (fun _ h => h) (gi_V (List.mem_cons_of_mem _ (List.mem_append_left _ (List.mem_of_getElem? (i := 1) rfl))) (List.mem_cons_of_mem _ (List.mem_append_left _ (List.mem_of_getElem? (i := 2) rfl))) (List.mem_cons_of_mem _ (List.mem_append_left _ (List.mem_of_getElem? (i := 3) rfl))) (List.mem_cons_of_mem _ (List.mem_append_left _ (List.mem_of_getElem? (i := 4) rfl))) (gi_sub (fun w h => (List.mem_cons_of_mem _ (List.mem_append_right _ (List.mem_append_right _ (List.mem_append_right _ (List.mem_append_left _ h)))))) zg_k168_X4_has)) rfl rfl rfl (by decide +kernel) ⟨Nat.le_of_ble_eq_true rfl, Nat.le_of_ble_eq_true rfl⟩ 15 rfl rfl rfl rfl (Nat.le_of_ble_eq_true rfl) ⟨Nat.le_of_ble_eq_true rfl, Nat.le_of_ble_eq_true rfl⟩ dX11_best_14 (fun v ty' w' hp hk' => ?_)
      rcases hp with ⟨rfl, rfl⟩ | ⟨c5294, c5295, c5296, c5297, rfl, rfl⟩
      · skip
        show GW κ 3 0 0 (wX q d I A) 17 [(0, .ref (q 0)), (1, .int z1), (2, .int z2)] [.int 0]
        refine g_if_ne (tgt := 22) (a := 0) hk dX11_best_17 (by decide) rfl (fun z9 => absurd z9 (show ¬ ((0 : Int) ≠ (0 : Int)) from by decide)) (fun _ => ?_)
        refine g_iconst (v := (-1)) hk dX11_best_20 (by decide) ?_
        exact g_iret hk hR rfl ⟨I, A, (show Md [28, 30, 31, 32, 33, 34, 35, 36] I I from Md.rf), (show Md [21, 22, 23] A A from Md.rf), hIv, (-1), rfl, rfl⟩ dX11_best_21
      · skip
        show GW κ 3 0 0 (wX q d I A) 17 [(0, .ref (q 0)), (1, .int z1), (2, .int z2)] [.int 1]
        refine g_if_ne (tgt := 22) (a := 1) hk dX11_best_17 (by decide) rfl (fun _ => ?_) (fun z9 => absurd (show (1 : Int) ≠ (0 : Int) from by decide) z9)
        refine g_aload_n hk dX11_best_22 rfl ?_
        refine gX_r0_8 hk hin11 (List.mem_cons_of_mem _ (List.mem_append_left _ (List.mem_of_getElem? (i := 5) rfl))) dX11_best_23 ?_
        refine g_iload_n hk dX11_best_26 rfl ?_
        refine g_aload_n hk dX11_best_27 rfl ?_
        refine gX_r0_4 hk hin11 (List.mem_cons_of_mem _ (List.mem_append_left _ (List.mem_of_getElem? (i := 6) rfl))) dX11_best_28 ?_
        refine g_iconst (v := 0) hk dX11_best_31 (by decide) ?_
        have k5299 : (0 : Int32).toInt = 0 := rfl
        refine g_callV (n := 1) hk (k194_X7_valueOf l D zt q d I A 0 hIv) (SP.same _) (fun _ h => h) (gi_V (List.mem_cons_of_mem _ (List.mem_append_left _ (List.mem_of_getElem? (i := 7) rfl))) (List.mem_cons_of_mem _ (List.mem_append_left _ (List.mem_of_getElem? (i := 8) rfl))) (List.mem_cons_of_mem _ (List.mem_append_left _ (List.mem_of_getElem? (i := 9) rfl))) (List.mem_cons_of_mem _ (List.mem_append_left _ (List.mem_of_getElem? (i := 10) rfl))) (gi_sub (fun w h => (List.mem_cons_of_mem _ (List.mem_append_right _ (List.mem_append_right _ (List.mem_append_right _ (List.mem_append_right _ (List.mem_append_left _ h))))))) zg_k194_X7_valueOf)) rfl rfl rfl (by decide +kernel) ⟨Nat.le_of_ble_eq_true rfl, Nat.le_of_ble_eq_true rfl⟩ 18 rfl rfl rfl rfl (Nat.le_of_ble_eq_true rfl) ⟨Nat.le_of_ble_eq_true rfl, Nat.le_of_ble_eq_true rfl⟩ dX11_best_32 (fun v ty' w' hp hk' => ?_)
        obtain ⟨y5300, rfl, rfl⟩ := hp
        show GW κ 3 0 0 (wX q d I A) 35 [(0, .ref (q 0)), (1, .int z1), (2, .int z2)] [.int y5300, .int z1, .ref (q 43)]
        refine g_callV (n := 2) hk (k263_X1_findBest l D zt q d I A z1 y5300 hIv) (SP.same _) (fun _ h => h) (gi_V (List.mem_cons_of_mem _ (List.mem_append_left _ (List.mem_of_getElem? (i := 11) rfl))) (List.mem_cons_of_mem _ (List.mem_append_left _ (List.mem_of_getElem? (i := 12) rfl))) (List.mem_cons_of_mem _ (List.mem_append_left _ (List.mem_of_getElem? (i := 13) rfl))) (List.mem_cons_of_mem _ (List.mem_append_left _ (List.mem_of_getElem? (i := 14) rfl))) (gi_sub (fun w h => (List.mem_cons_of_mem _ (List.mem_append_right _ (List.mem_append_right _ (List.mem_append_right _ (List.mem_append_right _ (List.mem_append_right _ (List.mem_append_left _ h)))))))) zg_k263_X1_findBest)) rfl rfl rfl (by decide +kernel) ⟨Nat.le_of_ble_eq_true rfl, Nat.le_of_ble_eq_true rfl⟩ 43 rfl rfl rfl rfl (Nat.le_of_ble_eq_true rfl) ⟨Nat.le_of_ble_eq_true rfl, Nat.le_of_ble_eq_true rfl⟩ dX11_best_35 (fun v ty' w' hp hk' => ?_)
        obtain ⟨I5582, A5582, hI5582, hA5582, hV5582, rfl, rfl⟩ := hp
        show GW κ 3 0 0 (wX q d I5582 A5582) 38 [(0, .ref (q 0)), (1, .int z1), (2, .int z2)] []
        refine g_iload_n hk dX11_best_38 rfl ?_
        refine g_if_ne (tgt := 52) (a := z2.toInt) hk dX11_best_39 (by decide) rfl (fun c5583 => ?_) (fun c5583 => ?_)
        · skip
          refine g_aload_n hk dX11_best_52 rfl ?_
          refine gX_r0_8 hk hin11 (List.mem_cons_of_mem _ (List.mem_append_left _ (List.mem_of_getElem? (i := 5) rfl))) dX11_best_53 ?_
          refine gX_i36 (v := (I5582 36)) hk hin1 (List.mem_cons_of_mem _ (List.mem_append_left _ (List.mem_of_getElem? (i := 15) rfl))) dX11_best_56 rfl ?_
          have b5584l := Int32.le_toInt (I5582 36)
          have b5584h := Int32.toInt_lt (I5582 36)
          exact g_iret hk hR rfl ⟨I5582, A5582, (show Md [28, 30, 31, 32, 33, 34, 35, 36] I I5582 from (Md.tr Md.rf hI5582 rfl)), (show Md [21, 22, 23] A A5582 from (Md.tr Md.rf hA5582 rfl)), hV5582, (I5582 36), rfl, rfl⟩ dX11_best_59
        · skip
          refine g_aload_n hk dX11_best_42 rfl ?_
          refine gX_r0_8 hk hin11 (List.mem_cons_of_mem _ (List.mem_append_left _ (List.mem_of_getElem? (i := 5) rfl))) dX11_best_43 ?_
          refine gX_i35 (v := (I5582 35)) hk hin1 (List.mem_cons_of_mem _ (List.mem_append_left _ (List.mem_of_getElem? (i := 16) rfl))) dX11_best_46 rfl ?_
          refine g_goto (tgt := 59) hk dX11_best_49 (by decide) ?_
          have b5585l := Int32.le_toInt (I5582 35)
          have b5585h := Int32.toInt_lt (I5582 35)
          exact g_iret hk hR rfl ⟨I5582, A5582, (show Md [28, 30, 31, 32, 33, 34, 35, 36] I I5582 from (Md.tr Md.rf hI5582 rfl)), (show Md [21, 22, 23] A A5582 from (Md.tr Md.rf hA5582 rfl)), hV5582, (I5582 35), rfl, rfl⟩ dX11_best_59
def wo_k267_X1_addToTally : List Cond := [Cond.fieldLink RX1 11 "WarpDesk$Finder" "tally" "[I", Cond.fieldLink RX1 28 "WarpDesk$Finder" "bench" "LWarpDesk$Bench;", Cond.fieldLink RX1 78 "WarpDesk$Bench" "fit" "LWarpDesk$Fit;", Cond.fieldLink RX1 94 "WarpDesk$Fit" "cells" "I", Cond.fieldLink RX1 97 "WarpDesk$Fit" "brokenRow" "I"]
def wz_k267_X1_addToTally : List Cond := .code yX1_addToTally cX1_addToTally 2 none :: (wo_k267_X1_addToTally ++ (wsX00 ++ (wsX10 ++ (wsX20 ++ ([] : List Cond)))))
theorem zg_k267_X1_addToTally : ∀ w ∈ wz_k267_X1_addToTally, goodWord w = true := zg_cons rfl (zg_app (by decide +kernel) (zg_app zgU_wsX00 (zg_app zgU_wsX10 (zg_app zgU_wsX20 zg_nil))))
theorem zi_k267_X1_addToTally : ∀ w ∈ wz_k267_X1_addToTally, w ∈ lw_tbl := zi_cons zw_1142 (zi_app (zi_cons zw_405 (zi_cons zw_402 (zi_cons zw_382 (zi_cons zw_346 (zi_cons zw_349 zi_nil))))) (zi_app inX0 (zi_app inX1 (zi_app inX2 zi_nil))))
set_option maxHeartbeats 4000000 in
set_option maxRecDepth 100000 in
theorem k267_X1_addToTally (l : Launch) (D : va_G) (zt : Nat × Nat × Nat × (Nat → Nat) × (Nat → Nat)) (q : Nat → Nat) (d : Nat → ClassId) (I : Nat → Int32) (A : Nat → Nat → Int32) (z1 : Int32) (hIv : IvX I A) : GM l D zt (tyX d) yX1_addToTally wz_k267_X1_addToTally ({ frames := 0, cells := 0, slots := 0, locals := 0 } : Room) [.ref (q 43), .int z1] (wX q d I A) (fun v _ w' => ∃ (I' : Nat → Int32) (A' : Nat → Nat → Int32), Md [] I I' ∧ Md [25] A A' ∧ IvX I' A' ∧ v = none ∧ w' = wX q d I' A') 0 0 := by
  refine GM.of (cc := cX1_addToTally) (maxL := 2) (ret := none) (own := RX1) (lv := [(0, .ref (q 43)), (1, .int z1)]) (by decide) rfl rfl (Nat.le_of_ble_eq_true rfl) rfl (fun κ sz hk hR hN => ?_)
  have hin0 : ∀ w ∈ u_ws RX0 TX0 5, w ∈ wz_k267_X1_addToTally := fun w h => (List.mem_cons_of_mem _ (List.mem_append_right _ (List.mem_append_left _ h)))
  have hin1 : ∀ w ∈ u_ws RX1 TX1 11, w ∈ wz_k267_X1_addToTally := fun w h => (List.mem_cons_of_mem _ (List.mem_append_right _ (List.mem_append_right _ (List.mem_append_left _ h))))
  have hin2 : ∀ w ∈ u_ws RX2 TX2 10, w ∈ wz_k267_X1_addToTally := fun w h => (List.mem_cons_of_mem _ (List.mem_append_right _ (List.mem_append_right _ (List.mem_append_right _ (List.mem_append_left _ h)))))
  refine g_aload_n hk dX1_addToTally_0 rfl ?_
  refine gX_r43_3 hk hin1 (List.mem_cons_of_mem _ (List.mem_append_left _ (List.mem_of_getElem? (i := 0) rfl))) dX1_addToTally_1 ?_
  refine g_iconst (v := 0) hk dX1_addToTally_4 (by decide) ?_
  refine g_dup2 hk dX1_addToTally_5 rfl rfl ?_
  refine lX_25 (v := (A 25 0)) hk (vp_in_iff.mpr ⟨by decide, by decide⟩) rfl dX1_addToTally_6 ?_
  refine g_iconst (v := 1) hk dX1_addToTally_7 (by decide) ?_
  have b5640l := Int32.le_toInt (A 25 0)
  have b5640h := Int32.toInt_lt (A 25 0)
  refine g_iadd hk dX1_addToTally_8 ?_
  refine g_topi (fun y5641 ey5641 => ?_)
  refine sX_25 (j := 0) hk (vp_in_iff.mpr ⟨by decide, by decide⟩) (by decide) dX1_addToTally_9 ?_
  refine g_aload_n hk dX1_addToTally_10 rfl ?_
  refine gX_r43_3 hk hin1 (List.mem_cons_of_mem _ (List.mem_append_left _ (List.mem_of_getElem? (i := 0) rfl))) dX1_addToTally_11 ?_
  refine g_bipush (v := 6) hk dX1_addToTally_14 (by decide) ?_
  refine g_dup2 hk dX1_addToTally_16 rfl rfl ?_
  refine lX_25 hk (vp_in_iff.mpr ⟨by decide, by decide⟩) rfl dX1_addToTally_17 ?_
  refine g_topi (fun y5642 ey5642 => ?_)
  refine g_aload_n hk dX1_addToTally_18 rfl ?_
  refine gX_r43_0 hk hin1 (List.mem_cons_of_mem _ (List.mem_append_left _ (List.mem_of_getElem? (i := 1) rfl))) dX1_addToTally_19 ?_
  refine gX_r37_3 hk hin0 (List.mem_cons_of_mem _ (List.mem_append_left _ (List.mem_of_getElem? (i := 2) rfl))) dX1_addToTally_22 ?_
  refine gX_i33 (v := (I 33)) hk hin2 (List.mem_cons_of_mem _ (List.mem_append_left _ (List.mem_of_getElem? (i := 3) rfl))) dX1_addToTally_25 rfl ?_
  have b5643l := Int32.le_toInt y5642
  have b5643h := Int32.toInt_lt y5642
  have b5644l := Int32.le_toInt (I 33)
  have b5644h := Int32.toInt_lt (I 33)
  refine g_iadd hk dX1_addToTally_28 ?_
  refine g_topi (fun y5645 ey5645 => ?_)
  refine sX_25 (j := 6) hk (vp_in_iff.mpr ⟨by decide, by decide⟩) (by decide) dX1_addToTally_29 ?_
  refine g_iload_n hk dX1_addToTally_30 rfl ?_
  have b5646l := Int32.le_toInt z1
  have b5646h := Int32.toInt_lt z1
  refine g_if_ne (tgt := 48) (a := z1.toInt) hk dX1_addToTally_31 (by decide) rfl (fun c5647 => ?_) (fun c5647 => ?_)
  · skip
    refine g_iload_n hk dX1_addToTally_48 rfl ?_
    refine g_iconst (v := 1) hk dX1_addToTally_49 (by decide) ?_
    refine g_icmp_lt (tgt := 68) (a := z1.toInt) (b := 1) hk dX1_addToTally_50 (by decide) rfl rfl (fun c5648 => ?_) (fun c5648 => ?_)
    · skip
      refine g_iload_n hk dX1_addToTally_68 rfl ?_
      refine g_iconst (v := 4) hk dX1_addToTally_69 (by decide) ?_
      refine g_icmp_ne (tgt := 95) (a := z1.toInt) (b := 4) hk dX1_addToTally_70 (by decide) rfl rfl (fun _ => ?_) (fun z9 => absurd (show z1.toInt ≠ 4 from by omega) z9)
      exact g_vret hk hR ⟨I, (up3 (up3 A 25 0 y5641) 25 6 y5645), (show Md [] I I from Md.rf), (show Md [25] A (up3 (up3 A 25 0 y5641) 25 6 y5645) from (Md.up3 (Md.up3 Md.rf rfl) rfl)), ⟨(IvX_f0 (I := I) (A := A) hIv), (IvX_f18 (I := I) (A := A) hIv), (IvX_f30 (I := I) (A := A) hIv), (IvX_f31 (I := I) (A := A) hIv), (IvX_a4 (I := I) (A := A) hIv), (IvX_a9 (I := I) (A := A) hIv), trivial⟩, rfl, rfl⟩ dX1_addToTally_95
    · skip
      refine g_iload_n hk dX1_addToTally_53 rfl ?_
      refine g_iconst (v := 5) hk dX1_addToTally_54 (by decide) ?_
      refine g_icmp_gt (tgt := 68) (a := z1.toInt) (b := 5) hk dX1_addToTally_55 (by decide) rfl rfl (fun c5649 => ?_) (fun c5649 => ?_)
      · skip
        refine g_iload_n hk dX1_addToTally_68 rfl ?_
        refine g_iconst (v := 4) hk dX1_addToTally_69 (by decide) ?_
        refine g_icmp_ne (tgt := 95) (a := z1.toInt) (b := 4) hk dX1_addToTally_70 (by decide) rfl rfl (fun _ => ?_) (fun z9 => absurd (show z1.toInt ≠ 4 from by omega) z9)
        exact g_vret hk hR ⟨I, (up3 (up3 A 25 0 y5641) 25 6 y5645), (show Md [] I I from Md.rf), (show Md [25] A (up3 (up3 A 25 0 y5641) 25 6 y5645) from (Md.up3 (Md.up3 Md.rf rfl) rfl)), ⟨(IvX_f0 (I := I) (A := A) hIv), (IvX_f18 (I := I) (A := A) hIv), (IvX_f30 (I := I) (A := A) hIv), (IvX_f31 (I := I) (A := A) hIv), (IvX_a4 (I := I) (A := A) hIv), (IvX_a9 (I := I) (A := A) hIv), trivial⟩, rfl, rfl⟩ dX1_addToTally_95
      · skip
        refine g_aload_n hk dX1_addToTally_58 rfl ?_
        refine gX_r43_3 hk hin1 (List.mem_cons_of_mem _ (List.mem_append_left _ (List.mem_of_getElem? (i := 0) rfl))) dX1_addToTally_59 ?_
        refine g_iload_n hk dX1_addToTally_62 rfl ?_
        refine g_dup2 hk dX1_addToTally_63 rfl rfl ?_
        refine lX_25 hk (vp_in_iff.mpr ⟨by omega, by omega⟩) rfl dX1_addToTally_64 ?_
        refine g_topi (fun y5650 ey5650 => ?_)
        refine g_iconst (v := 1) hk dX1_addToTally_65 (by decide) ?_
        have b5651l := Int32.le_toInt y5650
        have b5651h := Int32.toInt_lt y5650
        refine g_iadd hk dX1_addToTally_66 ?_
        refine g_topi (fun y5652 ey5652 => ?_)
        refine sX_25 (j := z1.toNatClampNeg) hk (vp_in_iff.mpr ⟨by omega, by omega⟩) rfl dX1_addToTally_67 ?_
        refine g_iload_n hk dX1_addToTally_68 rfl ?_
        refine g_iconst (v := 4) hk dX1_addToTally_69 (by decide) ?_
        refine g_icmp_ne (tgt := 95) (a := z1.toInt) (b := 4) hk dX1_addToTally_70 (by decide) rfl rfl (fun c5653 => ?_) (fun c5653 => ?_)
        · skip
          exact g_vret hk hR ⟨I, (up3 (up3 (up3 A 25 0 y5641) 25 6 y5645) 25 (z1.toNatClampNeg) y5652), (show Md [] I I from Md.rf), (show Md [25] A (up3 (up3 (up3 A 25 0 y5641) 25 6 y5645) 25 (z1.toNatClampNeg) y5652) from (Md.up3 (Md.up3 (Md.up3 Md.rf rfl) rfl) rfl)), ⟨(IvX_f0 (I := I) (A := A) hIv), (IvX_f18 (I := I) (A := A) hIv), (IvX_f30 (I := I) (A := A) hIv), (IvX_f31 (I := I) (A := A) hIv), (IvX_a4 (I := I) (A := A) hIv), (IvX_a9 (I := I) (A := A) hIv), trivial⟩, rfl, rfl⟩ dX1_addToTally_95
        · skip
          refine g_aload_n hk dX1_addToTally_73 rfl ?_
          refine gX_r43_3 hk hin1 (List.mem_cons_of_mem _ (List.mem_append_left _ (List.mem_of_getElem? (i := 0) rfl))) dX1_addToTally_74 ?_
          refine g_bipush (v := 8) hk dX1_addToTally_77 (by decide) ?_
          refine g_dup2 hk dX1_addToTally_79 rfl rfl ?_
          refine lX_25 hk (vp_in_iff.mpr ⟨by decide, by decide⟩) rfl dX1_addToTally_80 ?_
          refine g_topi (fun y5654 ey5654 => ?_)
          refine g_aload_n hk dX1_addToTally_81 rfl ?_
          refine gX_r43_0 hk hin1 (List.mem_cons_of_mem _ (List.mem_append_left _ (List.mem_of_getElem? (i := 1) rfl))) dX1_addToTally_82 ?_
          refine gX_r37_3 hk hin0 (List.mem_cons_of_mem _ (List.mem_append_left _ (List.mem_of_getElem? (i := 2) rfl))) dX1_addToTally_85 ?_
          refine gX_i34 (v := (I 34)) hk hin2 (List.mem_cons_of_mem _ (List.mem_append_left _ (List.mem_of_getElem? (i := 4) rfl))) dX1_addToTally_88 rfl ?_
          refine g_iconst (v := 1) hk dX1_addToTally_91 (by decide) ?_
          have b5655l := Int32.le_toInt (I 34)
          have b5655h := Int32.toInt_lt (I 34)
          refine g_iadd hk dX1_addToTally_92 ?_
          refine g_topi (fun y5656 ey5656 => ?_)
          have b5657l := Int32.le_toInt y5654
          have b5657h := Int32.toInt_lt y5654
          have b5658l := Int32.le_toInt y5656
          have b5658h := Int32.toInt_lt y5656
          refine g_iadd hk dX1_addToTally_93 ?_
          refine g_topi (fun y5659 ey5659 => ?_)
          refine sX_25 (j := 8) hk (vp_in_iff.mpr ⟨by decide, by decide⟩) (by decide) dX1_addToTally_94 ?_
          exact g_vret hk hR ⟨I, (up3 (up3 (up3 (up3 A 25 0 y5641) 25 6 y5645) 25 (z1.toNatClampNeg) y5652) 25 8 y5659), (show Md [] I I from Md.rf), (show Md [25] A (up3 (up3 (up3 (up3 A 25 0 y5641) 25 6 y5645) 25 (z1.toNatClampNeg) y5652) 25 8 y5659) from (Md.up3 (Md.up3 (Md.up3 (Md.up3 Md.rf rfl) rfl) rfl) rfl)), ⟨(IvX_f0 (I := I) (A := A) hIv), (IvX_f18 (I := I) (A := A) hIv), (IvX_f30 (I := I) (A := A) hIv), (IvX_f31 (I := I) (A := A) hIv), (IvX_a4 (I := I) (A := A) hIv), (IvX_a9 (I := I) (A := A) hIv), trivial⟩, rfl, rfl⟩ dX1_addToTally_95
  · skip
    refine g_aload_n hk dX1_addToTally_34 rfl ?_
    refine gX_r43_3 hk hin1 (List.mem_cons_of_mem _ (List.mem_append_left _ (List.mem_of_getElem? (i := 0) rfl))) dX1_addToTally_35 ?_
    refine g_bipush (v := 7) hk dX1_addToTally_38 (by decide) ?_
    refine g_dup2 hk dX1_addToTally_40 rfl rfl ?_
    refine lX_25 hk (vp_in_iff.mpr ⟨by decide, by decide⟩) rfl dX1_addToTally_41 ?_
    refine g_topi (fun y5660 ey5660 => ?_)
    refine g_iconst (v := 1) hk dX1_addToTally_42 (by decide) ?_
    have b5661l := Int32.le_toInt y5660
    have b5661h := Int32.toInt_lt y5660
    refine g_iadd hk dX1_addToTally_43 ?_
    refine g_topi (fun y5662 ey5662 => ?_)
    refine sX_25 (j := 7) hk (vp_in_iff.mpr ⟨by decide, by decide⟩) (by decide) dX1_addToTally_44 ?_
    refine g_goto (tgt := 68) hk dX1_addToTally_45 (by decide) ?_
    refine g_iload_n hk dX1_addToTally_68 rfl ?_
    refine g_iconst (v := 4) hk dX1_addToTally_69 (by decide) ?_
    refine g_icmp_ne (tgt := 95) (a := z1.toInt) (b := 4) hk dX1_addToTally_70 (by decide) rfl rfl (fun _ => ?_) (fun z9 => absurd (show z1.toInt ≠ 4 from by omega) z9)
    exact g_vret hk hR ⟨I, (up3 (up3 (up3 A 25 0 y5641) 25 6 y5645) 25 7 y5662), (show Md [] I I from Md.rf), (show Md [25] A (up3 (up3 (up3 A 25 0 y5641) 25 6 y5645) 25 7 y5662) from (Md.up3 (Md.up3 (Md.up3 Md.rf rfl) rfl) rfl)), ⟨(IvX_f0 (I := I) (A := A) hIv), (IvX_f18 (I := I) (A := A) hIv), (IvX_f30 (I := I) (A := A) hIv), (IvX_f31 (I := I) (A := A) hIv), (IvX_a4 (I := I) (A := A) hIv), (IvX_a9 (I := I) (A := A) hIv), trivial⟩, rfl, rfl⟩ dX1_addToTally_95
def wo_k266_X1_runSearch : List Cond := [Cond.fieldLink RX1 11 "WarpDesk$Finder" "tally" "[I", Cond.constant RX1 44 (2147483647), Cond.fieldLink RX1 28 "WarpDesk$Finder" "bench" "LWarpDesk$Bench;", Cond.fieldLink RX1 45 "WarpDesk$Bench" "settings" "LWarpDesk$Settings;", Cond.methodLink RX1 49 yX7_valueOf, Cond.instanceMethod yX7_valueOf, Cond.selects RX7 yX7_valueOf yX7_valueOf, Cond.initialized RX7, Cond.methodLink RX1 55 yX0_openQuery, Cond.instanceMethod yX0_openQuery, Cond.selects RX0 yX0_openQuery yX0_openQuery, Cond.initialized RX0, Cond.fieldLink RX1 38 "WarpDesk$Finder" "series" "LWarpDesk$Series;", Cond.fieldLink RX1 59 "WarpDesk$Series" "size" "I", Cond.fieldLink RX1 43 "WarpDesk$Finder" "queries" "LWarpDesk$Queries;", Cond.methodLink RX1 65 yX4_lengthOf, Cond.instanceMethod yX4_lengthOf, Cond.selects RX4 yX4_lengthOf yX4_lengthOf, Cond.initialized RX4, Cond.methodLink RX1 70 yX6_hasWindow, Cond.instanceMethod yX6_hasWindow, Cond.selects RX6 yX6_hasWindow yX6_hasWindow, Cond.initialized RX6, Cond.methodLink RX1 74 yX0_laySecondWindow, Cond.instanceMethod yX0_laySecondWindow, Cond.selects RX0 yX0_laySecondWindow yX0_laySecondWindow, Cond.fieldLink RX1 78 "WarpDesk$Bench" "fit" "LWarpDesk$Fit;", Cond.methodLink RX1 82 yX2_lookAt, Cond.instanceMethod yX2_lookAt, Cond.selects RX2 yX2_lookAt yX2_lookAt, Cond.initialized RX2, Cond.methodLink RX1 87 yX1_addToTally, Cond.instanceMethod yX1_addToTally, Cond.selects RX1 yX1_addToTally yX1_addToTally, Cond.initialized RX1, Cond.methodLink RX1 90 yX2_laidDistance, Cond.instanceMethod yX2_laidDistance, Cond.selects RX2 yX2_laidDistance yX2_laidDistance]
def wz_k266_X1_runSearch : List Cond := .code yX1_runSearch cX1_runSearch 5 none :: (wo_k266_X1_runSearch ++ (wsX00 ++ (wsX10 ++ (wsX60 ++ (wz_k194_X7_valueOf ++ (wz_k224_X0_openQuery ++ (wz_k182_X4_lengthOf ++ (wz_k207_X6_hasWindow ++ (wz_k226_X0_laySecondWindow ++ (wz_k247_X2_lookAt ++ (wz_k267_X1_addToTally ++ (wz_k237_X2_laidDistance ++ ([] : List Cond)))))))))))))
theorem zg_k266_X1_runSearch : ∀ w ∈ wz_k266_X1_runSearch, goodWord w = true := zg_cons rfl (zg_app (by decide +kernel) (zg_app zgU_wsX00 (zg_app zgU_wsX10 (zg_app zgU_wsX60 (zg_app zg_k194_X7_valueOf (zg_app zg_k224_X0_openQuery (zg_app zg_k182_X4_lengthOf (zg_app zg_k207_X6_hasWindow (zg_app zg_k226_X0_laySecondWindow (zg_app zg_k247_X2_lookAt (zg_app zg_k267_X1_addToTally (zg_app zg_k237_X2_laidDistance zg_nil))))))))))))
theorem zi_k266_X1_runSearch : ∀ w ∈ wz_k266_X1_runSearch, w ∈ lw_tbl := zi_cons zw_1136 (zi_app (zi_cons zw_405 (zi_cons zw_1101 (zi_cons zw_402 (zi_cons zw_379 (zi_cons zw_1137 (zi_cons zw_786 (zi_cons zw_787 (zi_cons zw_107 (zi_cons zw_1121 (zi_cons zw_981 (zi_cons zw_982 (zi_cons zw_111 (zi_cons zw_403 (zi_cons zw_283 (zi_cons zw_404 (zi_cons zw_1102 (zi_cons zw_757 (zi_cons zw_758 (zi_cons zw_108 (zi_cons zw_1122 (zi_cons zw_902 (zi_cons zw_903 (zi_cons zw_109 (zi_cons zw_1123 (zi_cons zw_989 (zi_cons zw_990 (zi_cons zw_382 (zi_cons zw_1138 (zi_cons zw_1046 (zi_cons zw_1047 (zi_cons zw_112 (zi_cons zw_1139 (zi_cons zw_1141 (zi_cons zw_35 (zi_cons zw_113 (zi_cons zw_1128 (zi_cons zw_1014 (zi_cons zw_1015 zi_nil)))))))))))))))))))))))))))))))))))))) (zi_app inX0 (zi_app inX1 (zi_app inX6 (zi_app zi_k194_X7_valueOf (zi_app zi_k224_X0_openQuery (zi_app zi_k182_X4_lengthOf (zi_app zi_k207_X6_hasWindow (zi_app zi_k226_X0_laySecondWindow (zi_app zi_k247_X2_lookAt (zi_app zi_k267_X1_addToTally (zi_app zi_k237_X2_laidDistance zi_nil))))))))))))
set_option maxHeartbeats 4000000 in
set_option maxRecDepth 100000 in
theorem k266_X1_runSearch (l : Launch) (D : va_G) (zt : Nat × Nat × Nat × (Nat → Nat) × (Nat → Nat)) (q : Nat → Nat) (d : Nat → ClassId) (I : Nat → Int32) (A : Nat → Nat → Int32) (z1 : Int32) (hIv : IvX I A) : GM l D zt (tyX d) yX1_runSearch wz_k266_X1_runSearch ({ frames := 5, cells := 0, slots := 0, locals := 109 } : Room) [.ref (q 43), .int z1] (wX q d I A) (fun v _ w' => ∃ (I' : Nat → Int32) (A' : Nat → Nat → Int32), Md [28, 30, 31, 32, 33, 34] I I' ∧ Md [21, 22, 23, 25] A A' ∧ IvX I' A' ∧ v = none ∧ w' = wX q d I' A') 0 0 := by
  refine GM.of (cc := cX1_runSearch) (maxL := 5) (ret := none) (own := RX1) (lv := [(0, .ref (q 43)), (1, .int z1)]) (by decide) rfl rfl (Nat.le_of_ble_eq_true rfl) rfl (fun κ sz hk hR hN => ?_)
  have hin0 : ∀ w ∈ u_ws RX0 TX0 5, w ∈ wz_k266_X1_runSearch := fun w h => (List.mem_cons_of_mem _ (List.mem_append_right _ (List.mem_append_left _ h)))
  have hin1 : ∀ w ∈ u_ws RX1 TX1 11, w ∈ wz_k266_X1_runSearch := fun w h => (List.mem_cons_of_mem _ (List.mem_append_right _ (List.mem_append_right _ (List.mem_append_left _ h))))
  have hin6 : ∀ w ∈ u_ws RX6 TX6 3, w ∈ wz_k266_X1_runSearch := fun w h => (List.mem_cons_of_mem _ (List.mem_append_right _ (List.mem_append_right _ (List.mem_append_right _ (List.mem_append_left _ h)))))
  refine g_iconst (v := 0) hk dX1_runSearch_0 (by decide) ?_
  refine g_istore_n (lv' := [(2, .int 0), (0, .ref (q 43)), (1, .int z1)]) hk dX1_runSearch_1 (by decide) rfl ?_
  have lp6200 : ∀ (n6201 : Nat) (x5595 : Int32) (I5598 : Nat → Int32) (A5598 : Nat → Nat → Int32), (Md [] I I5598) → (Md [25] A A5598) → (IvX I5598 A5598) → (0 ≤ x5595.toInt) → (x5595.toInt ≤ 9) → (10 - x5595.toInt < (n6201 : Int)) → (0 < n6201) → GW κ 5 0 0 (wX q d I5598 A5598) 2 [(2, .int x5595), (0, .ref (q 43)), (1, .int z1)] [] := by
    intro n6201
    induction n6201 with
    | zero =>
      intro x5595 I5598 A5598 hI5598 hA5598 hV5598 h6198 h6199 m6202 m6202z
      exact absurd m6202z (Nat.lt_irrefl 0)
    | succ n6201 ih =>
      intro x5595 I5598 A5598 hI5598 hA5598 hV5598 h6198 h6199 m6202 m6202z
      refine g_iload_n hk dX1_runSearch_2 rfl ?_
      refine g_bipush (v := 9) hk dX1_runSearch_3 (by decide) ?_
      refine g_icmp_ge (tgt := 21) (a := x5595.toInt) (b := 9) hk dX1_runSearch_5 (by decide) rfl rfl (fun c6203 => ?_) (fun c6203 => ?_)
      · skip
        refine g_ldc (v := 2147483647) hk (List.mem_cons_of_mem _ (List.mem_append_left _ (List.mem_of_getElem? (i := 1) rfl))) dX1_runSearch_21 ?_
        refine g_istore_n (lv' := [(2, .int 2147483647), (0, .ref (q 43)), (1, .int z1)]) hk dX1_runSearch_23 (by decide) rfl ?_
        refine g_aload_n hk dX1_runSearch_24 rfl ?_
        refine gX_r43_0 hk hin1 (List.mem_cons_of_mem _ (List.mem_append_left _ (List.mem_of_getElem? (i := 2) rfl))) dX1_runSearch_25 ?_
        refine g_iload_n hk dX1_runSearch_28 rfl ?_
        refine g_aload_n hk dX1_runSearch_29 rfl ?_
        refine gX_r43_0 hk hin1 (List.mem_cons_of_mem _ (List.mem_append_left _ (List.mem_of_getElem? (i := 2) rfl))) dX1_runSearch_30 ?_
        refine gX_r37_2 hk hin0 (List.mem_cons_of_mem _ (List.mem_append_left _ (List.mem_of_getElem? (i := 3) rfl))) dX1_runSearch_33 ?_
        refine g_iconst (v := 0) hk dX1_runSearch_36 (by decide) ?_
        have k6204 : (0 : Int32).toInt = 0 := rfl
        refine g_callV (n := 1) hk (k194_X7_valueOf l D zt q d I5598 A5598 0 hV5598) (SP.same _) (fun _ h => h) (gi_V (List.mem_cons_of_mem _ (List.mem_append_left _ (List.mem_of_getElem? (i := 4) rfl))) (List.mem_cons_of_mem _ (List.mem_append_left _ (List.mem_of_getElem? (i := 5) rfl))) (List.mem_cons_of_mem _ (List.mem_append_left _ (List.mem_of_getElem? (i := 6) rfl))) (List.mem_cons_of_mem _ (List.mem_append_left _ (List.mem_of_getElem? (i := 7) rfl))) (gi_sub (fun w h => (List.mem_cons_of_mem _ (List.mem_append_right _ (List.mem_append_right _ (List.mem_append_right _ (List.mem_append_right _ (List.mem_append_left _ h))))))) zg_k194_X7_valueOf)) rfl rfl rfl (by decide +kernel) ⟨Nat.le_of_ble_eq_true rfl, Nat.le_of_ble_eq_true rfl⟩ 18 rfl rfl rfl rfl (Nat.le_of_ble_eq_true rfl) ⟨Nat.le_of_ble_eq_true rfl, Nat.le_of_ble_eq_true rfl⟩ dX1_runSearch_37 (fun v ty' w' hp hk' => ?_)
        obtain ⟨y6205, rfl, rfl⟩ := hp
        show GW κ 5 0 0 (wX q d I5598 A5598) 40 [(2, .int 2147483647), (0, .ref (q 43)), (1, .int z1)] [.int y6205, .int z1, .ref (q 37)]
        refine g_callV (n := 2) hk (k224_X0_openQuery l D zt q d I5598 A5598 z1 y6205 hV5598) (SP.same _) (fun _ h => h) (gi_V (List.mem_cons_of_mem _ (List.mem_append_left _ (List.mem_of_getElem? (i := 8) rfl))) (List.mem_cons_of_mem _ (List.mem_append_left _ (List.mem_of_getElem? (i := 9) rfl))) (List.mem_cons_of_mem _ (List.mem_append_left _ (List.mem_of_getElem? (i := 10) rfl))) (List.mem_cons_of_mem _ (List.mem_append_left _ (List.mem_of_getElem? (i := 11) rfl))) (gi_sub (fun w h => (List.mem_cons_of_mem _ (List.mem_append_right _ (List.mem_append_right _ (List.mem_append_right _ (List.mem_append_right _ (List.mem_append_right _ (List.mem_append_left _ h)))))))) zg_k224_X0_openQuery)) rfl rfl rfl (by decide +kernel) ⟨Nat.le_of_ble_eq_true rfl, Nat.le_of_ble_eq_true rfl⟩ 37 rfl rfl rfl rfl (Nat.le_of_ble_eq_true rfl) ⟨Nat.le_of_ble_eq_true rfl, Nat.le_of_ble_eq_true rfl⟩ dX1_runSearch_40 (fun v ty' w' hp hk' => ?_)
        obtain ⟨I6207, A6207, hI6207, hA6207, hV6207, rfl, rfl⟩ := hp
        show GW κ 5 0 0 (wX q d I6207 A6207) 43 [(2, .int 2147483647), (0, .ref (q 43)), (1, .int z1)] []
        refine g_iconst (v := 0) hk dX1_runSearch_43 (by decide) ?_
        refine g_istore_n (lv' := [(3, .int 0), (2, .int 2147483647), (0, .ref (q 43)), (1, .int z1)]) hk dX1_runSearch_44 (by decide) rfl ?_
        have lp6428 : ∀ (n6429 : Nat) (x6208 : Int32) (x6209 : Int32) (I6212 : Nat → Int32) (A6212 : Nat → Nat → Int32), (Md [33, 34] I6207 I6212) → (Md [22, 23, 25] A6207 A6212) → (IvX I6212 A6212) → (0 ≤ x6208.toInt) → (x6208.toInt ≤ 160) → (161 - x6208.toInt < (n6429 : Int)) → (0 < n6429) → GW κ 5 0 0 (wX q d I6212 A6212) 45 [(3, .int x6208), (2, .int x6209), (0, .ref (q 43)), (1, .int z1)] [] := by
          intro n6429
          induction n6429 with
          | zero =>
            intro x6208 x6209 I6212 A6212 hI6212 hA6212 hV6212 h6426 h6427 m6430 m6430z
            exact absurd m6430z (Nat.lt_irrefl 0)
          | succ n6429 ih =>
            intro x6208 x6209 I6212 A6212 hI6212 hA6212 hV6212 h6426 h6427 m6430 m6430z
            refine g_iload_n hk dX1_runSearch_45 rfl ?_
            refine g_aload_n hk dX1_runSearch_46 rfl ?_
            refine gX_r43_1 hk hin1 (List.mem_cons_of_mem _ (List.mem_append_left _ (List.mem_of_getElem? (i := 12) rfl))) dX1_runSearch_47 ?_
            refine gX_i18 (v := (I 18)) hk hin6 (List.mem_cons_of_mem _ (List.mem_append_left _ (List.mem_of_getElem? (i := 13) rfl))) dX1_runSearch_50 ((hI6212 18 rfl).trans ((hI6207 18 rfl).trans (hI5598 18 rfl))) ?_
            have f6431 := IvX_f18 hIv
            refine g_icmp_ge (tgt := 124) (a := x6208.toInt) (b := (I 18).toInt) hk dX1_runSearch_53 (by decide) rfl rfl (fun c6432 => ?_) (fun c6432 => ?_)
            · skip
              exact g_vret hk hR ⟨I6212, A6212, (show Md [28, 30, 31, 32, 33, 34] I I6212 from (Md.tr (Md.tr (Md.tr Md.rf hI5598 rfl) hI6207 rfl) hI6212 rfl)), (show Md [21, 22, 23, 25] A A6212 from (Md.tr (Md.tr (Md.tr Md.rf hA5598 rfl) hA6207 rfl) hA6212 rfl)), hV6212, rfl, rfl⟩ dX1_runSearch_124
            · skip
              refine g_aload_n hk dX1_runSearch_56 rfl ?_
              refine gX_r43_1 hk hin1 (List.mem_cons_of_mem _ (List.mem_append_left _ (List.mem_of_getElem? (i := 12) rfl))) dX1_runSearch_57 ?_
              refine g_iload_n hk dX1_runSearch_60 rfl ?_
              refine g_aload_n hk dX1_runSearch_61 rfl ?_
              refine gX_r43_2 hk hin1 (List.mem_cons_of_mem _ (List.mem_append_left _ (List.mem_of_getElem? (i := 14) rfl))) dX1_runSearch_62 ?_
              refine g_iload_n hk dX1_runSearch_65 rfl ?_
              refine g_callV (n := 1) hk (k182_X4_lengthOf l D zt q d I6212 A6212 z1 hV6212) (SP.same _) (fun _ h => h) (gi_V (List.mem_cons_of_mem _ (List.mem_append_left _ (List.mem_of_getElem? (i := 15) rfl))) (List.mem_cons_of_mem _ (List.mem_append_left _ (List.mem_of_getElem? (i := 16) rfl))) (List.mem_cons_of_mem _ (List.mem_append_left _ (List.mem_of_getElem? (i := 17) rfl))) (List.mem_cons_of_mem _ (List.mem_append_left _ (List.mem_of_getElem? (i := 18) rfl))) (gi_sub (fun w h => (List.mem_cons_of_mem _ (List.mem_append_right _ (List.mem_append_right _ (List.mem_append_right _ (List.mem_append_right _ (List.mem_append_right _ (List.mem_append_right _ (List.mem_append_left _ h))))))))) zg_k182_X4_lengthOf)) rfl rfl rfl (by decide +kernel) ⟨Nat.le_of_ble_eq_true rfl, Nat.le_of_ble_eq_true rfl⟩ 15 rfl rfl rfl rfl (Nat.le_of_ble_eq_true rfl) ⟨Nat.le_of_ble_eq_true rfl, Nat.le_of_ble_eq_true rfl⟩ dX1_runSearch_66 (fun v ty' w' hp hk' => ?_)
              rcases hp with ⟨rfl, rfl⟩ | ⟨y6440, c6434, c6435, c6436, c6437, c6438, c6439, c6441, c6442, rfl, rfl⟩
              · skip
                show GW κ 5 0 0 (wX q d I6212 A6212) 69 [(3, .int x6208), (2, .int x6209), (0, .ref (q 43)), (1, .int z1)] [.int 0, .int x6208, .ref (q 13)]
                refine g_callV (n := 2) hk (k207_X6_hasWindow l D zt q d I6212 A6212 x6208 0 hV6212) (SP.same _) (fun _ h => h) (gi_V (List.mem_cons_of_mem _ (List.mem_append_left _ (List.mem_of_getElem? (i := 19) rfl))) (List.mem_cons_of_mem _ (List.mem_append_left _ (List.mem_of_getElem? (i := 20) rfl))) (List.mem_cons_of_mem _ (List.mem_append_left _ (List.mem_of_getElem? (i := 21) rfl))) (List.mem_cons_of_mem _ (List.mem_append_left _ (List.mem_of_getElem? (i := 22) rfl))) (gi_sub (fun w h => (List.mem_cons_of_mem _ (List.mem_append_right _ (List.mem_append_right _ (List.mem_append_right _ (List.mem_append_right _ (List.mem_append_right _ (List.mem_append_right _ (List.mem_append_right _ (List.mem_append_left _ h)))))))))) zg_k207_X6_hasWindow)) rfl rfl rfl (by decide +kernel) ⟨Nat.le_of_ble_eq_true rfl, Nat.le_of_ble_eq_true rfl⟩ 13 rfl rfl rfl rfl (Nat.le_of_ble_eq_true rfl) ⟨Nat.le_of_ble_eq_true rfl, Nat.le_of_ble_eq_true rfl⟩ dX1_runSearch_69 (fun v ty' w' hp hk' => ?_)
                rcases hp with ⟨rfl, rfl⟩ | ⟨c6444, c6445, c6446, c6447, c6448, c6449, rfl, rfl⟩
                · skip
                  show GW κ 5 0 0 (wX q d I6212 A6212) 72 [(3, .int x6208), (2, .int x6209), (0, .ref (q 43)), (1, .int z1)] [.int 0]
                  refine g_if_eq (tgt := 118) (a := 0) hk dX1_runSearch_72 (by decide) rfl (fun _ => ?_) (fun z9 => absurd (show (0 : Int) = (0 : Int) from by decide) z9)
                  obtain ⟨y6451, ey6451⟩ : ∃ y : Int32, y = x6208 + Int32.ofInt 1 := ⟨_, rfl⟩
                  have hy6451 : y6451.toInt = x6208.toInt + 1 := i32_add ey6451 rfl (by decide) (by omega) (by omega)
                  refine g_iinc (v := y6451) (lv' := [(3, .int y6451), (2, .int x6209), (0, .ref (q 43)), (1, .int z1)]) hk 0 dX1_runSearch_118 rfl ey6451.symm (by decide) rfl ?_
                  refine g_goto (tgt := 45) hk dX1_runSearch_121 (by decide) ?_
                  exact g_lv (List.forall_mem_cons.mpr ⟨List.mem_of_getElem? (i := 0) rfl, (List.forall_mem_cons.mpr ⟨List.mem_of_getElem? (i := 1) rfl, (List.forall_mem_cons.mpr ⟨List.mem_of_getElem? (i := 2) rfl, (List.forall_mem_cons.mpr ⟨List.mem_of_getElem? (i := 3) rfl, (fun _ h => absurd h List.not_mem_nil)⟩)⟩)⟩)⟩) (ih y6451 x6209 I6212 A6212 (show Md [33, 34] I6207 I6212 from Md.tr hI6212 (show Md [33, 34] I6212 I6212 from Md.rf) rfl) (show Md [22, 23, 25] A6207 A6212 from Md.tr hA6212 (show Md [22, 23, 25] A6212 A6212 from Md.rf) rfl) hV6212 (by omega) (by omega) (by omega) (by omega))
                · skip
                  show GW κ 5 0 0 (wX q d I6212 A6212) 72 [(3, .int x6208), (2, .int x6209), (0, .ref (q 43)), (1, .int z1)] [.int 1]
                  refine g_if_eq (tgt := 118) (a := 1) hk dX1_runSearch_72 (by decide) rfl (fun z9 => absurd z9 (show ¬ ((1 : Int) = (0 : Int)) from by decide)) (fun _ => ?_)
                  refine g_aload_n hk dX1_runSearch_75 rfl ?_
                  refine gX_r43_0 hk hin1 (List.mem_cons_of_mem _ (List.mem_append_left _ (List.mem_of_getElem? (i := 2) rfl))) dX1_runSearch_76 ?_
                  refine g_iload_n hk dX1_runSearch_79 rfl ?_
                  refine g_callV (n := 1) hk (k226_X0_laySecondWindow l D zt q d I6212 A6212 x6208 hV6212) (SP.same _) (fun _ h => h) (gi_V (List.mem_cons_of_mem _ (List.mem_append_left _ (List.mem_of_getElem? (i := 23) rfl))) (List.mem_cons_of_mem _ (List.mem_append_left _ (List.mem_of_getElem? (i := 24) rfl))) (List.mem_cons_of_mem _ (List.mem_append_left _ (List.mem_of_getElem? (i := 25) rfl))) (List.mem_cons_of_mem _ (List.mem_append_left _ (List.mem_of_getElem? (i := 11) rfl))) (gi_sub (fun w h => (List.mem_cons_of_mem _ (List.mem_append_right _ (List.mem_append_right _ (List.mem_append_right _ (List.mem_append_right _ (List.mem_append_right _ (List.mem_append_right _ (List.mem_append_right _ (List.mem_append_right _ (List.mem_append_left _ h))))))))))) zg_k226_X0_laySecondWindow)) rfl rfl rfl (by decide +kernel) ⟨Nat.le_of_ble_eq_true rfl, Nat.le_of_ble_eq_true rfl⟩ 37 rfl rfl rfl rfl (Nat.le_of_ble_eq_true rfl) ⟨Nat.le_of_ble_eq_true rfl, Nat.le_of_ble_eq_true rfl⟩ dX1_runSearch_80 (fun v ty' w' hp hk' => ?_)
                  obtain ⟨I6453, A6453, hI6453, hA6453, hV6453, rfl, rfl⟩ := hp
                  show GW κ 5 0 0 (wX q d I6453 A6453) 83 [(3, .int x6208), (2, .int x6209), (0, .ref (q 43)), (1, .int z1)] []
                  refine g_aload_n hk dX1_runSearch_83 rfl ?_
                  refine gX_r43_0 hk hin1 (List.mem_cons_of_mem _ (List.mem_append_left _ (List.mem_of_getElem? (i := 2) rfl))) dX1_runSearch_84 ?_
                  refine gX_r37_3 hk hin0 (List.mem_cons_of_mem _ (List.mem_append_left _ (List.mem_of_getElem? (i := 26) rfl))) dX1_runSearch_87 ?_
                  refine g_iload_n hk dX1_runSearch_90 rfl ?_
                  refine g_callV (n := 1) hk (k247_X2_lookAt l D zt q d I6453 A6453 x6209 hV6453) (SP.same _) (fun _ h => h) (gi_V (List.mem_cons_of_mem _ (List.mem_append_left _ (List.mem_of_getElem? (i := 27) rfl))) (List.mem_cons_of_mem _ (List.mem_append_left _ (List.mem_of_getElem? (i := 28) rfl))) (List.mem_cons_of_mem _ (List.mem_append_left _ (List.mem_of_getElem? (i := 29) rfl))) (List.mem_cons_of_mem _ (List.mem_append_left _ (List.mem_of_getElem? (i := 30) rfl))) (gi_sub (fun w h => (List.mem_cons_of_mem _ (List.mem_append_right _ (List.mem_append_right _ (List.mem_append_right _ (List.mem_append_right _ (List.mem_append_right _ (List.mem_append_right _ (List.mem_append_right _ (List.mem_append_right _ (List.mem_append_right _ (List.mem_append_left _ h)))))))))))) zg_k247_X2_lookAt)) rfl rfl rfl (by decide +kernel) ⟨Nat.le_of_ble_eq_true rfl, Nat.le_of_ble_eq_true rfl⟩ 38 rfl rfl rfl rfl (Nat.le_of_ble_eq_true rfl) ⟨Nat.le_of_ble_eq_true rfl, Nat.le_of_ble_eq_true rfl⟩ dX1_runSearch_91 (fun v ty' w' hp hk' => ?_)
                  obtain ⟨I6457, A6457, hI6457, hA6457, hV6457, y6454, c6455, c6456, rfl, rfl⟩ := hp
                  show GW κ 5 0 0 (wX q d I6457 A6457) 94 [(3, .int x6208), (2, .int x6209), (0, .ref (q 43)), (1, .int z1)] [.int y6454]
                  refine g_istore (lv' := [(4, .int y6454), (3, .int x6208), (2, .int x6209), (0, .ref (q 43)), (1, .int z1)]) hk dX1_runSearch_94 (by decide) rfl ?_
                  refine g_aload_n hk dX1_runSearch_96 rfl ?_
                  refine g_iload hk dX1_runSearch_97 rfl ?_
                  refine g_callV (n := 1) hk (k267_X1_addToTally l D zt q d I6457 A6457 y6454 hV6457) (SP.same _) (fun _ h => h) (gi_V (List.mem_cons_of_mem _ (List.mem_append_left _ (List.mem_of_getElem? (i := 31) rfl))) (List.mem_cons_of_mem _ (List.mem_append_left _ (List.mem_of_getElem? (i := 32) rfl))) (List.mem_cons_of_mem _ (List.mem_append_left _ (List.mem_of_getElem? (i := 33) rfl))) (List.mem_cons_of_mem _ (List.mem_append_left _ (List.mem_of_getElem? (i := 34) rfl))) (gi_sub (fun w h => (List.mem_cons_of_mem _ (List.mem_append_right _ (List.mem_append_right _ (List.mem_append_right _ (List.mem_append_right _ (List.mem_append_right _ (List.mem_append_right _ (List.mem_append_right _ (List.mem_append_right _ (List.mem_append_right _ (List.mem_append_right _ (List.mem_append_left _ h))))))))))))) zg_k267_X1_addToTally)) rfl rfl rfl (by decide +kernel) ⟨Nat.le_of_ble_eq_true rfl, Nat.le_of_ble_eq_true rfl⟩ 43 rfl rfl rfl rfl (Nat.le_of_ble_eq_true rfl) ⟨Nat.le_of_ble_eq_true rfl, Nat.le_of_ble_eq_true rfl⟩ dX1_runSearch_99 (fun v ty' w' hp hk' => ?_)
                  obtain ⟨I6459, A6459, hI6459, hA6459, hV6459, rfl, rfl⟩ := hp
                  show GW κ 5 0 0 (wX q d I6459 A6459) 102 [(4, .int y6454), (3, .int x6208), (2, .int x6209), (0, .ref (q 43)), (1, .int z1)] []
                  refine g_iload hk dX1_runSearch_102 rfl ?_
                  refine g_if_ne (tgt := 118) (a := y6454.toInt) hk dX1_runSearch_104 (by decide) rfl (fun c6460 => ?_) (fun c6460 => ?_)
                  · skip
                    obtain ⟨y6461, ey6461⟩ : ∃ y : Int32, y = x6208 + Int32.ofInt 1 := ⟨_, rfl⟩
                    have hy6461 : y6461.toInt = x6208.toInt + 1 := i32_add ey6461 rfl (by decide) (by omega) (by omega)
                    refine g_iinc (v := y6461) (lv' := [(3, .int y6461), (4, .int y6454), (2, .int x6209), (0, .ref (q 43)), (1, .int z1)]) hk 1 dX1_runSearch_118 rfl ey6461.symm (by decide) rfl ?_
                    refine g_goto (tgt := 45) hk dX1_runSearch_121 (by decide) ?_
                    exact g_lv (List.forall_mem_cons.mpr ⟨List.mem_of_getElem? (i := 0) rfl, (List.forall_mem_cons.mpr ⟨List.mem_of_getElem? (i := 2) rfl, (List.forall_mem_cons.mpr ⟨List.mem_of_getElem? (i := 3) rfl, (List.forall_mem_cons.mpr ⟨List.mem_of_getElem? (i := 4) rfl, (fun _ h => absurd h List.not_mem_nil)⟩)⟩)⟩)⟩) (ih y6461 x6209 I6459 A6459 (show Md [33, 34] I6207 I6459 from Md.tr hI6212 (show Md [33, 34] I6212 I6459 from (Md.tr (Md.tr (Md.tr Md.rf hI6453 rfl) hI6457 rfl) hI6459 rfl)) rfl) (show Md [22, 23, 25] A6207 A6459 from Md.tr hA6212 (show Md [22, 23, 25] A6212 A6459 from (Md.tr (Md.tr (Md.tr Md.rf hA6453 rfl) hA6457 rfl) hA6459 rfl)) rfl) hV6459 (by omega) (by omega) (by omega) (by omega))
                  · skip
                    refine g_aload_n hk dX1_runSearch_107 rfl ?_
                    refine gX_r43_0 hk hin1 (List.mem_cons_of_mem _ (List.mem_append_left _ (List.mem_of_getElem? (i := 2) rfl))) dX1_runSearch_108 ?_
                    refine gX_r37_3 hk hin0 (List.mem_cons_of_mem _ (List.mem_append_left _ (List.mem_of_getElem? (i := 26) rfl))) dX1_runSearch_111 ?_
                    refine g_callV (n := 0) hk (k237_X2_laidDistance l D zt q d I6459 A6459  hV6459) (SP.same _) (fun _ h => h) (gi_V (List.mem_cons_of_mem _ (List.mem_append_left _ (List.mem_of_getElem? (i := 35) rfl))) (List.mem_cons_of_mem _ (List.mem_append_left _ (List.mem_of_getElem? (i := 36) rfl))) (List.mem_cons_of_mem _ (List.mem_append_left _ (List.mem_of_getElem? (i := 37) rfl))) (List.mem_cons_of_mem _ (List.mem_append_left _ (List.mem_of_getElem? (i := 30) rfl))) (gi_sub (fun w h => (List.mem_cons_of_mem _ (List.mem_append_right _ (List.mem_append_right _ (List.mem_append_right _ (List.mem_append_right _ (List.mem_append_right _ (List.mem_append_right _ (List.mem_append_right _ (List.mem_append_right _ (List.mem_append_right _ (List.mem_append_right _ (List.mem_append_right _ (List.mem_append_left _ h)))))))))))))) zg_k237_X2_laidDistance)) rfl rfl rfl (by decide +kernel) ⟨Nat.le_of_ble_eq_true rfl, Nat.le_of_ble_eq_true rfl⟩ 38 rfl rfl rfl rfl (Nat.le_of_ble_eq_true rfl) ⟨Nat.le_of_ble_eq_true rfl, Nat.le_of_ble_eq_true rfl⟩ dX1_runSearch_114 (fun v ty' w' hp hk' => ?_)
                    obtain ⟨y6462, rfl, rfl⟩ := hp
                    show GW κ 5 0 0 (wX q d I6459 A6459) 117 [(4, .int y6454), (3, .int x6208), (2, .int x6209), (0, .ref (q 43)), (1, .int z1)] [.int y6462]
                    refine g_istore_n (lv' := [(2, .int y6462), (4, .int y6454), (3, .int x6208), (0, .ref (q 43)), (1, .int z1)]) hk dX1_runSearch_117 (by decide) rfl ?_
                    obtain ⟨y6463, ey6463⟩ : ∃ y : Int32, y = x6208 + Int32.ofInt 1 := ⟨_, rfl⟩
                    have hy6463 : y6463.toInt = x6208.toInt + 1 := i32_add ey6463 rfl (by decide) (by omega) (by omega)
                    refine g_iinc (v := y6463) (lv' := [(3, .int y6463), (2, .int y6462), (4, .int y6454), (0, .ref (q 43)), (1, .int z1)]) hk 2 dX1_runSearch_118 rfl ey6463.symm (by decide) rfl ?_
                    refine g_goto (tgt := 45) hk dX1_runSearch_121 (by decide) ?_
                    exact g_lv (List.forall_mem_cons.mpr ⟨List.mem_of_getElem? (i := 0) rfl, (List.forall_mem_cons.mpr ⟨List.mem_of_getElem? (i := 1) rfl, (List.forall_mem_cons.mpr ⟨List.mem_of_getElem? (i := 3) rfl, (List.forall_mem_cons.mpr ⟨List.mem_of_getElem? (i := 4) rfl, (fun _ h => absurd h List.not_mem_nil)⟩)⟩)⟩)⟩) (ih y6463 y6462 I6459 A6459 (show Md [33, 34] I6207 I6459 from Md.tr hI6212 (show Md [33, 34] I6212 I6459 from (Md.tr (Md.tr (Md.tr Md.rf hI6453 rfl) hI6457 rfl) hI6459 rfl)) rfl) (show Md [22, 23, 25] A6207 A6459 from Md.tr hA6212 (show Md [22, 23, 25] A6212 A6459 from (Md.tr (Md.tr (Md.tr Md.rf hA6453 rfl) hA6457 rfl) hA6459 rfl)) rfl) hV6459 (by omega) (by omega) (by omega) (by omega))
              · skip
                show GW κ 5 0 0 (wX q d I6212 A6212) 69 [(3, .int x6208), (2, .int x6209), (0, .ref (q 43)), (1, .int z1)] [.int y6440, .int x6208, .ref (q 13)]
                refine g_callV (n := 2) hk (k207_X6_hasWindow l D zt q d I6212 A6212 x6208 y6440 hV6212) (SP.same _) (fun _ h => h) (gi_V (List.mem_cons_of_mem _ (List.mem_append_left _ (List.mem_of_getElem? (i := 19) rfl))) (List.mem_cons_of_mem _ (List.mem_append_left _ (List.mem_of_getElem? (i := 20) rfl))) (List.mem_cons_of_mem _ (List.mem_append_left _ (List.mem_of_getElem? (i := 21) rfl))) (List.mem_cons_of_mem _ (List.mem_append_left _ (List.mem_of_getElem? (i := 22) rfl))) (gi_sub (fun w h => (List.mem_cons_of_mem _ (List.mem_append_right _ (List.mem_append_right _ (List.mem_append_right _ (List.mem_append_right _ (List.mem_append_right _ (List.mem_append_right _ (List.mem_append_right _ (List.mem_append_left _ h)))))))))) zg_k207_X6_hasWindow)) rfl rfl rfl (by decide +kernel) ⟨Nat.le_of_ble_eq_true rfl, Nat.le_of_ble_eq_true rfl⟩ 13 rfl rfl rfl rfl (Nat.le_of_ble_eq_true rfl) ⟨Nat.le_of_ble_eq_true rfl, Nat.le_of_ble_eq_true rfl⟩ dX1_runSearch_69 (fun v ty' w' hp hk' => ?_)
                rcases hp with ⟨rfl, rfl⟩ | ⟨c6465, c6466, c6467, c6468, c6469, c6470, rfl, rfl⟩
                · skip
                  show GW κ 5 0 0 (wX q d I6212 A6212) 72 [(3, .int x6208), (2, .int x6209), (0, .ref (q 43)), (1, .int z1)] [.int 0]
                  refine g_if_eq (tgt := 118) (a := 0) hk dX1_runSearch_72 (by decide) rfl (fun _ => ?_) (fun z9 => absurd (show (0 : Int) = (0 : Int) from by decide) z9)
                  obtain ⟨y6472, ey6472⟩ : ∃ y : Int32, y = x6208 + Int32.ofInt 1 := ⟨_, rfl⟩
                  have hy6472 : y6472.toInt = x6208.toInt + 1 := i32_add ey6472 rfl (by decide) (by omega) (by omega)
                  refine g_iinc (v := y6472) (lv' := [(3, .int y6472), (2, .int x6209), (0, .ref (q 43)), (1, .int z1)]) hk 0 dX1_runSearch_118 rfl ey6472.symm (by decide) rfl ?_
                  refine g_goto (tgt := 45) hk dX1_runSearch_121 (by decide) ?_
                  exact g_lv (List.forall_mem_cons.mpr ⟨List.mem_of_getElem? (i := 0) rfl, (List.forall_mem_cons.mpr ⟨List.mem_of_getElem? (i := 1) rfl, (List.forall_mem_cons.mpr ⟨List.mem_of_getElem? (i := 2) rfl, (List.forall_mem_cons.mpr ⟨List.mem_of_getElem? (i := 3) rfl, (fun _ h => absurd h List.not_mem_nil)⟩)⟩)⟩)⟩) (ih y6472 x6209 I6212 A6212 (show Md [33, 34] I6207 I6212 from Md.tr hI6212 (show Md [33, 34] I6212 I6212 from Md.rf) rfl) (show Md [22, 23, 25] A6207 A6212 from Md.tr hA6212 (show Md [22, 23, 25] A6212 A6212 from Md.rf) rfl) hV6212 (by omega) (by omega) (by omega) (by omega))
                · skip
                  show GW κ 5 0 0 (wX q d I6212 A6212) 72 [(3, .int x6208), (2, .int x6209), (0, .ref (q 43)), (1, .int z1)] [.int 1]
                  refine g_if_eq (tgt := 118) (a := 1) hk dX1_runSearch_72 (by decide) rfl (fun z9 => absurd z9 (show ¬ ((1 : Int) = (0 : Int)) from by decide)) (fun _ => ?_)
                  refine g_aload_n hk dX1_runSearch_75 rfl ?_
                  refine gX_r43_0 hk hin1 (List.mem_cons_of_mem _ (List.mem_append_left _ (List.mem_of_getElem? (i := 2) rfl))) dX1_runSearch_76 ?_
                  refine g_iload_n hk dX1_runSearch_79 rfl ?_
                  refine g_callV (n := 1) hk (k226_X0_laySecondWindow l D zt q d I6212 A6212 x6208 hV6212) (SP.same _) (fun _ h => h) (gi_V (List.mem_cons_of_mem _ (List.mem_append_left _ (List.mem_of_getElem? (i := 23) rfl))) (List.mem_cons_of_mem _ (List.mem_append_left _ (List.mem_of_getElem? (i := 24) rfl))) (List.mem_cons_of_mem _ (List.mem_append_left _ (List.mem_of_getElem? (i := 25) rfl))) (List.mem_cons_of_mem _ (List.mem_append_left _ (List.mem_of_getElem? (i := 11) rfl))) (gi_sub (fun w h => (List.mem_cons_of_mem _ (List.mem_append_right _ (List.mem_append_right _ (List.mem_append_right _ (List.mem_append_right _ (List.mem_append_right _ (List.mem_append_right _ (List.mem_append_right _ (List.mem_append_right _ (List.mem_append_left _ h))))))))))) zg_k226_X0_laySecondWindow)) rfl rfl rfl (by decide +kernel) ⟨Nat.le_of_ble_eq_true rfl, Nat.le_of_ble_eq_true rfl⟩ 37 rfl rfl rfl rfl (Nat.le_of_ble_eq_true rfl) ⟨Nat.le_of_ble_eq_true rfl, Nat.le_of_ble_eq_true rfl⟩ dX1_runSearch_80 (fun v ty' w' hp hk' => ?_)
                  obtain ⟨I6474, A6474, hI6474, hA6474, hV6474, rfl, rfl⟩ := hp
                  show GW κ 5 0 0 (wX q d I6474 A6474) 83 [(3, .int x6208), (2, .int x6209), (0, .ref (q 43)), (1, .int z1)] []
                  refine g_aload_n hk dX1_runSearch_83 rfl ?_
                  refine gX_r43_0 hk hin1 (List.mem_cons_of_mem _ (List.mem_append_left _ (List.mem_of_getElem? (i := 2) rfl))) dX1_runSearch_84 ?_
                  refine gX_r37_3 hk hin0 (List.mem_cons_of_mem _ (List.mem_append_left _ (List.mem_of_getElem? (i := 26) rfl))) dX1_runSearch_87 ?_
                  refine g_iload_n hk dX1_runSearch_90 rfl ?_
                  refine g_callV (n := 1) hk (k247_X2_lookAt l D zt q d I6474 A6474 x6209 hV6474) (SP.same _) (fun _ h => h) (gi_V (List.mem_cons_of_mem _ (List.mem_append_left _ (List.mem_of_getElem? (i := 27) rfl))) (List.mem_cons_of_mem _ (List.mem_append_left _ (List.mem_of_getElem? (i := 28) rfl))) (List.mem_cons_of_mem _ (List.mem_append_left _ (List.mem_of_getElem? (i := 29) rfl))) (List.mem_cons_of_mem _ (List.mem_append_left _ (List.mem_of_getElem? (i := 30) rfl))) (gi_sub (fun w h => (List.mem_cons_of_mem _ (List.mem_append_right _ (List.mem_append_right _ (List.mem_append_right _ (List.mem_append_right _ (List.mem_append_right _ (List.mem_append_right _ (List.mem_append_right _ (List.mem_append_right _ (List.mem_append_right _ (List.mem_append_left _ h)))))))))))) zg_k247_X2_lookAt)) rfl rfl rfl (by decide +kernel) ⟨Nat.le_of_ble_eq_true rfl, Nat.le_of_ble_eq_true rfl⟩ 38 rfl rfl rfl rfl (Nat.le_of_ble_eq_true rfl) ⟨Nat.le_of_ble_eq_true rfl, Nat.le_of_ble_eq_true rfl⟩ dX1_runSearch_91 (fun v ty' w' hp hk' => ?_)
                  obtain ⟨I6478, A6478, hI6478, hA6478, hV6478, y6475, c6476, c6477, rfl, rfl⟩ := hp
                  show GW κ 5 0 0 (wX q d I6478 A6478) 94 [(3, .int x6208), (2, .int x6209), (0, .ref (q 43)), (1, .int z1)] [.int y6475]
                  refine g_istore (lv' := [(4, .int y6475), (3, .int x6208), (2, .int x6209), (0, .ref (q 43)), (1, .int z1)]) hk dX1_runSearch_94 (by decide) rfl ?_
                  refine g_aload_n hk dX1_runSearch_96 rfl ?_
                  refine g_iload hk dX1_runSearch_97 rfl ?_
                  refine g_callV (n := 1) hk (k267_X1_addToTally l D zt q d I6478 A6478 y6475 hV6478) (SP.same _) (fun _ h => h) (gi_V (List.mem_cons_of_mem _ (List.mem_append_left _ (List.mem_of_getElem? (i := 31) rfl))) (List.mem_cons_of_mem _ (List.mem_append_left _ (List.mem_of_getElem? (i := 32) rfl))) (List.mem_cons_of_mem _ (List.mem_append_left _ (List.mem_of_getElem? (i := 33) rfl))) (List.mem_cons_of_mem _ (List.mem_append_left _ (List.mem_of_getElem? (i := 34) rfl))) (gi_sub (fun w h => (List.mem_cons_of_mem _ (List.mem_append_right _ (List.mem_append_right _ (List.mem_append_right _ (List.mem_append_right _ (List.mem_append_right _ (List.mem_append_right _ (List.mem_append_right _ (List.mem_append_right _ (List.mem_append_right _ (List.mem_append_right _ (List.mem_append_left _ h))))))))))))) zg_k267_X1_addToTally)) rfl rfl rfl (by decide +kernel) ⟨Nat.le_of_ble_eq_true rfl, Nat.le_of_ble_eq_true rfl⟩ 43 rfl rfl rfl rfl (Nat.le_of_ble_eq_true rfl) ⟨Nat.le_of_ble_eq_true rfl, Nat.le_of_ble_eq_true rfl⟩ dX1_runSearch_99 (fun v ty' w' hp hk' => ?_)
                  obtain ⟨I6480, A6480, hI6480, hA6480, hV6480, rfl, rfl⟩ := hp
                  show GW κ 5 0 0 (wX q d I6480 A6480) 102 [(4, .int y6475), (3, .int x6208), (2, .int x6209), (0, .ref (q 43)), (1, .int z1)] []
                  refine g_iload hk dX1_runSearch_102 rfl ?_
                  refine g_if_ne (tgt := 118) (a := y6475.toInt) hk dX1_runSearch_104 (by decide) rfl (fun c6481 => ?_) (fun c6481 => ?_)
                  · skip
                    obtain ⟨y6482, ey6482⟩ : ∃ y : Int32, y = x6208 + Int32.ofInt 1 := ⟨_, rfl⟩
                    have hy6482 : y6482.toInt = x6208.toInt + 1 := i32_add ey6482 rfl (by decide) (by omega) (by omega)
                    refine g_iinc (v := y6482) (lv' := [(3, .int y6482), (4, .int y6475), (2, .int x6209), (0, .ref (q 43)), (1, .int z1)]) hk 1 dX1_runSearch_118 rfl ey6482.symm (by decide) rfl ?_
                    refine g_goto (tgt := 45) hk dX1_runSearch_121 (by decide) ?_
                    exact g_lv (List.forall_mem_cons.mpr ⟨List.mem_of_getElem? (i := 0) rfl, (List.forall_mem_cons.mpr ⟨List.mem_of_getElem? (i := 2) rfl, (List.forall_mem_cons.mpr ⟨List.mem_of_getElem? (i := 3) rfl, (List.forall_mem_cons.mpr ⟨List.mem_of_getElem? (i := 4) rfl, (fun _ h => absurd h List.not_mem_nil)⟩)⟩)⟩)⟩) (ih y6482 x6209 I6480 A6480 (show Md [33, 34] I6207 I6480 from Md.tr hI6212 (show Md [33, 34] I6212 I6480 from (Md.tr (Md.tr (Md.tr Md.rf hI6474 rfl) hI6478 rfl) hI6480 rfl)) rfl) (show Md [22, 23, 25] A6207 A6480 from Md.tr hA6212 (show Md [22, 23, 25] A6212 A6480 from (Md.tr (Md.tr (Md.tr Md.rf hA6474 rfl) hA6478 rfl) hA6480 rfl)) rfl) hV6480 (by omega) (by omega) (by omega) (by omega))
                  · skip
                    refine g_aload_n hk dX1_runSearch_107 rfl ?_
                    refine gX_r43_0 hk hin1 (List.mem_cons_of_mem _ (List.mem_append_left _ (List.mem_of_getElem? (i := 2) rfl))) dX1_runSearch_108 ?_
                    refine gX_r37_3 hk hin0 (List.mem_cons_of_mem _ (List.mem_append_left _ (List.mem_of_getElem? (i := 26) rfl))) dX1_runSearch_111 ?_
                    refine g_callV (n := 0) hk (k237_X2_laidDistance l D zt q d I6480 A6480  hV6480) (SP.same _) (fun _ h => h) (gi_V (List.mem_cons_of_mem _ (List.mem_append_left _ (List.mem_of_getElem? (i := 35) rfl))) (List.mem_cons_of_mem _ (List.mem_append_left _ (List.mem_of_getElem? (i := 36) rfl))) (List.mem_cons_of_mem _ (List.mem_append_left _ (List.mem_of_getElem? (i := 37) rfl))) (List.mem_cons_of_mem _ (List.mem_append_left _ (List.mem_of_getElem? (i := 30) rfl))) (gi_sub (fun w h => (List.mem_cons_of_mem _ (List.mem_append_right _ (List.mem_append_right _ (List.mem_append_right _ (List.mem_append_right _ (List.mem_append_right _ (List.mem_append_right _ (List.mem_append_right _ (List.mem_append_right _ (List.mem_append_right _ (List.mem_append_right _ (List.mem_append_right _ (List.mem_append_left _ h)))))))))))))) zg_k237_X2_laidDistance)) rfl rfl rfl (by decide +kernel) ⟨Nat.le_of_ble_eq_true rfl, Nat.le_of_ble_eq_true rfl⟩ 38 rfl rfl rfl rfl (Nat.le_of_ble_eq_true rfl) ⟨Nat.le_of_ble_eq_true rfl, Nat.le_of_ble_eq_true rfl⟩ dX1_runSearch_114 (fun v ty' w' hp hk' => ?_)
                    obtain ⟨y6483, rfl, rfl⟩ := hp
                    show GW κ 5 0 0 (wX q d I6480 A6480) 117 [(4, .int y6475), (3, .int x6208), (2, .int x6209), (0, .ref (q 43)), (1, .int z1)] [.int y6483]
                    refine g_istore_n (lv' := [(2, .int y6483), (4, .int y6475), (3, .int x6208), (0, .ref (q 43)), (1, .int z1)]) hk dX1_runSearch_117 (by decide) rfl ?_
                    obtain ⟨y6484, ey6484⟩ : ∃ y : Int32, y = x6208 + Int32.ofInt 1 := ⟨_, rfl⟩
                    have hy6484 : y6484.toInt = x6208.toInt + 1 := i32_add ey6484 rfl (by decide) (by omega) (by omega)
                    refine g_iinc (v := y6484) (lv' := [(3, .int y6484), (2, .int y6483), (4, .int y6475), (0, .ref (q 43)), (1, .int z1)]) hk 2 dX1_runSearch_118 rfl ey6484.symm (by decide) rfl ?_
                    refine g_goto (tgt := 45) hk dX1_runSearch_121 (by decide) ?_
                    exact g_lv (List.forall_mem_cons.mpr ⟨List.mem_of_getElem? (i := 0) rfl, (List.forall_mem_cons.mpr ⟨List.mem_of_getElem? (i := 1) rfl, (List.forall_mem_cons.mpr ⟨List.mem_of_getElem? (i := 3) rfl, (List.forall_mem_cons.mpr ⟨List.mem_of_getElem? (i := 4) rfl, (fun _ h => absurd h List.not_mem_nil)⟩)⟩)⟩)⟩) (ih y6484 y6483 I6480 A6480 (show Md [33, 34] I6207 I6480 from Md.tr hI6212 (show Md [33, 34] I6212 I6480 from (Md.tr (Md.tr (Md.tr Md.rf hI6474 rfl) hI6478 rfl) hI6480 rfl)) rfl) (show Md [22, 23, 25] A6207 A6480 from Md.tr hA6212 (show Md [22, 23, 25] A6212 A6480 from (Md.tr (Md.tr (Md.tr Md.rf hA6474 rfl) hA6478 rfl) hA6480 rfl)) rfl) hV6480 (by omega) (by omega) (by omega) (by omega))
        have k6486 : (2147483647 : Int32).toInt = 2147483647 := rfl
        obtain ⟨n6485, n6485a, n6485b⟩ : ∃ n : Nat, 161 - 0 < (n : Int) ∧ 0 < n := ⟨((161 - 0 : Int)).toNat + 1, by omega, by omega⟩
        exact lp6428 n6485 0 2147483647 I6207 A6207 Md.rf Md.rf hV6207 (by omega) (by omega) n6485a n6485b
      · skip
        refine g_aload_n hk dX1_runSearch_8 rfl ?_
        refine gX_r43_3 hk hin1 (List.mem_cons_of_mem _ (List.mem_append_left _ (List.mem_of_getElem? (i := 0) rfl))) dX1_runSearch_9 ?_
        refine g_iload_n hk dX1_runSearch_12 rfl ?_
        refine g_iconst (v := 0) hk dX1_runSearch_13 (by decide) ?_
        have k6487 : (0 : Int32).toInt = 0 := rfl
        refine sX_25 (j := x5595.toNatClampNeg) hk (vp_in_iff.mpr ⟨by omega, by omega⟩) rfl dX1_runSearch_14 ?_
        obtain ⟨y6488, ey6488⟩ : ∃ y : Int32, y = x5595 + Int32.ofInt 1 := ⟨_, rfl⟩
        have hy6488 : y6488.toInt = x5595.toInt + 1 := i32_add ey6488 rfl (by decide) (by omega) (by omega)
        refine g_iinc (v := y6488) (lv' := [(2, .int y6488), (0, .ref (q 43)), (1, .int z1)]) hk 0 dX1_runSearch_15 rfl ey6488.symm (by decide) rfl ?_
        refine g_goto (tgt := 2) hk dX1_runSearch_18 (by decide) ?_
        exact g_lv (List.forall_mem_cons.mpr ⟨List.mem_of_getElem? (i := 0) rfl, (List.forall_mem_cons.mpr ⟨List.mem_of_getElem? (i := 1) rfl, (List.forall_mem_cons.mpr ⟨List.mem_of_getElem? (i := 2) rfl, (fun _ h => absurd h List.not_mem_nil)⟩)⟩)⟩) (ih y6488 I5598 (up3 A5598 25 (x5595.toNatClampNeg) 0) (show Md [] I I5598 from Md.tr hI5598 (show Md [] I5598 I5598 from Md.rf) rfl) (show Md [25] A (up3 A5598 25 (x5595.toNatClampNeg) 0) from Md.tr hA5598 (show Md [25] A5598 (up3 A5598 25 (x5595.toNatClampNeg) 0) from (Md.up3 Md.rf rfl)) rfl) ⟨(IvX_f0 (I := I5598) (A := A5598) hV5598), (IvX_f18 (I := I5598) (A := A5598) hV5598), (IvX_f30 (I := I5598) (A := A5598) hV5598), (IvX_f31 (I := I5598) (A := A5598) hV5598), (IvX_a4 (I := I5598) (A := A5598) hV5598), (IvX_a9 (I := I5598) (A := A5598) hV5598), trivial⟩ (by omega) (by omega) (by omega) (by omega))
  have k6490 : (0 : Int32).toInt = 0 := rfl
  obtain ⟨n6489, n6489a, n6489b⟩ : ∃ n : Nat, 10 - 0 < (n : Int) ∧ 0 < n := ⟨((10 - 0 : Int)).toNat + 1, by omega, by omega⟩
  exact lp6200 n6489 0 I A Md.rf Md.rf hIv (by omega) (by omega) n6489a n6489b
def wo_k265_X11_search : List Cond := [Cond.fieldLink RX11 35 "WarpDesk" "queries" "LWarpDesk$Queries;", Cond.methodLink RX11 251 yX4_has, Cond.instanceMethod yX4_has, Cond.selects RX4 yX4_has yX4_has, Cond.initialized RX4, Cond.fieldLink RX11 74 "WarpDesk" "finder" "LWarpDesk$Finder;", Cond.methodLink RX11 278 yX1_runSearch, Cond.instanceMethod yX1_runSearch, Cond.selects RX1 yX1_runSearch yX1_runSearch, Cond.initialized RX1, Cond.fieldLink RX11 281 "WarpDesk$Finder" "tally" "[I"]
def wz_k265_X11_search : List Cond := .code yX11_search cX11_search 3 (some .int) :: (wo_k265_X11_search ++ (wsX10 ++ (wsX110 ++ (wz_k168_X4_has ++ (wz_k266_X1_runSearch ++ ([] : List Cond))))))
theorem zg_k265_X11_search : ∀ w ∈ wz_k265_X11_search, goodWord w = true := zg_cons rfl (zg_app (by decide +kernel) (zg_app zgU_wsX10 (zg_app zgU_wsX110 (zg_app zg_k168_X4_has (zg_app zg_k266_X1_runSearch zg_nil)))))
theorem zi_k265_X11_search : ∀ w ∈ wz_k265_X11_search, w ∈ lw_tbl := zi_cons zw_1132 (zi_app (zi_cons zw_490 (zi_cons zw_1086 (zi_cons zw_747 (zi_cons zw_748 (zi_cons zw_108 (zi_cons zw_495 (zi_cons zw_1133 (zi_cons zw_1134 (zi_cons zw_1135 (zi_cons zw_113 (zi_cons zw_406 zi_nil))))))))))) (zi_app inX1 (zi_app inX11 (zi_app zi_k168_X4_has (zi_app zi_k266_X1_runSearch zi_nil)))))
set_option maxHeartbeats 4000000 in
set_option maxRecDepth 100000 in
theorem k265_X11_search (l : Launch) (D : va_G) (zt : Nat × Nat × Nat × (Nat → Nat) × (Nat → Nat)) (q : Nat → Nat) (d : Nat → ClassId) (I : Nat → Int32) (A : Nat → Nat → Int32) (z1 : Int32) (z2 : Int32) (hIv : IvX I A) : GM l D zt (tyX d) yX11_search wz_k265_X11_search ({ frames := 6, cells := 0, slots := 0, locals := 133 } : Room) [.ref (q 0), .int z1, .int z2] (wX q d I A) (fun v _ w' => ∃ (I' : Nat → Int32) (A' : Nat → Nat → Int32), Md [28, 30, 31, 32, 33, 34] I I' ∧ Md [21, 22, 23, 25] A A' ∧ IvX I' A' ∧ ∃ y0 : Int32, v = some (.int y0) ∧ w' = wX q d I' A') 0 0 := by
  refine GM.of (cc := cX11_search) (maxL := 3) (ret := (some .int)) (own := RX11) (lv := [(0, .ref (q 0)), (1, .int z1), (2, .int z2)]) (by decide) rfl rfl (Nat.le_of_ble_eq_true rfl) rfl (fun κ sz hk hR hN => ?_)
  have hin1 : ∀ w ∈ u_ws RX1 TX1 11, w ∈ wz_k265_X11_search := fun w h => (List.mem_cons_of_mem _ (List.mem_append_right _ (List.mem_append_left _ h)))
  have hin11 : ∀ w ∈ u_ws RX11 TX11 10, w ∈ wz_k265_X11_search := fun w h => (List.mem_cons_of_mem _ (List.mem_append_right _ (List.mem_append_right _ (List.mem_append_left _ h))))
  refine g_iload_n hk dX11_search_0 rfl ?_
  have b5586l := Int32.le_toInt z2
  have b5586h := Int32.toInt_lt z2
  refine g_if_lt (tgt := 21) (a := z2.toInt) hk dX11_search_1 (by decide) rfl (fun c5587 => ?_) (fun c5587 => ?_)
  · skip
    refine g_iconst (v := (-1)) hk dX11_search_21 (by decide) ?_
    exact g_iret hk hR rfl ⟨I, A, (show Md [28, 30, 31, 32, 33, 34] I I from Md.rf), (show Md [21, 22, 23, 25] A A from Md.rf), hIv, (-1), rfl, rfl⟩ dX11_search_22
  · skip
    refine g_iload_n hk dX11_search_4 rfl ?_
    refine g_bipush (v := 9) hk dX11_search_5 (by decide) ?_
    refine g_icmp_ge (tgt := 21) (a := z2.toInt) (b := 9) hk dX11_search_7 (by decide) rfl rfl (fun c5588 => ?_) (fun c5588 => ?_)
    · skip
      refine g_iconst (v := (-1)) hk dX11_search_21 (by decide) ?_
      exact g_iret hk hR rfl ⟨I, A, (show Md [28, 30, 31, 32, 33, 34] I I from Md.rf), (show Md [21, 22, 23, 25] A A from Md.rf), hIv, (-1), rfl, rfl⟩ dX11_search_22
    · skip
      refine g_aload_n hk dX11_search_10 rfl ?_
      refine gX_r0_3 hk hin11 (List.mem_cons_of_mem _ (List.mem_append_left _ (List.mem_of_getElem? (i := 0) rfl))) dX11_search_11 ?_
      refine g_iload_n hk dX11_search_14 rfl ?_
      refine g_callV (n := 1) hk (k168_X4_has l D zt q d I A z1 hIv) (SP.same _) (fun _ h => h) (gi_V (List.mem_cons_of_mem _ (List.mem_append_left _ (List.mem_of_getElem? (i := 1) rfl))) (List.mem_cons_of_mem _ (List.mem_append_left _ (List.mem_of_getElem? (i := 2) rfl))) (List.mem_cons_of_mem _ (List.mem_append_left _ (List.mem_of_getElem? (i := 3) rfl))) (List.mem_cons_of_mem _ (List.mem_append_left _ (List.mem_of_getElem? (i := 4) rfl))) (gi_sub (fun w h => (List.mem_cons_of_mem _ (List.mem_append_right _ (List.mem_append_right _ (List.mem_append_right _ (List.mem_append_left _ h)))))) zg_k168_X4_has)) rfl rfl rfl (by decide +kernel) ⟨Nat.le_of_ble_eq_true rfl, Nat.le_of_ble_eq_true rfl⟩ 15 rfl rfl rfl rfl (Nat.le_of_ble_eq_true rfl) ⟨Nat.le_of_ble_eq_true rfl, Nat.le_of_ble_eq_true rfl⟩ dX11_search_15 (fun v ty' w' hp hk' => ?_)
      rcases hp with ⟨rfl, rfl⟩ | ⟨c5590, c5591, c5592, c5593, rfl, rfl⟩
      · skip
        show GW κ 3 0 0 (wX q d I A) 18 [(0, .ref (q 0)), (1, .int z1), (2, .int z2)] [.int 0]
        refine g_if_ne (tgt := 23) (a := 0) hk dX11_search_18 (by decide) rfl (fun z9 => absurd z9 (show ¬ ((0 : Int) ≠ (0 : Int)) from by decide)) (fun _ => ?_)
        refine g_iconst (v := (-1)) hk dX11_search_21 (by decide) ?_
        exact g_iret hk hR rfl ⟨I, A, (show Md [28, 30, 31, 32, 33, 34] I I from Md.rf), (show Md [21, 22, 23, 25] A A from Md.rf), hIv, (-1), rfl, rfl⟩ dX11_search_22
      · skip
        show GW κ 3 0 0 (wX q d I A) 18 [(0, .ref (q 0)), (1, .int z1), (2, .int z2)] [.int 1]
        refine g_if_ne (tgt := 23) (a := 1) hk dX11_search_18 (by decide) rfl (fun _ => ?_) (fun z9 => absurd (show (1 : Int) ≠ (0 : Int) from by decide) z9)
        refine g_aload_n hk dX11_search_23 rfl ?_
        refine gX_r0_8 hk hin11 (List.mem_cons_of_mem _ (List.mem_append_left _ (List.mem_of_getElem? (i := 5) rfl))) dX11_search_24 ?_
        refine g_iload_n hk dX11_search_27 rfl ?_
        refine g_callV (n := 1) hk (k266_X1_runSearch l D zt q d I A z1 hIv) (SP.same _) (fun _ h => h) (gi_V (List.mem_cons_of_mem _ (List.mem_append_left _ (List.mem_of_getElem? (i := 6) rfl))) (List.mem_cons_of_mem _ (List.mem_append_left _ (List.mem_of_getElem? (i := 7) rfl))) (List.mem_cons_of_mem _ (List.mem_append_left _ (List.mem_of_getElem? (i := 8) rfl))) (List.mem_cons_of_mem _ (List.mem_append_left _ (List.mem_of_getElem? (i := 9) rfl))) (gi_sub (fun w h => (List.mem_cons_of_mem _ (List.mem_append_right _ (List.mem_append_right _ (List.mem_append_right _ (List.mem_append_right _ (List.mem_append_left _ h))))))) zg_k266_X1_runSearch)) rfl rfl rfl (by decide +kernel) ⟨Nat.le_of_ble_eq_true rfl, Nat.le_of_ble_eq_true rfl⟩ 43 rfl rfl rfl rfl (Nat.le_of_ble_eq_true rfl) ⟨Nat.le_of_ble_eq_true rfl, Nat.le_of_ble_eq_true rfl⟩ dX11_search_28 (fun v ty' w' hp hk' => ?_)
        obtain ⟨I6492, A6492, hI6492, hA6492, hV6492, rfl, rfl⟩ := hp
        show GW κ 3 0 0 (wX q d I6492 A6492) 31 [(0, .ref (q 0)), (1, .int z1), (2, .int z2)] []
        refine g_aload_n hk dX11_search_31 rfl ?_
        refine gX_r0_8 hk hin11 (List.mem_cons_of_mem _ (List.mem_append_left _ (List.mem_of_getElem? (i := 5) rfl))) dX11_search_32 ?_
        refine gX_r43_3 hk hin1 (List.mem_cons_of_mem _ (List.mem_append_left _ (List.mem_of_getElem? (i := 10) rfl))) dX11_search_35 ?_
        refine g_iload_n hk dX11_search_38 rfl ?_
        refine lX_25 (v := (A6492 25 z2.toNatClampNeg)) hk (vp_in_iff.mpr ⟨by omega, by omega⟩) rfl dX11_search_39 ?_
        have b6493l := Int32.le_toInt (A6492 25 z2.toNatClampNeg)
        have b6493h := Int32.toInt_lt (A6492 25 z2.toNatClampNeg)
        exact g_iret hk hR rfl ⟨I6492, A6492, (show Md [28, 30, 31, 32, 33, 34] I I6492 from (Md.tr Md.rf hI6492 rfl)), (show Md [21, 22, 23, 25] A A6492 from (Md.tr Md.rf hA6492 rfl)), hV6492, (A6492 25 z2.toNatClampNeg), rfl, rfl⟩ dX11_search_40
def wo_k270_X1_scan : List Cond := [Cond.fieldLink RX1 28 "WarpDesk$Finder" "bench" "LWarpDesk$Bench;", Cond.fieldLink RX1 45 "WarpDesk$Bench" "settings" "LWarpDesk$Settings;", Cond.methodLink RX1 49 yX7_valueOf, Cond.instanceMethod yX7_valueOf, Cond.selects RX7 yX7_valueOf yX7_valueOf, Cond.initialized RX7, Cond.methodLink RX1 55 yX0_openQuery, Cond.instanceMethod yX0_openQuery, Cond.selects RX0 yX0_openQuery yX0_openQuery, Cond.initialized RX0, Cond.fieldLink RX1 15 "WarpDesk$Finder" "distances" "[I", Cond.fieldLink RX1 38 "WarpDesk$Finder" "series" "LWarpDesk$Series;", Cond.fieldLink RX1 43 "WarpDesk$Finder" "queries" "LWarpDesk$Queries;", Cond.methodLink RX1 65 yX4_lengthOf, Cond.instanceMethod yX4_lengthOf, Cond.selects RX4 yX4_lengthOf yX4_lengthOf, Cond.initialized RX4, Cond.methodLink RX1 70 yX6_hasWindow, Cond.instanceMethod yX6_hasWindow, Cond.selects RX6 yX6_hasWindow yX6_hasWindow, Cond.initialized RX6, Cond.methodLink RX1 74 yX0_laySecondWindow, Cond.instanceMethod yX0_laySecondWindow, Cond.selects RX0 yX0_laySecondWindow yX0_laySecondWindow, Cond.fieldLink RX1 78 "WarpDesk$Bench" "fit" "LWarpDesk$Fit;", Cond.methodLink RX1 113 yX2_wholeDistance, Cond.instanceMethod yX2_wholeDistance, Cond.selects RX2 yX2_wholeDistance yX2_wholeDistance, Cond.initialized RX2]
def wz_k270_X1_scan : List Cond := .code yX1_scan cX1_scan 3 none :: (wo_k270_X1_scan ++ (wsX00 ++ (wsX10 ++ (wz_k194_X7_valueOf ++ (wz_k224_X0_openQuery ++ (wz_k182_X4_lengthOf ++ (wz_k207_X6_hasWindow ++ (wz_k226_X0_laySecondWindow ++ (wz_k232_X2_wholeDistance ++ ([] : List Cond))))))))))
theorem zg_k270_X1_scan : ∀ w ∈ wz_k270_X1_scan, goodWord w = true := zg_cons rfl (zg_app (by decide +kernel) (zg_app zgU_wsX00 (zg_app zgU_wsX10 (zg_app zg_k194_X7_valueOf (zg_app zg_k224_X0_openQuery (zg_app zg_k182_X4_lengthOf (zg_app zg_k207_X6_hasWindow (zg_app zg_k226_X0_laySecondWindow (zg_app zg_k232_X2_wholeDistance zg_nil)))))))))
theorem zi_k270_X1_scan : ∀ w ∈ wz_k270_X1_scan, w ∈ lw_tbl := zi_cons zw_1154 (zi_app (zi_cons zw_402 (zi_cons zw_379 (zi_cons zw_1137 (zi_cons zw_786 (zi_cons zw_787 (zi_cons zw_107 (zi_cons zw_1121 (zi_cons zw_981 (zi_cons zw_982 (zi_cons zw_111 (zi_cons zw_411 (zi_cons zw_403 (zi_cons zw_404 (zi_cons zw_1102 (zi_cons zw_757 (zi_cons zw_758 (zi_cons zw_108 (zi_cons zw_1122 (zi_cons zw_902 (zi_cons zw_903 (zi_cons zw_109 (zi_cons zw_1123 (zi_cons zw_989 (zi_cons zw_990 (zi_cons zw_382 (zi_cons zw_1104 (zi_cons zw_993 (zi_cons zw_994 (zi_cons zw_112 zi_nil))))))))))))))))))))))))))))) (zi_app inX0 (zi_app inX1 (zi_app zi_k194_X7_valueOf (zi_app zi_k224_X0_openQuery (zi_app zi_k182_X4_lengthOf (zi_app zi_k207_X6_hasWindow (zi_app zi_k226_X0_laySecondWindow (zi_app zi_k232_X2_wholeDistance zi_nil)))))))))
set_option maxHeartbeats 4000000 in
set_option maxRecDepth 100000 in
theorem k270_X1_scan (l : Launch) (D : va_G) (zt : Nat × Nat × Nat × (Nat → Nat) × (Nat → Nat)) (q : Nat → Nat) (d : Nat → ClassId) (I : Nat → Int32) (A : Nat → Nat → Int32) (z1 : Int32) (hIv : IvX I A) : GM l D zt (tyX d) yX1_scan wz_k270_X1_scan ({ frames := 5, cells := 0, slots := 0, locals := 109 } : Room) [.ref (q 43), .int z1] (wX q d I A) (fun v _ w' => ∃ (I' : Nat → Int32) (A' : Nat → Nat → Int32), Md [28, 30, 31, 32, 33, 34] I I' ∧ Md [21, 22, 23, 26] A A' ∧ IvX I' A' ∧ v = none ∧ w' = wX q d I' A') 0 0 := by
  refine GM.of (cc := cX1_scan) (maxL := 3) (ret := none) (own := RX1) (lv := [(0, .ref (q 43)), (1, .int z1)]) (by decide) rfl rfl (Nat.le_of_ble_eq_true rfl) rfl (fun κ sz hk hR hN => ?_)
  have hin0 : ∀ w ∈ u_ws RX0 TX0 5, w ∈ wz_k270_X1_scan := fun w h => (List.mem_cons_of_mem _ (List.mem_append_right _ (List.mem_append_left _ h)))
  have hin1 : ∀ w ∈ u_ws RX1 TX1 11, w ∈ wz_k270_X1_scan := fun w h => (List.mem_cons_of_mem _ (List.mem_append_right _ (List.mem_append_right _ (List.mem_append_left _ h))))
  refine g_aload_n hk dX1_scan_0 rfl ?_
  refine gX_r43_0 hk hin1 (List.mem_cons_of_mem _ (List.mem_append_left _ (List.mem_of_getElem? (i := 0) rfl))) dX1_scan_1 ?_
  refine g_iload_n hk dX1_scan_4 rfl ?_
  refine g_aload_n hk dX1_scan_5 rfl ?_
  refine gX_r43_0 hk hin1 (List.mem_cons_of_mem _ (List.mem_append_left _ (List.mem_of_getElem? (i := 0) rfl))) dX1_scan_6 ?_
  refine gX_r37_2 hk hin0 (List.mem_cons_of_mem _ (List.mem_append_left _ (List.mem_of_getElem? (i := 1) rfl))) dX1_scan_9 ?_
  refine g_iconst (v := 0) hk dX1_scan_12 (by decide) ?_
  have k6505 : (0 : Int32).toInt = 0 := rfl
  refine g_callV (n := 1) hk (k194_X7_valueOf l D zt q d I A 0 hIv) (SP.same _) (fun _ h => h) (gi_V (List.mem_cons_of_mem _ (List.mem_append_left _ (List.mem_of_getElem? (i := 2) rfl))) (List.mem_cons_of_mem _ (List.mem_append_left _ (List.mem_of_getElem? (i := 3) rfl))) (List.mem_cons_of_mem _ (List.mem_append_left _ (List.mem_of_getElem? (i := 4) rfl))) (List.mem_cons_of_mem _ (List.mem_append_left _ (List.mem_of_getElem? (i := 5) rfl))) (gi_sub (fun w h => (List.mem_cons_of_mem _ (List.mem_append_right _ (List.mem_append_right _ (List.mem_append_right _ (List.mem_append_left _ h)))))) zg_k194_X7_valueOf)) rfl rfl rfl (by decide +kernel) ⟨Nat.le_of_ble_eq_true rfl, Nat.le_of_ble_eq_true rfl⟩ 18 rfl rfl rfl rfl (Nat.le_of_ble_eq_true rfl) ⟨Nat.le_of_ble_eq_true rfl, Nat.le_of_ble_eq_true rfl⟩ dX1_scan_13 (fun v ty' w' hp hk' => ?_)
  obtain ⟨y6506, rfl, rfl⟩ := hp
  show GW κ 3 0 0 (wX q d I A) 16 [(0, .ref (q 43)), (1, .int z1)] [.int y6506, .int z1, .ref (q 37)]
  refine g_callV (n := 2) hk (k224_X0_openQuery l D zt q d I A z1 y6506 hIv) (SP.same _) (fun _ h => h) (gi_V (List.mem_cons_of_mem _ (List.mem_append_left _ (List.mem_of_getElem? (i := 6) rfl))) (List.mem_cons_of_mem _ (List.mem_append_left _ (List.mem_of_getElem? (i := 7) rfl))) (List.mem_cons_of_mem _ (List.mem_append_left _ (List.mem_of_getElem? (i := 8) rfl))) (List.mem_cons_of_mem _ (List.mem_append_left _ (List.mem_of_getElem? (i := 9) rfl))) (gi_sub (fun w h => (List.mem_cons_of_mem _ (List.mem_append_right _ (List.mem_append_right _ (List.mem_append_right _ (List.mem_append_right _ (List.mem_append_left _ h))))))) zg_k224_X0_openQuery)) rfl rfl rfl (by decide +kernel) ⟨Nat.le_of_ble_eq_true rfl, Nat.le_of_ble_eq_true rfl⟩ 37 rfl rfl rfl rfl (Nat.le_of_ble_eq_true rfl) ⟨Nat.le_of_ble_eq_true rfl, Nat.le_of_ble_eq_true rfl⟩ dX1_scan_16 (fun v ty' w' hp hk' => ?_)
  obtain ⟨I6508, A6508, hI6508, hA6508, hV6508, rfl, rfl⟩ := hp
  show GW κ 3 0 0 (wX q d I6508 A6508) 19 [(0, .ref (q 43)), (1, .int z1)] []
  refine g_iconst (v := 0) hk dX1_scan_19 (by decide) ?_
  refine g_istore_n (lv' := [(2, .int 0), (0, .ref (q 43)), (1, .int z1)]) hk dX1_scan_20 (by decide) rfl ?_
  have lp6670 : ∀ (n6671 : Nat) (x6509 : Int32) (I6512 : Nat → Int32) (A6512 : Nat → Nat → Int32), (Md [33, 34] I6508 I6512) → (Md [22, 23, 26] A6508 A6512) → (IvX I6512 A6512) → (0 ≤ x6509.toInt) → (x6509.toInt ≤ 160) → (161 - x6509.toInt < (n6671 : Int)) → (0 < n6671) → GW κ 3 0 0 (wX q d I6512 A6512) 21 [(2, .int x6509), (0, .ref (q 43)), (1, .int z1)] [] := by
    intro n6671
    induction n6671 with
    | zero =>
      intro x6509 I6512 A6512 hI6512 hA6512 hV6512 h6668 h6669 m6672 m6672z
      exact absurd m6672z (Nat.lt_irrefl 0)
    | succ n6671 ih =>
      intro x6509 I6512 A6512 hI6512 hA6512 hV6512 h6668 h6669 m6672 m6672z
      refine g_iload_n hk dX1_scan_21 rfl ?_
      refine g_sipush (v := 160) hk dX1_scan_22 (by decide) ?_
      refine g_icmp_ge (tgt := 84) (a := x6509.toInt) (b := 160) hk dX1_scan_25 (by decide) rfl rfl (fun c6673 => ?_) (fun c6673 => ?_)
      · skip
        exact g_vret hk hR ⟨I6512, A6512, (show Md [28, 30, 31, 32, 33, 34] I I6512 from (Md.tr (Md.tr Md.rf hI6508 rfl) hI6512 rfl)), (show Md [21, 22, 23, 26] A A6512 from (Md.tr (Md.tr Md.rf hA6508 rfl) hA6512 rfl)), hV6512, rfl, rfl⟩ dX1_scan_84
      · skip
        refine g_aload_n hk dX1_scan_28 rfl ?_
        refine gX_r43_6 hk hin1 (List.mem_cons_of_mem _ (List.mem_append_left _ (List.mem_of_getElem? (i := 10) rfl))) dX1_scan_29 ?_
        refine g_iload_n hk dX1_scan_32 rfl ?_
        refine g_iconst (v := (-1)) hk dX1_scan_33 (by decide) ?_
        have k6674 : ((-1) : Int32).toInt = (-1) := rfl
        refine sX_26 (j := x6509.toNatClampNeg) hk (vp_in_iff.mpr ⟨by omega, by omega⟩) rfl dX1_scan_34 ?_
        refine g_aload_n hk dX1_scan_35 rfl ?_
        refine gX_r43_1 hk hin1 (List.mem_cons_of_mem _ (List.mem_append_left _ (List.mem_of_getElem? (i := 11) rfl))) dX1_scan_36 ?_
        refine g_iload_n hk dX1_scan_39 rfl ?_
        refine g_aload_n hk dX1_scan_40 rfl ?_
        refine gX_r43_2 hk hin1 (List.mem_cons_of_mem _ (List.mem_append_left _ (List.mem_of_getElem? (i := 12) rfl))) dX1_scan_41 ?_
        refine g_iload_n hk dX1_scan_44 rfl ?_
        refine g_callV (n := 1) hk (k182_X4_lengthOf l D zt q d I6512 (up3 A6512 26 (x6509.toNatClampNeg) (-1)) z1 ⟨(IvX_f0 (I := I6512) (A := A6512) hV6512), (IvX_f18 (I := I6512) (A := A6512) hV6512), (IvX_f30 (I := I6512) (A := A6512) hV6512), (IvX_f31 (I := I6512) (A := A6512) hV6512), (IvX_a4 (I := I6512) (A := A6512) hV6512), (IvX_a9 (I := I6512) (A := A6512) hV6512), trivial⟩) (SP.same _) (fun _ h => h) (gi_V (List.mem_cons_of_mem _ (List.mem_append_left _ (List.mem_of_getElem? (i := 13) rfl))) (List.mem_cons_of_mem _ (List.mem_append_left _ (List.mem_of_getElem? (i := 14) rfl))) (List.mem_cons_of_mem _ (List.mem_append_left _ (List.mem_of_getElem? (i := 15) rfl))) (List.mem_cons_of_mem _ (List.mem_append_left _ (List.mem_of_getElem? (i := 16) rfl))) (gi_sub (fun w h => (List.mem_cons_of_mem _ (List.mem_append_right _ (List.mem_append_right _ (List.mem_append_right _ (List.mem_append_right _ (List.mem_append_right _ (List.mem_append_left _ h)))))))) zg_k182_X4_lengthOf)) rfl rfl rfl (by decide +kernel) ⟨Nat.le_of_ble_eq_true rfl, Nat.le_of_ble_eq_true rfl⟩ 15 rfl rfl rfl rfl (Nat.le_of_ble_eq_true rfl) ⟨Nat.le_of_ble_eq_true rfl, Nat.le_of_ble_eq_true rfl⟩ dX1_scan_45 (fun v ty' w' hp hk' => ?_)
        rcases hp with ⟨rfl, rfl⟩ | ⟨y6682, c6676, c6677, c6678, c6679, c6680, c6681, c6683, c6684, rfl, rfl⟩
        · skip
          show GW κ 3 0 0 (wX q d I6512 (up3 A6512 26 (x6509.toNatClampNeg) (-1))) 48 [(2, .int x6509), (0, .ref (q 43)), (1, .int z1)] [.int 0, .int x6509, .ref (q 13)]
          refine g_callV (n := 2) hk (k207_X6_hasWindow l D zt q d I6512 (up3 A6512 26 (x6509.toNatClampNeg) (-1)) x6509 0 ⟨(IvX_f0 (I := I6512) (A := A6512) hV6512), (IvX_f18 (I := I6512) (A := A6512) hV6512), (IvX_f30 (I := I6512) (A := A6512) hV6512), (IvX_f31 (I := I6512) (A := A6512) hV6512), (IvX_a4 (I := I6512) (A := A6512) hV6512), (IvX_a9 (I := I6512) (A := A6512) hV6512), trivial⟩) (SP.same _) (fun _ h => h) (gi_V (List.mem_cons_of_mem _ (List.mem_append_left _ (List.mem_of_getElem? (i := 17) rfl))) (List.mem_cons_of_mem _ (List.mem_append_left _ (List.mem_of_getElem? (i := 18) rfl))) (List.mem_cons_of_mem _ (List.mem_append_left _ (List.mem_of_getElem? (i := 19) rfl))) (List.mem_cons_of_mem _ (List.mem_append_left _ (List.mem_of_getElem? (i := 20) rfl))) (gi_sub (fun w h => (List.mem_cons_of_mem _ (List.mem_append_right _ (List.mem_append_right _ (List.mem_append_right _ (List.mem_append_right _ (List.mem_append_right _ (List.mem_append_right _ (List.mem_append_left _ h))))))))) zg_k207_X6_hasWindow)) rfl rfl rfl (by decide +kernel) ⟨Nat.le_of_ble_eq_true rfl, Nat.le_of_ble_eq_true rfl⟩ 13 rfl rfl rfl rfl (Nat.le_of_ble_eq_true rfl) ⟨Nat.le_of_ble_eq_true rfl, Nat.le_of_ble_eq_true rfl⟩ dX1_scan_48 (fun v ty' w' hp hk' => ?_)
          rcases hp with ⟨rfl, rfl⟩ | ⟨c6686, c6687, c6688, c6689, c6690, c6691, rfl, rfl⟩
          · skip
            show GW κ 3 0 0 (wX q d I6512 (up3 A6512 26 (x6509.toNatClampNeg) (-1))) 51 [(2, .int x6509), (0, .ref (q 43)), (1, .int z1)] [.int 0]
            refine g_if_eq (tgt := 78) (a := 0) hk dX1_scan_51 (by decide) rfl (fun _ => ?_) (fun z9 => absurd (show (0 : Int) = (0 : Int) from by decide) z9)
            obtain ⟨y6693, ey6693⟩ : ∃ y : Int32, y = x6509 + Int32.ofInt 1 := ⟨_, rfl⟩
            have hy6693 : y6693.toInt = x6509.toInt + 1 := i32_add ey6693 rfl (by decide) (by omega) (by omega)
            refine g_iinc (v := y6693) (lv' := [(2, .int y6693), (0, .ref (q 43)), (1, .int z1)]) hk 0 dX1_scan_78 rfl ey6693.symm (by decide) rfl ?_
            refine g_goto (tgt := 21) hk dX1_scan_81 (by decide) ?_
            exact g_lv (List.forall_mem_cons.mpr ⟨List.mem_of_getElem? (i := 0) rfl, (List.forall_mem_cons.mpr ⟨List.mem_of_getElem? (i := 1) rfl, (List.forall_mem_cons.mpr ⟨List.mem_of_getElem? (i := 2) rfl, (fun _ h => absurd h List.not_mem_nil)⟩)⟩)⟩) (ih y6693 I6512 (up3 A6512 26 (x6509.toNatClampNeg) (-1)) (show Md [33, 34] I6508 I6512 from Md.tr hI6512 (show Md [33, 34] I6512 I6512 from Md.rf) rfl) (show Md [22, 23, 26] A6508 (up3 A6512 26 (x6509.toNatClampNeg) (-1)) from Md.tr hA6512 (show Md [22, 23, 26] A6512 (up3 A6512 26 (x6509.toNatClampNeg) (-1)) from (Md.up3 Md.rf rfl)) rfl) ⟨(IvX_f0 (I := I6512) (A := A6512) hV6512), (IvX_f18 (I := I6512) (A := A6512) hV6512), (IvX_f30 (I := I6512) (A := A6512) hV6512), (IvX_f31 (I := I6512) (A := A6512) hV6512), (IvX_a4 (I := I6512) (A := A6512) hV6512), (IvX_a9 (I := I6512) (A := A6512) hV6512), trivial⟩ (by omega) (by omega) (by omega) (by omega))
          · skip
            show GW κ 3 0 0 (wX q d I6512 (up3 A6512 26 (x6509.toNatClampNeg) (-1))) 51 [(2, .int x6509), (0, .ref (q 43)), (1, .int z1)] [.int 1]
            refine g_if_eq (tgt := 78) (a := 1) hk dX1_scan_51 (by decide) rfl (fun z9 => absurd z9 (show ¬ ((1 : Int) = (0 : Int)) from by decide)) (fun _ => ?_)
            refine g_aload_n hk dX1_scan_54 rfl ?_
            refine gX_r43_0 hk hin1 (List.mem_cons_of_mem _ (List.mem_append_left _ (List.mem_of_getElem? (i := 0) rfl))) dX1_scan_55 ?_
            refine g_iload_n hk dX1_scan_58 rfl ?_
            refine g_callV (n := 1) hk (k226_X0_laySecondWindow l D zt q d I6512 (up3 A6512 26 (x6509.toNatClampNeg) (-1)) x6509 ⟨(IvX_f0 (I := I6512) (A := A6512) hV6512), (IvX_f18 (I := I6512) (A := A6512) hV6512), (IvX_f30 (I := I6512) (A := A6512) hV6512), (IvX_f31 (I := I6512) (A := A6512) hV6512), (IvX_a4 (I := I6512) (A := A6512) hV6512), (IvX_a9 (I := I6512) (A := A6512) hV6512), trivial⟩) (SP.same _) (fun _ h => h) (gi_V (List.mem_cons_of_mem _ (List.mem_append_left _ (List.mem_of_getElem? (i := 21) rfl))) (List.mem_cons_of_mem _ (List.mem_append_left _ (List.mem_of_getElem? (i := 22) rfl))) (List.mem_cons_of_mem _ (List.mem_append_left _ (List.mem_of_getElem? (i := 23) rfl))) (List.mem_cons_of_mem _ (List.mem_append_left _ (List.mem_of_getElem? (i := 9) rfl))) (gi_sub (fun w h => (List.mem_cons_of_mem _ (List.mem_append_right _ (List.mem_append_right _ (List.mem_append_right _ (List.mem_append_right _ (List.mem_append_right _ (List.mem_append_right _ (List.mem_append_right _ (List.mem_append_left _ h)))))))))) zg_k226_X0_laySecondWindow)) rfl rfl rfl (by decide +kernel) ⟨Nat.le_of_ble_eq_true rfl, Nat.le_of_ble_eq_true rfl⟩ 37 rfl rfl rfl rfl (Nat.le_of_ble_eq_true rfl) ⟨Nat.le_of_ble_eq_true rfl, Nat.le_of_ble_eq_true rfl⟩ dX1_scan_59 (fun v ty' w' hp hk' => ?_)
            obtain ⟨I6695, A6695, hI6695, hA6695, hV6695, rfl, rfl⟩ := hp
            show GW κ 3 0 0 (wX q d I6695 A6695) 62 [(2, .int x6509), (0, .ref (q 43)), (1, .int z1)] []
            refine g_aload_n hk dX1_scan_62 rfl ?_
            refine gX_r43_6 hk hin1 (List.mem_cons_of_mem _ (List.mem_append_left _ (List.mem_of_getElem? (i := 10) rfl))) dX1_scan_63 ?_
            refine g_iload_n hk dX1_scan_66 rfl ?_
            refine g_aload_n hk dX1_scan_67 rfl ?_
            refine gX_r43_0 hk hin1 (List.mem_cons_of_mem _ (List.mem_append_left _ (List.mem_of_getElem? (i := 0) rfl))) dX1_scan_68 ?_
            refine gX_r37_3 hk hin0 (List.mem_cons_of_mem _ (List.mem_append_left _ (List.mem_of_getElem? (i := 24) rfl))) dX1_scan_71 ?_
            refine g_callV (n := 0) hk (k232_X2_wholeDistance l D zt q d I6695 A6695  hV6695) (SP.same _) (fun _ h => h) (gi_V (List.mem_cons_of_mem _ (List.mem_append_left _ (List.mem_of_getElem? (i := 25) rfl))) (List.mem_cons_of_mem _ (List.mem_append_left _ (List.mem_of_getElem? (i := 26) rfl))) (List.mem_cons_of_mem _ (List.mem_append_left _ (List.mem_of_getElem? (i := 27) rfl))) (List.mem_cons_of_mem _ (List.mem_append_left _ (List.mem_of_getElem? (i := 28) rfl))) (gi_sub (fun w h => (List.mem_cons_of_mem _ (List.mem_append_right _ (List.mem_append_right _ (List.mem_append_right _ (List.mem_append_right _ (List.mem_append_right _ (List.mem_append_right _ (List.mem_append_right _ (List.mem_append_right _ (List.mem_append_left _ h))))))))))) zg_k232_X2_wholeDistance)) rfl rfl rfl (by decide +kernel) ⟨Nat.le_of_ble_eq_true rfl, Nat.le_of_ble_eq_true rfl⟩ 38 rfl rfl rfl rfl (Nat.le_of_ble_eq_true rfl) ⟨Nat.le_of_ble_eq_true rfl, Nat.le_of_ble_eq_true rfl⟩ dX1_scan_74 (fun v ty' w' hp hk' => ?_)
            obtain ⟨I6697, A6697, hI6697, hA6697, hV6697, y6696, rfl, rfl⟩ := hp
            show GW κ 3 0 0 (wX q d I6697 A6697) 77 [(2, .int x6509), (0, .ref (q 43)), (1, .int z1)] [.int y6696, .int x6509, .ref (q 45)]
            refine sX_26 (j := x6509.toNatClampNeg) hk (vp_in_iff.mpr ⟨by omega, by omega⟩) rfl dX1_scan_77 ?_
            obtain ⟨y6698, ey6698⟩ : ∃ y : Int32, y = x6509 + Int32.ofInt 1 := ⟨_, rfl⟩
            have hy6698 : y6698.toInt = x6509.toInt + 1 := i32_add ey6698 rfl (by decide) (by omega) (by omega)
            refine g_iinc (v := y6698) (lv' := [(2, .int y6698), (0, .ref (q 43)), (1, .int z1)]) hk 0 dX1_scan_78 rfl ey6698.symm (by decide) rfl ?_
            refine g_goto (tgt := 21) hk dX1_scan_81 (by decide) ?_
            exact g_lv (List.forall_mem_cons.mpr ⟨List.mem_of_getElem? (i := 0) rfl, (List.forall_mem_cons.mpr ⟨List.mem_of_getElem? (i := 1) rfl, (List.forall_mem_cons.mpr ⟨List.mem_of_getElem? (i := 2) rfl, (fun _ h => absurd h List.not_mem_nil)⟩)⟩)⟩) (ih y6698 I6697 (up3 A6697 26 (x6509.toNatClampNeg) y6696) (show Md [33, 34] I6508 I6697 from Md.tr hI6512 (show Md [33, 34] I6512 I6697 from (Md.tr (Md.tr Md.rf hI6695 rfl) hI6697 rfl)) rfl) (show Md [22, 23, 26] A6508 (up3 A6697 26 (x6509.toNatClampNeg) y6696) from Md.tr hA6512 (show Md [22, 23, 26] A6512 (up3 A6697 26 (x6509.toNatClampNeg) y6696) from (Md.up3 (Md.tr (Md.tr (Md.up3 Md.rf rfl) hA6695 rfl) hA6697 rfl) rfl)) rfl) ⟨(IvX_f0 (I := I6697) (A := A6697) hV6697), (IvX_f18 (I := I6697) (A := A6697) hV6697), (IvX_f30 (I := I6697) (A := A6697) hV6697), (IvX_f31 (I := I6697) (A := A6697) hV6697), (IvX_a4 (I := I6697) (A := A6697) hV6697), (IvX_a9 (I := I6697) (A := A6697) hV6697), trivial⟩ (by omega) (by omega) (by omega) (by omega))
        · skip
          show GW κ 3 0 0 (wX q d I6512 (up3 A6512 26 (x6509.toNatClampNeg) (-1))) 48 [(2, .int x6509), (0, .ref (q 43)), (1, .int z1)] [.int y6682, .int x6509, .ref (q 13)]
          refine g_callV (n := 2) hk (k207_X6_hasWindow l D zt q d I6512 (up3 A6512 26 (x6509.toNatClampNeg) (-1)) x6509 y6682 ⟨(IvX_f0 (I := I6512) (A := A6512) hV6512), (IvX_f18 (I := I6512) (A := A6512) hV6512), (IvX_f30 (I := I6512) (A := A6512) hV6512), (IvX_f31 (I := I6512) (A := A6512) hV6512), (IvX_a4 (I := I6512) (A := A6512) hV6512), (IvX_a9 (I := I6512) (A := A6512) hV6512), trivial⟩) (SP.same _) (fun _ h => h) (gi_V (List.mem_cons_of_mem _ (List.mem_append_left _ (List.mem_of_getElem? (i := 17) rfl))) (List.mem_cons_of_mem _ (List.mem_append_left _ (List.mem_of_getElem? (i := 18) rfl))) (List.mem_cons_of_mem _ (List.mem_append_left _ (List.mem_of_getElem? (i := 19) rfl))) (List.mem_cons_of_mem _ (List.mem_append_left _ (List.mem_of_getElem? (i := 20) rfl))) (gi_sub (fun w h => (List.mem_cons_of_mem _ (List.mem_append_right _ (List.mem_append_right _ (List.mem_append_right _ (List.mem_append_right _ (List.mem_append_right _ (List.mem_append_right _ (List.mem_append_left _ h))))))))) zg_k207_X6_hasWindow)) rfl rfl rfl (by decide +kernel) ⟨Nat.le_of_ble_eq_true rfl, Nat.le_of_ble_eq_true rfl⟩ 13 rfl rfl rfl rfl (Nat.le_of_ble_eq_true rfl) ⟨Nat.le_of_ble_eq_true rfl, Nat.le_of_ble_eq_true rfl⟩ dX1_scan_48 (fun v ty' w' hp hk' => ?_)
          rcases hp with ⟨rfl, rfl⟩ | ⟨c6700, c6701, c6702, c6703, c6704, c6705, rfl, rfl⟩
          · skip
            show GW κ 3 0 0 (wX q d I6512 (up3 A6512 26 (x6509.toNatClampNeg) (-1))) 51 [(2, .int x6509), (0, .ref (q 43)), (1, .int z1)] [.int 0]
            refine g_if_eq (tgt := 78) (a := 0) hk dX1_scan_51 (by decide) rfl (fun _ => ?_) (fun z9 => absurd (show (0 : Int) = (0 : Int) from by decide) z9)
            obtain ⟨y6707, ey6707⟩ : ∃ y : Int32, y = x6509 + Int32.ofInt 1 := ⟨_, rfl⟩
            have hy6707 : y6707.toInt = x6509.toInt + 1 := i32_add ey6707 rfl (by decide) (by omega) (by omega)
            refine g_iinc (v := y6707) (lv' := [(2, .int y6707), (0, .ref (q 43)), (1, .int z1)]) hk 0 dX1_scan_78 rfl ey6707.symm (by decide) rfl ?_
            refine g_goto (tgt := 21) hk dX1_scan_81 (by decide) ?_
            exact g_lv (List.forall_mem_cons.mpr ⟨List.mem_of_getElem? (i := 0) rfl, (List.forall_mem_cons.mpr ⟨List.mem_of_getElem? (i := 1) rfl, (List.forall_mem_cons.mpr ⟨List.mem_of_getElem? (i := 2) rfl, (fun _ h => absurd h List.not_mem_nil)⟩)⟩)⟩) (ih y6707 I6512 (up3 A6512 26 (x6509.toNatClampNeg) (-1)) (show Md [33, 34] I6508 I6512 from Md.tr hI6512 (show Md [33, 34] I6512 I6512 from Md.rf) rfl) (show Md [22, 23, 26] A6508 (up3 A6512 26 (x6509.toNatClampNeg) (-1)) from Md.tr hA6512 (show Md [22, 23, 26] A6512 (up3 A6512 26 (x6509.toNatClampNeg) (-1)) from (Md.up3 Md.rf rfl)) rfl) ⟨(IvX_f0 (I := I6512) (A := A6512) hV6512), (IvX_f18 (I := I6512) (A := A6512) hV6512), (IvX_f30 (I := I6512) (A := A6512) hV6512), (IvX_f31 (I := I6512) (A := A6512) hV6512), (IvX_a4 (I := I6512) (A := A6512) hV6512), (IvX_a9 (I := I6512) (A := A6512) hV6512), trivial⟩ (by omega) (by omega) (by omega) (by omega))
          · skip
            show GW κ 3 0 0 (wX q d I6512 (up3 A6512 26 (x6509.toNatClampNeg) (-1))) 51 [(2, .int x6509), (0, .ref (q 43)), (1, .int z1)] [.int 1]
            refine g_if_eq (tgt := 78) (a := 1) hk dX1_scan_51 (by decide) rfl (fun z9 => absurd z9 (show ¬ ((1 : Int) = (0 : Int)) from by decide)) (fun _ => ?_)
            refine g_aload_n hk dX1_scan_54 rfl ?_
            refine gX_r43_0 hk hin1 (List.mem_cons_of_mem _ (List.mem_append_left _ (List.mem_of_getElem? (i := 0) rfl))) dX1_scan_55 ?_
            refine g_iload_n hk dX1_scan_58 rfl ?_
            refine g_callV (n := 1) hk (k226_X0_laySecondWindow l D zt q d I6512 (up3 A6512 26 (x6509.toNatClampNeg) (-1)) x6509 ⟨(IvX_f0 (I := I6512) (A := A6512) hV6512), (IvX_f18 (I := I6512) (A := A6512) hV6512), (IvX_f30 (I := I6512) (A := A6512) hV6512), (IvX_f31 (I := I6512) (A := A6512) hV6512), (IvX_a4 (I := I6512) (A := A6512) hV6512), (IvX_a9 (I := I6512) (A := A6512) hV6512), trivial⟩) (SP.same _) (fun _ h => h) (gi_V (List.mem_cons_of_mem _ (List.mem_append_left _ (List.mem_of_getElem? (i := 21) rfl))) (List.mem_cons_of_mem _ (List.mem_append_left _ (List.mem_of_getElem? (i := 22) rfl))) (List.mem_cons_of_mem _ (List.mem_append_left _ (List.mem_of_getElem? (i := 23) rfl))) (List.mem_cons_of_mem _ (List.mem_append_left _ (List.mem_of_getElem? (i := 9) rfl))) (gi_sub (fun w h => (List.mem_cons_of_mem _ (List.mem_append_right _ (List.mem_append_right _ (List.mem_append_right _ (List.mem_append_right _ (List.mem_append_right _ (List.mem_append_right _ (List.mem_append_right _ (List.mem_append_left _ h)))))))))) zg_k226_X0_laySecondWindow)) rfl rfl rfl (by decide +kernel) ⟨Nat.le_of_ble_eq_true rfl, Nat.le_of_ble_eq_true rfl⟩ 37 rfl rfl rfl rfl (Nat.le_of_ble_eq_true rfl) ⟨Nat.le_of_ble_eq_true rfl, Nat.le_of_ble_eq_true rfl⟩ dX1_scan_59 (fun v ty' w' hp hk' => ?_)
            obtain ⟨I6709, A6709, hI6709, hA6709, hV6709, rfl, rfl⟩ := hp
            show GW κ 3 0 0 (wX q d I6709 A6709) 62 [(2, .int x6509), (0, .ref (q 43)), (1, .int z1)] []
            refine g_aload_n hk dX1_scan_62 rfl ?_
            refine gX_r43_6 hk hin1 (List.mem_cons_of_mem _ (List.mem_append_left _ (List.mem_of_getElem? (i := 10) rfl))) dX1_scan_63 ?_
            refine g_iload_n hk dX1_scan_66 rfl ?_
            refine g_aload_n hk dX1_scan_67 rfl ?_
            refine gX_r43_0 hk hin1 (List.mem_cons_of_mem _ (List.mem_append_left _ (List.mem_of_getElem? (i := 0) rfl))) dX1_scan_68 ?_
            refine gX_r37_3 hk hin0 (List.mem_cons_of_mem _ (List.mem_append_left _ (List.mem_of_getElem? (i := 24) rfl))) dX1_scan_71 ?_
            refine g_callV (n := 0) hk (k232_X2_wholeDistance l D zt q d I6709 A6709  hV6709) (SP.same _) (fun _ h => h) (gi_V (List.mem_cons_of_mem _ (List.mem_append_left _ (List.mem_of_getElem? (i := 25) rfl))) (List.mem_cons_of_mem _ (List.mem_append_left _ (List.mem_of_getElem? (i := 26) rfl))) (List.mem_cons_of_mem _ (List.mem_append_left _ (List.mem_of_getElem? (i := 27) rfl))) (List.mem_cons_of_mem _ (List.mem_append_left _ (List.mem_of_getElem? (i := 28) rfl))) (gi_sub (fun w h => (List.mem_cons_of_mem _ (List.mem_append_right _ (List.mem_append_right _ (List.mem_append_right _ (List.mem_append_right _ (List.mem_append_right _ (List.mem_append_right _ (List.mem_append_right _ (List.mem_append_right _ (List.mem_append_left _ h))))))))))) zg_k232_X2_wholeDistance)) rfl rfl rfl (by decide +kernel) ⟨Nat.le_of_ble_eq_true rfl, Nat.le_of_ble_eq_true rfl⟩ 38 rfl rfl rfl rfl (Nat.le_of_ble_eq_true rfl) ⟨Nat.le_of_ble_eq_true rfl, Nat.le_of_ble_eq_true rfl⟩ dX1_scan_74 (fun v ty' w' hp hk' => ?_)
            obtain ⟨I6711, A6711, hI6711, hA6711, hV6711, y6710, rfl, rfl⟩ := hp
            show GW κ 3 0 0 (wX q d I6711 A6711) 77 [(2, .int x6509), (0, .ref (q 43)), (1, .int z1)] [.int y6710, .int x6509, .ref (q 45)]
            refine sX_26 (j := x6509.toNatClampNeg) hk (vp_in_iff.mpr ⟨by omega, by omega⟩) rfl dX1_scan_77 ?_
            obtain ⟨y6712, ey6712⟩ : ∃ y : Int32, y = x6509 + Int32.ofInt 1 := ⟨_, rfl⟩
            have hy6712 : y6712.toInt = x6509.toInt + 1 := i32_add ey6712 rfl (by decide) (by omega) (by omega)
            refine g_iinc (v := y6712) (lv' := [(2, .int y6712), (0, .ref (q 43)), (1, .int z1)]) hk 0 dX1_scan_78 rfl ey6712.symm (by decide) rfl ?_
            refine g_goto (tgt := 21) hk dX1_scan_81 (by decide) ?_
            exact g_lv (List.forall_mem_cons.mpr ⟨List.mem_of_getElem? (i := 0) rfl, (List.forall_mem_cons.mpr ⟨List.mem_of_getElem? (i := 1) rfl, (List.forall_mem_cons.mpr ⟨List.mem_of_getElem? (i := 2) rfl, (fun _ h => absurd h List.not_mem_nil)⟩)⟩)⟩) (ih y6712 I6711 (up3 A6711 26 (x6509.toNatClampNeg) y6710) (show Md [33, 34] I6508 I6711 from Md.tr hI6512 (show Md [33, 34] I6512 I6711 from (Md.tr (Md.tr Md.rf hI6709 rfl) hI6711 rfl)) rfl) (show Md [22, 23, 26] A6508 (up3 A6711 26 (x6509.toNatClampNeg) y6710) from Md.tr hA6512 (show Md [22, 23, 26] A6512 (up3 A6711 26 (x6509.toNatClampNeg) y6710) from (Md.up3 (Md.tr (Md.tr (Md.up3 Md.rf rfl) hA6709 rfl) hA6711 rfl) rfl)) rfl) ⟨(IvX_f0 (I := I6711) (A := A6711) hV6711), (IvX_f18 (I := I6711) (A := A6711) hV6711), (IvX_f30 (I := I6711) (A := A6711) hV6711), (IvX_f31 (I := I6711) (A := A6711) hV6711), (IvX_a4 (I := I6711) (A := A6711) hV6711), (IvX_a9 (I := I6711) (A := A6711) hV6711), trivial⟩ (by omega) (by omega) (by omega) (by omega))
  obtain ⟨n6713, n6713a, n6713b⟩ : ∃ n : Nat, 161 - 0 < (n : Int) ∧ 0 < n := ⟨((161 - 0 : Int)).toNat + 1, by omega, by omega⟩
  exact lp6670 n6713 0 I6508 A6508 Md.rf Md.rf hV6508 (by omega) (by omega) n6713a n6713b
def wo_k271_X1_leastScanned : List Cond := [Cond.fieldLink RX1 15 "WarpDesk$Finder" "distances" "[I"]
def wz_k271_X1_leastScanned : List Cond := .code yX1_leastScanned cX1_leastScanned 3 (some .int) :: (wo_k271_X1_leastScanned ++ (wsX10 ++ ([] : List Cond)))
theorem zg_k271_X1_leastScanned : ∀ w ∈ wz_k271_X1_leastScanned, goodWord w = true := zg_cons rfl (zg_app (by decide +kernel) (zg_app zgU_wsX10 zg_nil))
theorem zi_k271_X1_leastScanned : ∀ w ∈ wz_k271_X1_leastScanned, w ∈ lw_tbl := zi_cons zw_1158 (zi_app (zi_cons zw_411 zi_nil) (zi_app inX1 zi_nil))
set_option maxHeartbeats 4000000 in
set_option maxRecDepth 100000 in
theorem k271_X1_leastScanned (l : Launch) (D : va_G) (zt : Nat × Nat × Nat × (Nat → Nat) × (Nat → Nat)) (q : Nat → Nat) (d : Nat → ClassId) (I : Nat → Int32) (A : Nat → Nat → Int32) (hIv : IvX I A) : GM l D zt (tyX d) yX1_leastScanned wz_k271_X1_leastScanned ({ frames := 0, cells := 0, slots := 0, locals := 0 } : Room) [.ref (q 43)] (wX q d I A) (fun v _ w' => ∃ y0 : Int32, ((-1) ≤ y0.toInt) ∧ (y0.toInt ≤ 159) ∧ v = some (.int y0) ∧ w' = wX q d I A) 0 0 := by
  refine GM.of (cc := cX1_leastScanned) (maxL := 3) (ret := (some .int)) (own := RX1) (lv := [(0, .ref (q 43))]) (by decide) rfl rfl (Nat.le_of_ble_eq_true rfl) rfl (fun κ sz hk hR hN => ?_)
  have hin1 : ∀ w ∈ u_ws RX1 TX1 11, w ∈ wz_k271_X1_leastScanned := fun w h => (List.mem_cons_of_mem _ (List.mem_append_right _ (List.mem_append_left _ h)))
  refine g_iconst (v := (-1)) hk dX1_leastScanned_0 (by decide) ?_
  refine g_istore_n (lv' := [(1, .int (-1)), (0, .ref (q 43))]) hk dX1_leastScanned_1 (by decide) rfl ?_
  refine g_iconst (v := 0) hk dX1_leastScanned_2 (by decide) ?_
  refine g_istore_n (lv' := [(2, .int 0), (1, .int (-1)), (0, .ref (q 43))]) hk dX1_leastScanned_3 (by decide) rfl ?_
  have lp6767 : ∀ (n6768 : Nat) (x6716 : Int32) (x6717 : Int32), (0 ≤ x6716.toInt) → (x6716.toInt ≤ 160) → ((-1) ≤ x6717.toInt) → (x6717.toInt ≤ 159) → (161 - x6716.toInt < (n6768 : Int)) → (0 < n6768) → GW κ 3 0 0 (wX q d I A) 4 [(2, .int x6716), (1, .int x6717), (0, .ref (q 43))] [] := by
    intro n6768
    induction n6768 with
    | zero =>
      intro x6716 x6717 h6763 h6764 h6765 h6766 m6769 m6769z
      exact absurd m6769z (Nat.lt_irrefl 0)
    | succ n6768 ih =>
      intro x6716 x6717 h6763 h6764 h6765 h6766 m6769 m6769z
      refine g_iload_n hk dX1_leastScanned_4 rfl ?_
      refine g_sipush (v := 160) hk dX1_leastScanned_5 (by decide) ?_
      refine g_icmp_ge (tgt := 47) (a := x6716.toInt) (b := 160) hk dX1_leastScanned_8 (by decide) rfl rfl (fun c6770 => ?_) (fun c6770 => ?_)
      · skip
        refine g_iload_n hk dX1_leastScanned_47 rfl ?_
        exact g_iret hk hR rfl ⟨x6717, (by omega), (by omega), rfl, rfl⟩ dX1_leastScanned_48
      · skip
        refine g_aload_n hk dX1_leastScanned_11 rfl ?_
        refine gX_r43_6 hk hin1 (List.mem_cons_of_mem _ (List.mem_append_left _ (List.mem_of_getElem? (i := 0) rfl))) dX1_leastScanned_12 ?_
        refine g_iload_n hk dX1_leastScanned_15 rfl ?_
        refine lX_26 (v := (A 26 x6716.toNatClampNeg)) hk (vp_in_iff.mpr ⟨by omega, by omega⟩) rfl dX1_leastScanned_16 ?_
        have b6771l := Int32.le_toInt (A 26 x6716.toNatClampNeg)
        have b6771h := Int32.toInt_lt (A 26 x6716.toNatClampNeg)
        refine g_if_lt (tgt := 41) (a := (A 26 x6716.toNatClampNeg).toInt) hk dX1_leastScanned_17 (by decide) rfl (fun c6772 => ?_) (fun c6772 => ?_)
        · skip
          obtain ⟨y6773, ey6773⟩ : ∃ y : Int32, y = x6716 + Int32.ofInt 1 := ⟨_, rfl⟩
          have hy6773 : y6773.toInt = x6716.toInt + 1 := i32_add ey6773 rfl (by decide) (by omega) (by omega)
          refine g_iinc (v := y6773) (lv' := [(2, .int y6773), (1, .int x6717), (0, .ref (q 43))]) hk 0 dX1_leastScanned_41 rfl ey6773.symm (by decide) rfl ?_
          refine g_goto (tgt := 4) hk dX1_leastScanned_44 (by decide) ?_
          exact g_lv (List.forall_mem_cons.mpr ⟨List.mem_of_getElem? (i := 0) rfl, (List.forall_mem_cons.mpr ⟨List.mem_of_getElem? (i := 1) rfl, (List.forall_mem_cons.mpr ⟨List.mem_of_getElem? (i := 2) rfl, (fun _ h => absurd h List.not_mem_nil)⟩)⟩)⟩) (ih y6773 x6717 (by omega) (by omega) (by omega) (by omega) (by omega) (by omega))
        · skip
          refine g_iload_n hk dX1_leastScanned_20 rfl ?_
          refine g_if_lt (tgt := 39) (a := x6717.toInt) hk dX1_leastScanned_21 (by decide) rfl (fun c6774 => ?_) (fun c6774 => ?_)
          · skip
            refine g_iload_n hk dX1_leastScanned_39 rfl ?_
            refine g_istore_n (lv' := [(1, .int x6716), (2, .int x6716), (0, .ref (q 43))]) hk dX1_leastScanned_40 (by decide) rfl ?_
            obtain ⟨y6775, ey6775⟩ : ∃ y : Int32, y = x6716 + Int32.ofInt 1 := ⟨_, rfl⟩
            have hy6775 : y6775.toInt = x6716.toInt + 1 := i32_add ey6775 rfl (by decide) (by omega) (by omega)
            refine g_iinc (v := y6775) (lv' := [(2, .int y6775), (1, .int x6716), (0, .ref (q 43))]) hk 1 dX1_leastScanned_41 rfl ey6775.symm (by decide) rfl ?_
            refine g_goto (tgt := 4) hk dX1_leastScanned_44 (by decide) ?_
            exact g_lv (List.forall_mem_cons.mpr ⟨List.mem_of_getElem? (i := 0) rfl, (List.forall_mem_cons.mpr ⟨List.mem_of_getElem? (i := 1) rfl, (List.forall_mem_cons.mpr ⟨List.mem_of_getElem? (i := 2) rfl, (fun _ h => absurd h List.not_mem_nil)⟩)⟩)⟩) (ih y6775 x6716 (by omega) (by omega) (by omega) (by omega) (by omega) (by omega))
          · skip
            refine g_aload_n hk dX1_leastScanned_24 rfl ?_
            refine gX_r43_6 hk hin1 (List.mem_cons_of_mem _ (List.mem_append_left _ (List.mem_of_getElem? (i := 0) rfl))) dX1_leastScanned_25 ?_
            refine g_iload_n hk dX1_leastScanned_28 rfl ?_
            refine lX_26 (v := (A 26 x6716.toNatClampNeg)) hk (vp_in_iff.mpr ⟨by omega, by omega⟩) rfl dX1_leastScanned_29 ?_
            refine g_aload_n hk dX1_leastScanned_30 rfl ?_
            refine gX_r43_6 hk hin1 (List.mem_cons_of_mem _ (List.mem_append_left _ (List.mem_of_getElem? (i := 0) rfl))) dX1_leastScanned_31 ?_
            refine g_iload_n hk dX1_leastScanned_34 rfl ?_
            refine lX_26 (v := (A 26 x6717.toNatClampNeg)) hk (vp_in_iff.mpr ⟨by omega, by omega⟩) rfl dX1_leastScanned_35 ?_
            have b6776l := Int32.le_toInt (A 26 x6717.toNatClampNeg)
            have b6776h := Int32.toInt_lt (A 26 x6717.toNatClampNeg)
            refine g_icmp_ge (tgt := 41) (a := (A 26 x6716.toNatClampNeg).toInt) (b := (A 26 x6717.toNatClampNeg).toInt) hk dX1_leastScanned_36 (by decide) rfl rfl (fun c6777 => ?_) (fun c6777 => ?_)
            · skip
              obtain ⟨y6778, ey6778⟩ : ∃ y : Int32, y = x6716 + Int32.ofInt 1 := ⟨_, rfl⟩
              have hy6778 : y6778.toInt = x6716.toInt + 1 := i32_add ey6778 rfl (by decide) (by omega) (by omega)
              refine g_iinc (v := y6778) (lv' := [(2, .int y6778), (1, .int x6717), (0, .ref (q 43))]) hk 0 dX1_leastScanned_41 rfl ey6778.symm (by decide) rfl ?_
              refine g_goto (tgt := 4) hk dX1_leastScanned_44 (by decide) ?_
              exact g_lv (List.forall_mem_cons.mpr ⟨List.mem_of_getElem? (i := 0) rfl, (List.forall_mem_cons.mpr ⟨List.mem_of_getElem? (i := 1) rfl, (List.forall_mem_cons.mpr ⟨List.mem_of_getElem? (i := 2) rfl, (fun _ h => absurd h List.not_mem_nil)⟩)⟩)⟩) (ih y6778 x6717 (by omega) (by omega) (by omega) (by omega) (by omega) (by omega))
            · skip
              refine g_iload_n hk dX1_leastScanned_39 rfl ?_
              refine g_istore_n (lv' := [(1, .int x6716), (2, .int x6716), (0, .ref (q 43))]) hk dX1_leastScanned_40 (by decide) rfl ?_
              obtain ⟨y6779, ey6779⟩ : ∃ y : Int32, y = x6716 + Int32.ofInt 1 := ⟨_, rfl⟩
              have hy6779 : y6779.toInt = x6716.toInt + 1 := i32_add ey6779 rfl (by decide) (by omega) (by omega)
              refine g_iinc (v := y6779) (lv' := [(2, .int y6779), (1, .int x6716), (0, .ref (q 43))]) hk 1 dX1_leastScanned_41 rfl ey6779.symm (by decide) rfl ?_
              refine g_goto (tgt := 4) hk dX1_leastScanned_44 (by decide) ?_
              exact g_lv (List.forall_mem_cons.mpr ⟨List.mem_of_getElem? (i := 0) rfl, (List.forall_mem_cons.mpr ⟨List.mem_of_getElem? (i := 1) rfl, (List.forall_mem_cons.mpr ⟨List.mem_of_getElem? (i := 2) rfl, (fun _ h => absurd h List.not_mem_nil)⟩)⟩)⟩) (ih y6779 x6716 (by omega) (by omega) (by omega) (by omega) (by omega) (by omega))
  have k6781 : (0 : Int32).toInt = 0 := rfl
  have k6782 : ((-1) : Int32).toInt = (-1) := rfl
  obtain ⟨n6780, n6780a, n6780b⟩ : ∃ n : Nat, 161 - 0 < (n : Int) ∧ 0 < n := ⟨((161 - 0 : Int)).toNat + 1, by omega, by omega⟩
  exact lp6767 n6780 0 (-1) (by omega) (by omega) (by omega) (by omega) n6780a n6780b
def wo_k272_X1_passOverAround : List Cond := [Cond.fieldLink RX1 28 "WarpDesk$Finder" "bench" "LWarpDesk$Bench;", Cond.fieldLink RX1 45 "WarpDesk$Bench" "settings" "LWarpDesk$Settings;", Cond.methodLink RX1 49 yX7_valueOf, Cond.instanceMethod yX7_valueOf, Cond.selects RX7 yX7_valueOf yX7_valueOf, Cond.initialized RX7, Cond.methodLink RX1 128 Lib.Math.abs.name, Cond.static Lib.Math.abs.name, Cond.initialized "java/lang/Math", Cond.code Lib.Math.abs.name Lib.Math.abs.code 1 (some .int), Cond.fieldLink RX1 15 "WarpDesk$Finder" "distances" "[I"]
def wz_k272_X1_passOverAround : List Cond := .code yX1_passOverAround cX1_passOverAround 4 none :: (wo_k272_X1_passOverAround ++ (wsX00 ++ (wsX10 ++ (wz_k194_X7_valueOf ++ ([] : List Cond)))))
theorem zg_k272_X1_passOverAround : ∀ w ∈ wz_k272_X1_passOverAround, goodWord w = true := zg_cons rfl (zg_app (by decide +kernel) (zg_app zgU_wsX00 (zg_app zgU_wsX10 (zg_app zg_k194_X7_valueOf zg_nil))))
theorem zi_k272_X1_passOverAround : ∀ w ∈ wz_k272_X1_passOverAround, w ∈ lw_tbl := zi_cons zw_1162 (zi_app (zi_cons zw_402 (zi_cons zw_379 (zi_cons zw_1137 (zi_cons zw_786 (zi_cons zw_787 (zi_cons zw_107 (zi_cons zw_1163 (zi_cons zw_1076 (zi_cons zw_120 (zi_cons zw_1077 (zi_cons zw_411 zi_nil))))))))))) (zi_app inX0 (zi_app inX1 (zi_app zi_k194_X7_valueOf zi_nil))))
set_option maxHeartbeats 4000000 in
set_option maxRecDepth 100000 in
theorem k272_X1_passOverAround (l : Launch) (D : va_G) (zt : Nat × Nat × Nat × (Nat → Nat) × (Nat → Nat)) (q : Nat → Nat) (d : Nat → ClassId) (I : Nat → Int32) (A : Nat → Nat → Int32) (z1 : Int32) (hIv : IvX I A) : GM l D zt (tyX d) yX1_passOverAround wz_k272_X1_passOverAround ({ frames := 1, cells := 0, slots := 0, locals := 21 } : Room) [.ref (q 43), .int z1] (wX q d I A) (fun v _ w' => ∃ (I' : Nat → Int32) (A' : Nat → Nat → Int32), Md [] I I' ∧ Md [26] A A' ∧ IvX I' A' ∧ v = none ∧ w' = wX q d I' A') 0 0 := by
  refine GM.of (cc := cX1_passOverAround) (maxL := 4) (ret := none) (own := RX1) (lv := [(0, .ref (q 43)), (1, .int z1)]) (by decide) rfl rfl (Nat.le_of_ble_eq_true rfl) rfl (fun κ sz hk hR hN => ?_)
  have hin0 : ∀ w ∈ u_ws RX0 TX0 5, w ∈ wz_k272_X1_passOverAround := fun w h => (List.mem_cons_of_mem _ (List.mem_append_right _ (List.mem_append_left _ h)))
  have hin1 : ∀ w ∈ u_ws RX1 TX1 11, w ∈ wz_k272_X1_passOverAround := fun w h => (List.mem_cons_of_mem _ (List.mem_append_right _ (List.mem_append_right _ (List.mem_append_left _ h))))
  refine g_aload_n hk dX1_passOverAround_0 rfl ?_
  refine gX_r43_0 hk hin1 (List.mem_cons_of_mem _ (List.mem_append_left _ (List.mem_of_getElem? (i := 0) rfl))) dX1_passOverAround_1 ?_
  refine gX_r37_2 hk hin0 (List.mem_cons_of_mem _ (List.mem_append_left _ (List.mem_of_getElem? (i := 1) rfl))) dX1_passOverAround_4 ?_
  refine g_iconst (v := 3) hk dX1_passOverAround_7 (by decide) ?_
  have k6792 : (3 : Int32).toInt = 3 := rfl
  refine g_callV (n := 1) hk (k194_X7_valueOf l D zt q d I A 3 hIv) (SP.same _) (fun _ h => h) (gi_V (List.mem_cons_of_mem _ (List.mem_append_left _ (List.mem_of_getElem? (i := 2) rfl))) (List.mem_cons_of_mem _ (List.mem_append_left _ (List.mem_of_getElem? (i := 3) rfl))) (List.mem_cons_of_mem _ (List.mem_append_left _ (List.mem_of_getElem? (i := 4) rfl))) (List.mem_cons_of_mem _ (List.mem_append_left _ (List.mem_of_getElem? (i := 5) rfl))) (gi_sub (fun w h => (List.mem_cons_of_mem _ (List.mem_append_right _ (List.mem_append_right _ (List.mem_append_right _ (List.mem_append_left _ h)))))) zg_k194_X7_valueOf)) rfl rfl rfl (by decide +kernel) ⟨Nat.le_of_ble_eq_true rfl, Nat.le_of_ble_eq_true rfl⟩ 18 rfl rfl rfl rfl (Nat.le_of_ble_eq_true rfl) ⟨Nat.le_of_ble_eq_true rfl, Nat.le_of_ble_eq_true rfl⟩ dX1_passOverAround_8 (fun v ty' w' hp hk' => ?_)
  obtain ⟨y6793, rfl, rfl⟩ := hp
  show GW κ 4 0 0 (wX q d I A) 11 [(0, .ref (q 43)), (1, .int z1)] [.int y6793]
  refine g_istore_n (lv' := [(2, .int y6793), (0, .ref (q 43)), (1, .int z1)]) hk dX1_passOverAround_11 (by decide) rfl ?_
  refine g_iconst (v := 0) hk dX1_passOverAround_12 (by decide) ?_
  refine g_istore_n (lv' := [(3, .int 0), (2, .int y6793), (0, .ref (q 43)), (1, .int z1)]) hk dX1_passOverAround_13 (by decide) rfl ?_
  have lp6842 : ∀ (n6843 : Nat) (x6794 : Int32) (I6798 : Nat → Int32) (A6798 : Nat → Nat → Int32), (Md [] I I6798) → (Md [26] A A6798) → (IvX I6798 A6798) → (0 ≤ x6794.toInt) → (x6794.toInt ≤ 160) → (161 - x6794.toInt < (n6843 : Int)) → (0 < n6843) → GW κ 4 0 0 (wX q d I6798 A6798) 14 [(3, .int x6794), (2, .int y6793), (0, .ref (q 43)), (1, .int z1)] [] := by
    intro n6843
    induction n6843 with
    | zero =>
      intro x6794 I6798 A6798 hI6798 hA6798 hV6798 h6840 h6841 m6844 m6844z
      exact absurd m6844z (Nat.lt_irrefl 0)
    | succ n6843 ih =>
      intro x6794 I6798 A6798 hI6798 hA6798 hV6798 h6840 h6841 m6844 m6844z
      refine g_iload_n hk dX1_passOverAround_14 rfl ?_
      refine g_sipush (v := 160) hk dX1_passOverAround_15 (by decide) ?_
      refine g_icmp_ge (tgt := 44) (a := x6794.toInt) (b := 160) hk dX1_passOverAround_18 (by decide) rfl rfl (fun c6845 => ?_) (fun c6845 => ?_)
      · skip
        exact g_vret hk hR ⟨I6798, A6798, (show Md [] I I6798 from (Md.tr Md.rf hI6798 rfl)), (show Md [26] A A6798 from (Md.tr Md.rf hA6798 rfl)), hV6798, rfl, rfl⟩ dX1_passOverAround_44
      · skip
        refine g_iload_n hk dX1_passOverAround_21 rfl ?_
        refine g_iload_n hk dX1_passOverAround_22 rfl ?_
        have b6846l := Int32.le_toInt z1
        have b6846h := Int32.toInt_lt z1
        refine g_isub hk dX1_passOverAround_23 ?_
        refine g_topi (fun y6847 ey6847 => ?_)
        have hy6847 := i32_sub0 ey6847
        have b6848l := Int32.le_toInt y6847
        have b6848h := Int32.toInt_lt y6847
        refine g_mabs hk (List.mem_cons_of_mem _ (List.mem_append_left _ (List.mem_of_getElem? (i := 6) rfl))) (List.mem_cons_of_mem _ (List.mem_append_left _ (List.mem_of_getElem? (i := 7) rfl))) (List.mem_cons_of_mem _ (List.mem_append_left _ (List.mem_of_getElem? (i := 8) rfl))) (List.mem_cons_of_mem _ (List.mem_append_left _ (List.mem_of_getElem? (i := 9) rfl))) (Nat.le_of_ble_eq_true rfl) (Nat.le_of_ble_eq_true rfl) (Nat.le_of_ble_eq_true rfl) (Nat.le_of_ble_eq_true rfl) dX1_passOverAround_24 ?_
        refine g_topi (fun y6849 ey6849 => ?_)
        refine g_iload_n hk dX1_passOverAround_27 rfl ?_
        have b6850l := Int32.le_toInt y6849
        have b6850h := Int32.toInt_lt y6849
        have b6851l := Int32.le_toInt y6793
        have b6851h := Int32.toInt_lt y6793
        refine g_icmp_ge (tgt := 38) (a := y6849.toInt) (b := y6793.toInt) hk dX1_passOverAround_28 (by decide) rfl rfl (fun c6852 => ?_) (fun c6852 => ?_)
        · skip
          obtain ⟨y6853, ey6853⟩ : ∃ y : Int32, y = x6794 + Int32.ofInt 1 := ⟨_, rfl⟩
          have hy6853 : y6853.toInt = x6794.toInt + 1 := i32_add ey6853 rfl (by decide) (by omega) (by omega)
          refine g_iinc (v := y6853) (lv' := [(3, .int y6853), (2, .int y6793), (0, .ref (q 43)), (1, .int z1)]) hk 0 dX1_passOverAround_38 rfl ey6853.symm (by decide) rfl ?_
          refine g_goto (tgt := 14) hk dX1_passOverAround_41 (by decide) ?_
          exact g_lv (List.forall_mem_cons.mpr ⟨List.mem_of_getElem? (i := 0) rfl, (List.forall_mem_cons.mpr ⟨List.mem_of_getElem? (i := 1) rfl, (List.forall_mem_cons.mpr ⟨List.mem_of_getElem? (i := 2) rfl, (List.forall_mem_cons.mpr ⟨List.mem_of_getElem? (i := 3) rfl, (fun _ h => absurd h List.not_mem_nil)⟩)⟩)⟩)⟩) (ih y6853 I6798 A6798 (show Md [] I I6798 from Md.tr hI6798 (show Md [] I6798 I6798 from Md.rf) rfl) (show Md [26] A A6798 from Md.tr hA6798 (show Md [26] A6798 A6798 from Md.rf) rfl) hV6798 (by omega) (by omega) (by omega) (by omega))
        · skip
          refine g_aload_n hk dX1_passOverAround_31 rfl ?_
          refine gX_r43_6 hk hin1 (List.mem_cons_of_mem _ (List.mem_append_left _ (List.mem_of_getElem? (i := 10) rfl))) dX1_passOverAround_32 ?_
          refine g_iload_n hk dX1_passOverAround_35 rfl ?_
          refine g_iconst (v := (-1)) hk dX1_passOverAround_36 (by decide) ?_
          have k6854 : ((-1) : Int32).toInt = (-1) := rfl
          refine sX_26 (j := x6794.toNatClampNeg) hk (vp_in_iff.mpr ⟨by omega, by omega⟩) rfl dX1_passOverAround_37 ?_
          obtain ⟨y6855, ey6855⟩ : ∃ y : Int32, y = x6794 + Int32.ofInt 1 := ⟨_, rfl⟩
          have hy6855 : y6855.toInt = x6794.toInt + 1 := i32_add ey6855 rfl (by decide) (by omega) (by omega)
          refine g_iinc (v := y6855) (lv' := [(3, .int y6855), (2, .int y6793), (0, .ref (q 43)), (1, .int z1)]) hk 0 dX1_passOverAround_38 rfl ey6855.symm (by decide) rfl ?_
          refine g_goto (tgt := 14) hk dX1_passOverAround_41 (by decide) ?_
          exact g_lv (List.forall_mem_cons.mpr ⟨List.mem_of_getElem? (i := 0) rfl, (List.forall_mem_cons.mpr ⟨List.mem_of_getElem? (i := 1) rfl, (List.forall_mem_cons.mpr ⟨List.mem_of_getElem? (i := 2) rfl, (List.forall_mem_cons.mpr ⟨List.mem_of_getElem? (i := 3) rfl, (fun _ h => absurd h List.not_mem_nil)⟩)⟩)⟩)⟩) (ih y6855 I6798 (up3 A6798 26 (x6794.toNatClampNeg) (-1)) (show Md [] I I6798 from Md.tr hI6798 (show Md [] I6798 I6798 from Md.rf) rfl) (show Md [26] A (up3 A6798 26 (x6794.toNatClampNeg) (-1)) from Md.tr hA6798 (show Md [26] A6798 (up3 A6798 26 (x6794.toNatClampNeg) (-1)) from (Md.up3 Md.rf rfl)) rfl) ⟨(IvX_f0 (I := I6798) (A := A6798) hV6798), (IvX_f18 (I := I6798) (A := A6798) hV6798), (IvX_f30 (I := I6798) (A := A6798) hV6798), (IvX_f31 (I := I6798) (A := A6798) hV6798), (IvX_a4 (I := I6798) (A := A6798) hV6798), (IvX_a9 (I := I6798) (A := A6798) hV6798), trivial⟩ (by omega) (by omega) (by omega) (by omega))
  have k6857 : (0 : Int32).toInt = 0 := rfl
  obtain ⟨n6856, n6856a, n6856b⟩ : ∃ n : Nat, 161 - 0 < (n : Int) ∧ 0 < n := ⟨((161 - 0 : Int)).toNat + 1, by omega, by omega⟩
  exact lp6842 n6856 0 I A Md.rf Md.rf hIv (by omega) (by omega) n6856a n6856b
def wo_k269_X1_findMatches : List Cond := [Cond.methodLink RX1 116 yX1_scan, Cond.instanceMethod yX1_scan, Cond.selects RX1 yX1_scan yX1_scan, Cond.initialized RX1, Cond.fieldLink RX1 119 "WarpDesk$Finder" "matches" "I", Cond.methodLink RX1 122 yX1_leastScanned, Cond.instanceMethod yX1_leastScanned, Cond.selects RX1 yX1_leastScanned yX1_leastScanned, Cond.fieldLink RX1 18 "WarpDesk$Finder" "matchWindows" "[I", Cond.fieldLink RX1 21 "WarpDesk$Finder" "matchDistances" "[I", Cond.fieldLink RX1 15 "WarpDesk$Finder" "distances" "[I", Cond.methodLink RX1 125 yX1_passOverAround, Cond.instanceMethod yX1_passOverAround, Cond.selects RX1 yX1_passOverAround yX1_passOverAround]
def wz_k269_X1_findMatches : List Cond := .code yX1_findMatches cX1_findMatches 4 none :: (wo_k269_X1_findMatches ++ (wsX10 ++ (wz_k270_X1_scan ++ (wz_k271_X1_leastScanned ++ (wz_k272_X1_passOverAround ++ ([] : List Cond))))))
theorem zg_k269_X1_findMatches : ∀ w ∈ wz_k269_X1_findMatches, goodWord w = true := zg_cons rfl (zg_app (by decide +kernel) (zg_app zgU_wsX10 (zg_app zg_k270_X1_scan (zg_app zg_k271_X1_leastScanned (zg_app zg_k272_X1_passOverAround zg_nil)))))
theorem zi_k269_X1_findMatches : ∀ w ∈ wz_k269_X1_findMatches, w ∈ lw_tbl := zi_cons zw_1150 (zi_app (zi_cons zw_1151 (zi_cons zw_1152 (zi_cons zw_1153 (zi_cons zw_113 (zi_cons zw_414 (zi_cons zw_1155 (zi_cons zw_1157 (zi_cons zw_36 (zi_cons zw_412 (zi_cons zw_413 (zi_cons zw_411 (zi_cons zw_1159 (zi_cons zw_1161 (zi_cons zw_37 zi_nil)))))))))))))) (zi_app inX1 (zi_app zi_k270_X1_scan (zi_app zi_k271_X1_leastScanned (zi_app zi_k272_X1_passOverAround zi_nil)))))
set_option maxHeartbeats 4000000 in
set_option maxRecDepth 100000 in
theorem k269_X1_findMatches (l : Launch) (D : va_G) (zt : Nat × Nat × Nat × (Nat → Nat) × (Nat → Nat)) (q : Nat → Nat) (d : Nat → ClassId) (I : Nat → Int32) (A : Nat → Nat → Int32) (z1 : Int32) (hIv : IvX I A) : GM l D zt (tyX d) yX1_findMatches wz_k269_X1_findMatches ({ frames := 6, cells := 0, slots := 0, locals := 131 } : Room) [.ref (q 43), .int z1] (wX q d I A) (fun v _ w' => ∃ (I' : Nat → Int32) (A' : Nat → Nat → Int32), Md [28, 30, 31, 32, 33, 34, 37] I I' ∧ Md [21, 22, 23, 26, 27, 28] A A' ∧ IvX I' A' ∧ v = none ∧ w' = wX q d I' A') 0 0 := by
  refine GM.of (cc := cX1_findMatches) (maxL := 4) (ret := none) (own := RX1) (lv := [(0, .ref (q 43)), (1, .int z1)]) (by decide) rfl rfl (Nat.le_of_ble_eq_true rfl) rfl (fun κ sz hk hR hN => ?_)
  have hin1 : ∀ w ∈ u_ws RX1 TX1 11, w ∈ wz_k269_X1_findMatches := fun w h => (List.mem_cons_of_mem _ (List.mem_append_right _ (List.mem_append_left _ h)))
  refine g_aload_n hk dX1_findMatches_0 rfl ?_
  refine g_iload_n hk dX1_findMatches_1 rfl ?_
  refine g_callV (n := 1) hk (k270_X1_scan l D zt q d I A z1 hIv) (SP.same _) (fun _ h => h) (gi_V (List.mem_cons_of_mem _ (List.mem_append_left _ (List.mem_of_getElem? (i := 0) rfl))) (List.mem_cons_of_mem _ (List.mem_append_left _ (List.mem_of_getElem? (i := 1) rfl))) (List.mem_cons_of_mem _ (List.mem_append_left _ (List.mem_of_getElem? (i := 2) rfl))) (List.mem_cons_of_mem _ (List.mem_append_left _ (List.mem_of_getElem? (i := 3) rfl))) (gi_sub (fun w h => (List.mem_cons_of_mem _ (List.mem_append_right _ (List.mem_append_right _ (List.mem_append_left _ h))))) zg_k270_X1_scan)) rfl rfl rfl (by decide +kernel) ⟨Nat.le_of_ble_eq_true rfl, Nat.le_of_ble_eq_true rfl⟩ 43 rfl rfl rfl rfl (Nat.le_of_ble_eq_true rfl) ⟨Nat.le_of_ble_eq_true rfl, Nat.le_of_ble_eq_true rfl⟩ dX1_findMatches_2 (fun v ty' w' hp hk' => ?_)
  obtain ⟨I6715, A6715, hI6715, hA6715, hV6715, rfl, rfl⟩ := hp
  show GW κ 4 0 0 (wX q d I6715 A6715) 5 [(0, .ref (q 43)), (1, .int z1)] []
  refine g_aload_n hk dX1_findMatches_5 rfl ?_
  refine g_iconst (v := 0) hk dX1_findMatches_6 (by decide) ?_
  refine pX_i37 hk hin1 (List.mem_cons_of_mem _ (List.mem_append_left _ (List.mem_of_getElem? (i := 4) rfl))) dX1_findMatches_7 ?_
  refine g_aload_n hk dX1_findMatches_10 rfl ?_
  refine g_callV (n := 0) hk (k271_X1_leastScanned l D zt q d (upd I6715 37 0) A6715  ⟨(IvX_f0 (I := I6715) (A := A6715) hV6715), (IvX_f18 (I := I6715) (A := A6715) hV6715), (IvX_f30 (I := I6715) (A := A6715) hV6715), (IvX_f31 (I := I6715) (A := A6715) hV6715), (IvX_a4 (I := I6715) (A := A6715) hV6715), (IvX_a9 (I := I6715) (A := A6715) hV6715), trivial⟩) (SP.same _) (fun _ h => h) (gi_V (List.mem_cons_of_mem _ (List.mem_append_left _ (List.mem_of_getElem? (i := 5) rfl))) (List.mem_cons_of_mem _ (List.mem_append_left _ (List.mem_of_getElem? (i := 6) rfl))) (List.mem_cons_of_mem _ (List.mem_append_left _ (List.mem_of_getElem? (i := 7) rfl))) (List.mem_cons_of_mem _ (List.mem_append_left _ (List.mem_of_getElem? (i := 3) rfl))) (gi_sub (fun w h => (List.mem_cons_of_mem _ (List.mem_append_right _ (List.mem_append_right _ (List.mem_append_right _ (List.mem_append_left _ h)))))) zg_k271_X1_leastScanned)) rfl rfl rfl (by decide +kernel) ⟨Nat.le_of_ble_eq_true rfl, Nat.le_of_ble_eq_true rfl⟩ 43 rfl rfl rfl rfl (Nat.le_of_ble_eq_true rfl) ⟨Nat.le_of_ble_eq_true rfl, Nat.le_of_ble_eq_true rfl⟩ dX1_findMatches_11 (fun v ty' w' hp hk' => ?_)
  obtain ⟨y6783, c6784, c6785, rfl, rfl⟩ := hp
  show GW κ 4 0 0 (wX q d (upd I6715 37 0) A6715) 14 [(0, .ref (q 43)), (1, .int z1)] [.int y6783]
  refine g_istore_n (lv' := [(2, .int y6783), (0, .ref (q 43)), (1, .int z1)]) hk dX1_findMatches_14 (by decide) rfl ?_
  refine g_iconst (v := 0) hk dX1_findMatches_15 (by decide) ?_
  refine g_istore_n (lv' := [(3, .int 0), (2, .int y6783), (0, .ref (q 43)), (1, .int z1)]) hk dX1_findMatches_16 (by decide) rfl ?_
  have lp6894 : ∀ (n6895 : Nat) (x6786 : Int32) (x6787 : Int32) (I6790 : Nat → Int32) (A6790 : Nat → Nat → Int32), (Md [37] (upd I6715 37 0) I6790) → (Md [26, 27, 28] A6715 A6790) → (IvX I6790 A6790) → (0 ≤ x6786.toInt) → (x6786.toInt ≤ 160) → ((-1) ≤ x6787.toInt) → (x6787.toInt ≤ 159) → (161 - x6786.toInt < (n6895 : Int)) → (0 < n6895) → GW κ 4 0 0 (wX q d I6790 A6790) 17 [(3, .int x6786), (2, .int x6787), (0, .ref (q 43)), (1, .int z1)] [] := by
    intro n6895
    induction n6895 with
    | zero =>
      intro x6786 x6787 I6790 A6790 hI6790 hA6790 hV6790 h6890 h6891 h6892 h6893 m6896 m6896z
      exact absurd m6896z (Nat.lt_irrefl 0)
    | succ n6895 ih =>
      intro x6786 x6787 I6790 A6790 hI6790 hA6790 hV6790 h6890 h6891 h6892 h6893 m6896 m6896z
      refine g_iload_n hk dX1_findMatches_17 rfl ?_
      refine g_sipush (v := 160) hk dX1_findMatches_18 (by decide) ?_
      refine g_icmp_ge (tgt := 70) (a := x6786.toInt) (b := 160) hk dX1_findMatches_21 (by decide) rfl rfl (fun c6897 => ?_) (fun c6897 => ?_)
      · skip
        exact g_vret hk hR ⟨I6790, A6790, (show Md [28, 30, 31, 32, 33, 34, 37] I I6790 from (Md.tr (Md.up (Md.tr Md.rf hI6715 rfl) rfl) hI6790 rfl)), (show Md [21, 22, 23, 26, 27, 28] A A6790 from (Md.tr (Md.tr Md.rf hA6715 rfl) hA6790 rfl)), hV6790, rfl, rfl⟩ dX1_findMatches_70
      · skip
        refine g_iload_n hk dX1_findMatches_24 rfl ?_
        refine g_if_lt (tgt := 70) (a := x6787.toInt) hk dX1_findMatches_25 (by decide) rfl (fun c6898 => ?_) (fun c6898 => ?_)
        · skip
          exact g_vret hk hR ⟨I6790, A6790, (show Md [28, 30, 31, 32, 33, 34, 37] I I6790 from (Md.tr (Md.up (Md.tr Md.rf hI6715 rfl) rfl) hI6790 rfl)), (show Md [21, 22, 23, 26, 27, 28] A A6790 from (Md.tr (Md.tr Md.rf hA6715 rfl) hA6790 rfl)), hV6790, rfl, rfl⟩ dX1_findMatches_70
        · skip
          refine g_aload_n hk dX1_findMatches_28 rfl ?_
          refine gX_r43_7 hk hin1 (List.mem_cons_of_mem _ (List.mem_append_left _ (List.mem_of_getElem? (i := 8) rfl))) dX1_findMatches_29 ?_
          refine g_iload_n hk dX1_findMatches_32 rfl ?_
          refine g_iload_n hk dX1_findMatches_33 rfl ?_
          refine sX_27 (j := x6786.toNatClampNeg) hk (vp_in_iff.mpr ⟨by omega, by omega⟩) rfl dX1_findMatches_34 ?_
          refine g_aload_n hk dX1_findMatches_35 rfl ?_
          refine gX_r43_8 hk hin1 (List.mem_cons_of_mem _ (List.mem_append_left _ (List.mem_of_getElem? (i := 9) rfl))) dX1_findMatches_36 ?_
          refine g_iload_n hk dX1_findMatches_39 rfl ?_
          refine g_aload_n hk dX1_findMatches_40 rfl ?_
          refine gX_r43_6 hk hin1 (List.mem_cons_of_mem _ (List.mem_append_left _ (List.mem_of_getElem? (i := 10) rfl))) dX1_findMatches_41 ?_
          refine g_iload_n hk dX1_findMatches_44 rfl ?_
          refine lX_26 (v := (A6790 26 x6787.toNatClampNeg)) hk (vp_in_iff.mpr ⟨by omega, by omega⟩) rfl dX1_findMatches_45 ?_
          refine sX_28 (j := x6786.toNatClampNeg) hk (vp_in_iff.mpr ⟨by omega, by omega⟩) rfl dX1_findMatches_46 ?_
          refine g_aload_n hk dX1_findMatches_47 rfl ?_
          refine g_iload_n hk dX1_findMatches_48 rfl ?_
          refine g_iconst (v := 1) hk dX1_findMatches_49 (by decide) ?_
          refine g_iadd hk dX1_findMatches_50 ?_
          refine g_topi (fun y6899 ey6899 => ?_)
          have hy6899 : y6899.toInt = x6786.toInt + 1 := i32_add ey6899 rfl rfl (by omega) (by omega)
          refine pX_i37 hk hin1 (List.mem_cons_of_mem _ (List.mem_append_left _ (List.mem_of_getElem? (i := 4) rfl))) dX1_findMatches_51 ?_
          refine g_aload_n hk dX1_findMatches_54 rfl ?_
          refine g_iload_n hk dX1_findMatches_55 rfl ?_
          refine g_callV (n := 1) hk (k272_X1_passOverAround l D zt q d (upd I6790 37 y6899) (up3 (up3 A6790 27 (x6786.toNatClampNeg) x6787) 28 (x6786.toNatClampNeg) (A6790 26 x6787.toNatClampNeg)) x6787 ⟨(IvX_f0 (I := I6790) (A := A6790) hV6790), (IvX_f18 (I := I6790) (A := A6790) hV6790), (IvX_f30 (I := I6790) (A := A6790) hV6790), (IvX_f31 (I := I6790) (A := A6790) hV6790), (IvX_a4 (I := I6790) (A := A6790) hV6790), (IvX_a9 (I := I6790) (A := A6790) hV6790), trivial⟩) (SP.same _) (fun _ h => h) (gi_V (List.mem_cons_of_mem _ (List.mem_append_left _ (List.mem_of_getElem? (i := 11) rfl))) (List.mem_cons_of_mem _ (List.mem_append_left _ (List.mem_of_getElem? (i := 12) rfl))) (List.mem_cons_of_mem _ (List.mem_append_left _ (List.mem_of_getElem? (i := 13) rfl))) (List.mem_cons_of_mem _ (List.mem_append_left _ (List.mem_of_getElem? (i := 3) rfl))) (gi_sub (fun w h => (List.mem_cons_of_mem _ (List.mem_append_right _ (List.mem_append_right _ (List.mem_append_right _ (List.mem_append_right _ (List.mem_append_left _ h))))))) zg_k272_X1_passOverAround)) rfl rfl rfl (by decide +kernel) ⟨Nat.le_of_ble_eq_true rfl, Nat.le_of_ble_eq_true rfl⟩ 43 rfl rfl rfl rfl (Nat.le_of_ble_eq_true rfl) ⟨Nat.le_of_ble_eq_true rfl, Nat.le_of_ble_eq_true rfl⟩ dX1_findMatches_56 (fun v ty' w' hp hk' => ?_)
          obtain ⟨I6901, A6901, hI6901, hA6901, hV6901, rfl, rfl⟩ := hp
          show GW κ 4 0 0 (wX q d I6901 A6901) 59 [(3, .int x6786), (2, .int x6787), (0, .ref (q 43)), (1, .int z1)] []
          refine g_aload_n hk dX1_findMatches_59 rfl ?_
          refine g_callV (n := 0) hk (k271_X1_leastScanned l D zt q d I6901 A6901  hV6901) (SP.same _) (fun _ h => h) (gi_V (List.mem_cons_of_mem _ (List.mem_append_left _ (List.mem_of_getElem? (i := 5) rfl))) (List.mem_cons_of_mem _ (List.mem_append_left _ (List.mem_of_getElem? (i := 6) rfl))) (List.mem_cons_of_mem _ (List.mem_append_left _ (List.mem_of_getElem? (i := 7) rfl))) (List.mem_cons_of_mem _ (List.mem_append_left _ (List.mem_of_getElem? (i := 3) rfl))) (gi_sub (fun w h => (List.mem_cons_of_mem _ (List.mem_append_right _ (List.mem_append_right _ (List.mem_append_right _ (List.mem_append_left _ h)))))) zg_k271_X1_leastScanned)) rfl rfl rfl (by decide +kernel) ⟨Nat.le_of_ble_eq_true rfl, Nat.le_of_ble_eq_true rfl⟩ 43 rfl rfl rfl rfl (Nat.le_of_ble_eq_true rfl) ⟨Nat.le_of_ble_eq_true rfl, Nat.le_of_ble_eq_true rfl⟩ dX1_findMatches_60 (fun v ty' w' hp hk' => ?_)
          obtain ⟨y6902, c6903, c6904, rfl, rfl⟩ := hp
          show GW κ 4 0 0 (wX q d I6901 A6901) 63 [(3, .int x6786), (2, .int x6787), (0, .ref (q 43)), (1, .int z1)] [.int y6902]
          refine g_istore_n (lv' := [(2, .int y6902), (3, .int x6786), (0, .ref (q 43)), (1, .int z1)]) hk dX1_findMatches_63 (by decide) rfl ?_
          obtain ⟨y6905, ey6905⟩ : ∃ y : Int32, y = x6786 + Int32.ofInt 1 := ⟨_, rfl⟩
          have hy6905 : y6905.toInt = x6786.toInt + 1 := i32_add ey6905 rfl (by decide) (by omega) (by omega)
          refine g_iinc (v := y6905) (lv' := [(3, .int y6905), (2, .int y6902), (0, .ref (q 43)), (1, .int z1)]) hk 1 dX1_findMatches_64 rfl ey6905.symm (by decide) rfl ?_
          refine g_goto (tgt := 17) hk dX1_findMatches_67 (by decide) ?_
          exact g_lv (List.forall_mem_cons.mpr ⟨List.mem_of_getElem? (i := 0) rfl, (List.forall_mem_cons.mpr ⟨List.mem_of_getElem? (i := 1) rfl, (List.forall_mem_cons.mpr ⟨List.mem_of_getElem? (i := 2) rfl, (List.forall_mem_cons.mpr ⟨List.mem_of_getElem? (i := 3) rfl, (fun _ h => absurd h List.not_mem_nil)⟩)⟩)⟩)⟩) (ih y6905 y6902 I6901 A6901 (show Md [37] (upd I6715 37 0) I6901 from Md.tr hI6790 (show Md [37] I6790 I6901 from (Md.tr (Md.up Md.rf rfl) hI6901 rfl)) rfl) (show Md [26, 27, 28] A6715 A6901 from Md.tr hA6790 (show Md [26, 27, 28] A6790 A6901 from (Md.tr (Md.up3 (Md.up3 Md.rf rfl) rfl) hA6901 rfl)) rfl) hV6901 (by omega) (by omega) (by omega) (by omega) (by omega) (by omega))
  have k6907 : (0 : Int32).toInt = 0 := rfl
  obtain ⟨n6906, n6906a, n6906b⟩ : ∃ n : Nat, 161 - 0 < (n : Int) ∧ 0 < n := ⟨((161 - 0 : Int)).toNat + 1, by omega, by omega⟩
  exact lp6894 n6906 0 y6783 (upd I6715 37 0) A6715 Md.rf Md.rf ⟨(IvX_f0 (I := I6715) (A := A6715) hV6715), (IvX_f18 (I := I6715) (A := A6715) hV6715), (IvX_f30 (I := I6715) (A := A6715) hV6715), (IvX_f31 (I := I6715) (A := A6715) hV6715), (IvX_a4 (I := I6715) (A := A6715) hV6715), (IvX_a9 (I := I6715) (A := A6715) hV6715), trivial⟩ (by omega) (by omega) (by omega) (by omega) n6906a n6906b
def wo_k273_X1_matchDistance : List Cond := [Cond.fieldLink RX1 119 "WarpDesk$Finder" "matches" "I", Cond.fieldLink RX1 21 "WarpDesk$Finder" "matchDistances" "[I"]
def wz_k273_X1_matchDistance : List Cond := .code yX1_matchDistance cX1_matchDistance 2 (some .int) :: (wo_k273_X1_matchDistance ++ (wsX10 ++ ([] : List Cond)))
theorem zg_k273_X1_matchDistance : ∀ w ∈ wz_k273_X1_matchDistance, goodWord w = true := zg_cons rfl (zg_app (by decide +kernel) (zg_app zgU_wsX10 zg_nil))
theorem zi_k273_X1_matchDistance : ∀ w ∈ wz_k273_X1_matchDistance, w ∈ lw_tbl := zi_cons zw_1171 (zi_app (zi_cons zw_414 (zi_cons zw_413 zi_nil)) (zi_app inX1 zi_nil))
set_option maxHeartbeats 4000000 in
set_option maxRecDepth 100000 in
theorem k273_X1_matchDistance (l : Launch) (D : va_G) (zt : Nat × Nat × Nat × (Nat → Nat) × (Nat → Nat)) (q : Nat → Nat) (d : Nat → ClassId) (I : Nat → Int32) (A : Nat → Nat → Int32) (z1 : Int32) (hIv : IvX I A) : GM l D zt (tyX d) yX1_matchDistance wz_k273_X1_matchDistance ({ frames := 0, cells := 0, slots := 0, locals := 0 } : Room) [.ref (q 43), .int z1] (wX q d I A) (fun v _ w' => ∃ y0 : Int32, v = some (.int y0) ∧ w' = wX q d I A) 0 0 := by
  refine GM.of (cc := cX1_matchDistance) (maxL := 2) (ret := (some .int)) (own := RX1) (lv := [(0, .ref (q 43)), (1, .int z1)]) (by decide) rfl rfl (Nat.le_of_ble_eq_true rfl) rfl (fun κ sz hk hR hN => ?_)
  have hin1 : ∀ w ∈ u_ws RX1 TX1 11, w ∈ wz_k273_X1_matchDistance := fun w h => (List.mem_cons_of_mem _ (List.mem_append_right _ (List.mem_append_left _ h)))
  refine g_iload_n hk dX1_matchDistance_0 rfl ?_
  have b6911l := Int32.le_toInt z1
  have b6911h := Int32.toInt_lt z1
  refine g_if_lt (tgt := 28) (a := z1.toInt) hk dX1_matchDistance_1 (by decide) rfl (fun c6912 => ?_) (fun c6912 => ?_)
  · skip
    refine g_bipush (v := (-2)) hk dX1_matchDistance_28 (by decide) ?_
    exact g_iret hk hR rfl ⟨(-2), rfl, rfl⟩ dX1_matchDistance_30
  · skip
    refine g_iload_n hk dX1_matchDistance_4 rfl ?_
    refine g_aload_n hk dX1_matchDistance_5 rfl ?_
    refine gX_i37 (v := (I 37)) hk hin1 (List.mem_cons_of_mem _ (List.mem_append_left _ (List.mem_of_getElem? (i := 0) rfl))) dX1_matchDistance_6 rfl ?_
    have b6913l := Int32.le_toInt (I 37)
    have b6913h := Int32.toInt_lt (I 37)
    refine g_icmp_ge (tgt := 28) (a := z1.toInt) (b := (I 37).toInt) hk dX1_matchDistance_9 (by decide) rfl rfl (fun c6914 => ?_) (fun c6914 => ?_)
    · skip
      refine g_bipush (v := (-2)) hk dX1_matchDistance_28 (by decide) ?_
      exact g_iret hk hR rfl ⟨(-2), rfl, rfl⟩ dX1_matchDistance_30
    · skip
      refine g_iload_n hk dX1_matchDistance_12 rfl ?_
      refine g_sipush (v := 160) hk dX1_matchDistance_13 (by decide) ?_
      refine g_icmp_ge (tgt := 28) (a := z1.toInt) (b := 160) hk dX1_matchDistance_16 (by decide) rfl rfl (fun c6915 => ?_) (fun c6915 => ?_)
      · skip
        refine g_bipush (v := (-2)) hk dX1_matchDistance_28 (by decide) ?_
        exact g_iret hk hR rfl ⟨(-2), rfl, rfl⟩ dX1_matchDistance_30
      · skip
        refine g_aload_n hk dX1_matchDistance_19 rfl ?_
        refine gX_r43_8 hk hin1 (List.mem_cons_of_mem _ (List.mem_append_left _ (List.mem_of_getElem? (i := 1) rfl))) dX1_matchDistance_20 ?_
        refine g_iload_n hk dX1_matchDistance_23 rfl ?_
        refine lX_28 (v := (A 28 z1.toNatClampNeg)) hk (vp_in_iff.mpr ⟨by omega, by omega⟩) rfl dX1_matchDistance_24 ?_
        refine g_goto (tgt := 30) hk dX1_matchDistance_25 (by decide) ?_
        have b6916l := Int32.le_toInt (A 28 z1.toNatClampNeg)
        have b6916h := Int32.toInt_lt (A 28 z1.toNatClampNeg)
        exact g_iret hk hR rfl ⟨(A 28 z1.toNatClampNeg), rfl, rfl⟩ dX1_matchDistance_30
def wo_k274_X1_matchWindow : List Cond := [Cond.fieldLink RX1 119 "WarpDesk$Finder" "matches" "I", Cond.fieldLink RX1 18 "WarpDesk$Finder" "matchWindows" "[I"]
def wz_k274_X1_matchWindow : List Cond := .code yX1_matchWindow cX1_matchWindow 2 (some .int) :: (wo_k274_X1_matchWindow ++ (wsX10 ++ ([] : List Cond)))
theorem zg_k274_X1_matchWindow : ∀ w ∈ wz_k274_X1_matchWindow, goodWord w = true := zg_cons rfl (zg_app (by decide +kernel) (zg_app zgU_wsX10 zg_nil))
theorem zi_k274_X1_matchWindow : ∀ w ∈ wz_k274_X1_matchWindow, w ∈ lw_tbl := zi_cons zw_1167 (zi_app (zi_cons zw_414 (zi_cons zw_412 zi_nil)) (zi_app inX1 zi_nil))
set_option maxHeartbeats 4000000 in
set_option maxRecDepth 100000 in
theorem k274_X1_matchWindow (l : Launch) (D : va_G) (zt : Nat × Nat × Nat × (Nat → Nat) × (Nat → Nat)) (q : Nat → Nat) (d : Nat → ClassId) (I : Nat → Int32) (A : Nat → Nat → Int32) (z1 : Int32) (hIv : IvX I A) : GM l D zt (tyX d) yX1_matchWindow wz_k274_X1_matchWindow ({ frames := 0, cells := 0, slots := 0, locals := 0 } : Room) [.ref (q 43), .int z1] (wX q d I A) (fun v _ w' => ∃ y0 : Int32, v = some (.int y0) ∧ w' = wX q d I A) 0 0 := by
  refine GM.of (cc := cX1_matchWindow) (maxL := 2) (ret := (some .int)) (own := RX1) (lv := [(0, .ref (q 43)), (1, .int z1)]) (by decide) rfl rfl (Nat.le_of_ble_eq_true rfl) rfl (fun κ sz hk hR hN => ?_)
  have hin1 : ∀ w ∈ u_ws RX1 TX1 11, w ∈ wz_k274_X1_matchWindow := fun w h => (List.mem_cons_of_mem _ (List.mem_append_right _ (List.mem_append_left _ h)))
  refine g_iload_n hk dX1_matchWindow_0 rfl ?_
  have b6919l := Int32.le_toInt z1
  have b6919h := Int32.toInt_lt z1
  refine g_if_lt (tgt := 28) (a := z1.toInt) hk dX1_matchWindow_1 (by decide) rfl (fun c6920 => ?_) (fun c6920 => ?_)
  · skip
    refine g_bipush (v := (-2)) hk dX1_matchWindow_28 (by decide) ?_
    exact g_iret hk hR rfl ⟨(-2), rfl, rfl⟩ dX1_matchWindow_30
  · skip
    refine g_iload_n hk dX1_matchWindow_4 rfl ?_
    refine g_aload_n hk dX1_matchWindow_5 rfl ?_
    refine gX_i37 (v := (I 37)) hk hin1 (List.mem_cons_of_mem _ (List.mem_append_left _ (List.mem_of_getElem? (i := 0) rfl))) dX1_matchWindow_6 rfl ?_
    have b6921l := Int32.le_toInt (I 37)
    have b6921h := Int32.toInt_lt (I 37)
    refine g_icmp_ge (tgt := 28) (a := z1.toInt) (b := (I 37).toInt) hk dX1_matchWindow_9 (by decide) rfl rfl (fun c6922 => ?_) (fun c6922 => ?_)
    · skip
      refine g_bipush (v := (-2)) hk dX1_matchWindow_28 (by decide) ?_
      exact g_iret hk hR rfl ⟨(-2), rfl, rfl⟩ dX1_matchWindow_30
    · skip
      refine g_iload_n hk dX1_matchWindow_12 rfl ?_
      refine g_sipush (v := 160) hk dX1_matchWindow_13 (by decide) ?_
      refine g_icmp_ge (tgt := 28) (a := z1.toInt) (b := 160) hk dX1_matchWindow_16 (by decide) rfl rfl (fun c6923 => ?_) (fun c6923 => ?_)
      · skip
        refine g_bipush (v := (-2)) hk dX1_matchWindow_28 (by decide) ?_
        exact g_iret hk hR rfl ⟨(-2), rfl, rfl⟩ dX1_matchWindow_30
      · skip
        refine g_aload_n hk dX1_matchWindow_19 rfl ?_
        refine gX_r43_7 hk hin1 (List.mem_cons_of_mem _ (List.mem_append_left _ (List.mem_of_getElem? (i := 1) rfl))) dX1_matchWindow_20 ?_
        refine g_iload_n hk dX1_matchWindow_23 rfl ?_
        refine lX_27 (v := (A 27 z1.toNatClampNeg)) hk (vp_in_iff.mpr ⟨by omega, by omega⟩) rfl dX1_matchWindow_24 ?_
        refine g_goto (tgt := 30) hk dX1_matchWindow_25 (by decide) ?_
        have b6924l := Int32.le_toInt (A 27 z1.toNatClampNeg)
        have b6924h := Int32.toInt_lt (A 27 z1.toNatClampNeg)
        exact g_iret hk hR rfl ⟨(A 27 z1.toNatClampNeg), rfl, rfl⟩ dX1_matchWindow_30
def wo_k268_X11_match : List Cond := [Cond.fieldLink RX11 35 "WarpDesk" "queries" "LWarpDesk$Queries;", Cond.methodLink RX11 251 yX4_has, Cond.instanceMethod yX4_has, Cond.selects RX4 yX4_has yX4_has, Cond.initialized RX4, Cond.fieldLink RX11 74 "WarpDesk" "finder" "LWarpDesk$Finder;", Cond.methodLink RX11 284 yX1_findMatches, Cond.instanceMethod yX1_findMatches, Cond.selects RX1 yX1_findMatches yX1_findMatches, Cond.initialized RX1, Cond.methodLink RX11 290 yX1_matchDistance, Cond.instanceMethod yX1_matchDistance, Cond.selects RX1 yX1_matchDistance yX1_matchDistance, Cond.methodLink RX11 287 yX1_matchWindow, Cond.instanceMethod yX1_matchWindow, Cond.selects RX1 yX1_matchWindow yX1_matchWindow]
def wz_k268_X11_match : List Cond := .code yX11_match cX11_match 4 (some .int) :: (wo_k268_X11_match ++ (wsX110 ++ (wz_k168_X4_has ++ (wz_k269_X1_findMatches ++ (wz_k273_X1_matchDistance ++ (wz_k274_X1_matchWindow ++ ([] : List Cond)))))))
theorem zg_k268_X11_match : ∀ w ∈ wz_k268_X11_match, goodWord w = true := zg_cons rfl (zg_app (by decide +kernel) (zg_app zgU_wsX110 (zg_app zg_k168_X4_has (zg_app zg_k269_X1_findMatches (zg_app zg_k273_X1_matchDistance (zg_app zg_k274_X1_matchWindow zg_nil))))))
theorem zi_k268_X11_match : ∀ w ∈ wz_k268_X11_match, w ∈ lw_tbl := zi_cons zw_1146 (zi_app (zi_cons zw_490 (zi_cons zw_1086 (zi_cons zw_747 (zi_cons zw_748 (zi_cons zw_108 (zi_cons zw_495 (zi_cons zw_1147 (zi_cons zw_1148 (zi_cons zw_1149 (zi_cons zw_113 (zi_cons zw_1168 (zi_cons zw_1169 (zi_cons zw_1170 (zi_cons zw_1164 (zi_cons zw_1165 (zi_cons zw_1166 zi_nil)))))))))))))))) (zi_app inX11 (zi_app zi_k168_X4_has (zi_app zi_k269_X1_findMatches (zi_app zi_k273_X1_matchDistance (zi_app zi_k274_X1_matchWindow zi_nil))))))
set_option maxHeartbeats 4000000 in
set_option maxRecDepth 100000 in
theorem k268_X11_match (l : Launch) (D : va_G) (zt : Nat × Nat × Nat × (Nat → Nat) × (Nat → Nat)) (q : Nat → Nat) (d : Nat → ClassId) (I : Nat → Int32) (A : Nat → Nat → Int32) (z1 : Int32) (z2 : Int32) (z3 : Int32) (hIv : IvX I A) : GM l D zt (tyX d) yX11_match wz_k268_X11_match ({ frames := 7, cells := 0, slots := 0, locals := 154 } : Room) [.ref (q 0), .int z1, .int z2, .int z3] (wX q d I A) (fun v _ w' => ∃ (I' : Nat → Int32) (A' : Nat → Nat → Int32), Md [28, 30, 31, 32, 33, 34, 37] I I' ∧ Md [21, 22, 23, 26, 27, 28] A A' ∧ IvX I' A' ∧ ∃ y0 : Int32, v = some (.int y0) ∧ w' = wX q d I' A') 0 0 := by
  refine GM.of (cc := cX11_match) (maxL := 4) (ret := (some .int)) (own := RX11) (lv := [(0, .ref (q 0)), (1, .int z1), (2, .int z2), (3, .int z3)]) (by decide) rfl rfl (Nat.le_of_ble_eq_true rfl) rfl (fun κ sz hk hR hN => ?_)
  have hin11 : ∀ w ∈ u_ws RX11 TX11 10, w ∈ wz_k268_X11_match := fun w h => (List.mem_cons_of_mem _ (List.mem_append_right _ (List.mem_append_left _ h)))
  refine g_iload_n hk dX11_match_0 rfl ?_
  have b6494l := Int32.le_toInt z2
  have b6494h := Int32.toInt_lt z2
  refine g_if_lt (tgt := 24) (a := z2.toInt) hk dX11_match_1 (by decide) rfl (fun c6495 => ?_) (fun c6495 => ?_)
  · skip
    refine g_iconst (v := (-1)) hk dX11_match_24 (by decide) ?_
    exact g_iret hk hR rfl ⟨I, A, (show Md [28, 30, 31, 32, 33, 34, 37] I I from Md.rf), (show Md [21, 22, 23, 26, 27, 28] A A from Md.rf), hIv, (-1), rfl, rfl⟩ dX11_match_25
  · skip
    refine g_iload_n hk dX11_match_4 rfl ?_
    have b6496l := Int32.le_toInt z3
    have b6496h := Int32.toInt_lt z3
    refine g_if_lt (tgt := 24) (a := z3.toInt) hk dX11_match_5 (by decide) rfl (fun c6497 => ?_) (fun c6497 => ?_)
    · skip
      refine g_iconst (v := (-1)) hk dX11_match_24 (by decide) ?_
      exact g_iret hk hR rfl ⟨I, A, (show Md [28, 30, 31, 32, 33, 34, 37] I I from Md.rf), (show Md [21, 22, 23, 26, 27, 28] A A from Md.rf), hIv, (-1), rfl, rfl⟩ dX11_match_25
    · skip
      refine g_iload_n hk dX11_match_8 rfl ?_
      refine g_iconst (v := 1) hk dX11_match_9 (by decide) ?_
      refine g_icmp_gt (tgt := 24) (a := z3.toInt) (b := 1) hk dX11_match_10 (by decide) rfl rfl (fun c6498 => ?_) (fun c6498 => ?_)
      · skip
        refine g_iconst (v := (-1)) hk dX11_match_24 (by decide) ?_
        exact g_iret hk hR rfl ⟨I, A, (show Md [28, 30, 31, 32, 33, 34, 37] I I from Md.rf), (show Md [21, 22, 23, 26, 27, 28] A A from Md.rf), hIv, (-1), rfl, rfl⟩ dX11_match_25
      · skip
        refine g_aload_n hk dX11_match_13 rfl ?_
        refine gX_r0_3 hk hin11 (List.mem_cons_of_mem _ (List.mem_append_left _ (List.mem_of_getElem? (i := 0) rfl))) dX11_match_14 ?_
        refine g_iload_n hk dX11_match_17 rfl ?_
        refine g_callV (n := 1) hk (k168_X4_has l D zt q d I A z1 hIv) (SP.same _) (fun _ h => h) (gi_V (List.mem_cons_of_mem _ (List.mem_append_left _ (List.mem_of_getElem? (i := 1) rfl))) (List.mem_cons_of_mem _ (List.mem_append_left _ (List.mem_of_getElem? (i := 2) rfl))) (List.mem_cons_of_mem _ (List.mem_append_left _ (List.mem_of_getElem? (i := 3) rfl))) (List.mem_cons_of_mem _ (List.mem_append_left _ (List.mem_of_getElem? (i := 4) rfl))) (gi_sub (fun w h => (List.mem_cons_of_mem _ (List.mem_append_right _ (List.mem_append_right _ (List.mem_append_left _ h))))) zg_k168_X4_has)) rfl rfl rfl (by decide +kernel) ⟨Nat.le_of_ble_eq_true rfl, Nat.le_of_ble_eq_true rfl⟩ 15 rfl rfl rfl rfl (Nat.le_of_ble_eq_true rfl) ⟨Nat.le_of_ble_eq_true rfl, Nat.le_of_ble_eq_true rfl⟩ dX11_match_18 (fun v ty' w' hp hk' => ?_)
        rcases hp with ⟨rfl, rfl⟩ | ⟨c6500, c6501, c6502, c6503, rfl, rfl⟩
        · skip
          show GW κ 4 0 0 (wX q d I A) 21 [(0, .ref (q 0)), (1, .int z1), (2, .int z2), (3, .int z3)] [.int 0]
          refine g_if_ne (tgt := 26) (a := 0) hk dX11_match_21 (by decide) rfl (fun z9 => absurd z9 (show ¬ ((0 : Int) ≠ (0 : Int)) from by decide)) (fun _ => ?_)
          refine g_iconst (v := (-1)) hk dX11_match_24 (by decide) ?_
          exact g_iret hk hR rfl ⟨I, A, (show Md [28, 30, 31, 32, 33, 34, 37] I I from Md.rf), (show Md [21, 22, 23, 26, 27, 28] A A from Md.rf), hIv, (-1), rfl, rfl⟩ dX11_match_25
        · skip
          show GW κ 4 0 0 (wX q d I A) 21 [(0, .ref (q 0)), (1, .int z1), (2, .int z2), (3, .int z3)] [.int 1]
          refine g_if_ne (tgt := 26) (a := 1) hk dX11_match_21 (by decide) rfl (fun _ => ?_) (fun z9 => absurd (show (1 : Int) ≠ (0 : Int) from by decide) z9)
          refine g_aload_n hk dX11_match_26 rfl ?_
          refine gX_r0_8 hk hin11 (List.mem_cons_of_mem _ (List.mem_append_left _ (List.mem_of_getElem? (i := 5) rfl))) dX11_match_27 ?_
          refine g_iload_n hk dX11_match_30 rfl ?_
          refine g_callV (n := 1) hk (k269_X1_findMatches l D zt q d I A z1 hIv) (SP.same _) (fun _ h => h) (gi_V (List.mem_cons_of_mem _ (List.mem_append_left _ (List.mem_of_getElem? (i := 6) rfl))) (List.mem_cons_of_mem _ (List.mem_append_left _ (List.mem_of_getElem? (i := 7) rfl))) (List.mem_cons_of_mem _ (List.mem_append_left _ (List.mem_of_getElem? (i := 8) rfl))) (List.mem_cons_of_mem _ (List.mem_append_left _ (List.mem_of_getElem? (i := 9) rfl))) (gi_sub (fun w h => (List.mem_cons_of_mem _ (List.mem_append_right _ (List.mem_append_right _ (List.mem_append_right _ (List.mem_append_left _ h)))))) zg_k269_X1_findMatches)) rfl rfl rfl (by decide +kernel) ⟨Nat.le_of_ble_eq_true rfl, Nat.le_of_ble_eq_true rfl⟩ 43 rfl rfl rfl rfl (Nat.le_of_ble_eq_true rfl) ⟨Nat.le_of_ble_eq_true rfl, Nat.le_of_ble_eq_true rfl⟩ dX11_match_31 (fun v ty' w' hp hk' => ?_)
          obtain ⟨I6909, A6909, hI6909, hA6909, hV6909, rfl, rfl⟩ := hp
          show GW κ 4 0 0 (wX q d I6909 A6909) 34 [(0, .ref (q 0)), (1, .int z1), (2, .int z2), (3, .int z3)] []
          refine g_iload_n hk dX11_match_34 rfl ?_
          refine g_if_ne (tgt := 49) (a := z3.toInt) hk dX11_match_35 (by decide) rfl (fun c6910 => ?_) (fun c6910 => ?_)
          · skip
            refine g_aload_n hk dX11_match_49 rfl ?_
            refine gX_r0_8 hk hin11 (List.mem_cons_of_mem _ (List.mem_append_left _ (List.mem_of_getElem? (i := 5) rfl))) dX11_match_50 ?_
            refine g_iload_n hk dX11_match_53 rfl ?_
            refine g_callV (n := 1) hk (k273_X1_matchDistance l D zt q d I6909 A6909 z2 hV6909) (SP.same _) (fun _ h => h) (gi_V (List.mem_cons_of_mem _ (List.mem_append_left _ (List.mem_of_getElem? (i := 10) rfl))) (List.mem_cons_of_mem _ (List.mem_append_left _ (List.mem_of_getElem? (i := 11) rfl))) (List.mem_cons_of_mem _ (List.mem_append_left _ (List.mem_of_getElem? (i := 12) rfl))) (List.mem_cons_of_mem _ (List.mem_append_left _ (List.mem_of_getElem? (i := 9) rfl))) (gi_sub (fun w h => (List.mem_cons_of_mem _ (List.mem_append_right _ (List.mem_append_right _ (List.mem_append_right _ (List.mem_append_right _ (List.mem_append_left _ h))))))) zg_k273_X1_matchDistance)) rfl rfl rfl (by decide +kernel) ⟨Nat.le_of_ble_eq_true rfl, Nat.le_of_ble_eq_true rfl⟩ 43 rfl rfl rfl rfl (Nat.le_of_ble_eq_true rfl) ⟨Nat.le_of_ble_eq_true rfl, Nat.le_of_ble_eq_true rfl⟩ dX11_match_54 (fun v ty' w' hp hk' => ?_)
            obtain ⟨y6917, rfl, rfl⟩ := hp
            show GW κ 4 0 0 (wX q d I6909 A6909) 57 [(0, .ref (q 0)), (1, .int z1), (2, .int z2), (3, .int z3)] [.int y6917]
            have b6918l := Int32.le_toInt y6917
            have b6918h := Int32.toInt_lt y6917
            exact g_iret hk hR rfl ⟨I6909, A6909, (show Md [28, 30, 31, 32, 33, 34, 37] I I6909 from (Md.tr Md.rf hI6909 rfl)), (show Md [21, 22, 23, 26, 27, 28] A A6909 from (Md.tr Md.rf hA6909 rfl)), hV6909, y6917, rfl, rfl⟩ dX11_match_57
          · skip
            refine g_aload_n hk dX11_match_38 rfl ?_
            refine gX_r0_8 hk hin11 (List.mem_cons_of_mem _ (List.mem_append_left _ (List.mem_of_getElem? (i := 5) rfl))) dX11_match_39 ?_
            refine g_iload_n hk dX11_match_42 rfl ?_
            refine g_callV (n := 1) hk (k274_X1_matchWindow l D zt q d I6909 A6909 z2 hV6909) (SP.same _) (fun _ h => h) (gi_V (List.mem_cons_of_mem _ (List.mem_append_left _ (List.mem_of_getElem? (i := 13) rfl))) (List.mem_cons_of_mem _ (List.mem_append_left _ (List.mem_of_getElem? (i := 14) rfl))) (List.mem_cons_of_mem _ (List.mem_append_left _ (List.mem_of_getElem? (i := 15) rfl))) (List.mem_cons_of_mem _ (List.mem_append_left _ (List.mem_of_getElem? (i := 9) rfl))) (gi_sub (fun w h => (List.mem_cons_of_mem _ (List.mem_append_right _ (List.mem_append_right _ (List.mem_append_right _ (List.mem_append_right _ (List.mem_append_right _ (List.mem_append_left _ h)))))))) zg_k274_X1_matchWindow)) rfl rfl rfl (by decide +kernel) ⟨Nat.le_of_ble_eq_true rfl, Nat.le_of_ble_eq_true rfl⟩ 43 rfl rfl rfl rfl (Nat.le_of_ble_eq_true rfl) ⟨Nat.le_of_ble_eq_true rfl, Nat.le_of_ble_eq_true rfl⟩ dX11_match_43 (fun v ty' w' hp hk' => ?_)
            obtain ⟨y6925, rfl, rfl⟩ := hp
            show GW κ 4 0 0 (wX q d I6909 A6909) 46 [(0, .ref (q 0)), (1, .int z1), (2, .int z2), (3, .int z3)] [.int y6925]
            refine g_goto (tgt := 57) hk dX11_match_46 (by decide) ?_
            have b6926l := Int32.le_toInt y6925
            have b6926h := Int32.toInt_lt y6925
            exact g_iret hk hR rfl ⟨I6909, A6909, (show Md [28, 30, 31, 32, 33, 34, 37] I I6909 from (Md.tr Md.rf hI6909 rfl)), (show Md [21, 22, 23, 26, 27, 28] A A6909 from (Md.tr Md.rf hA6909 rfl)), hV6909, y6925, rfl, rfl⟩ dX11_match_57
def wo_k276_X1_matchesWithin : List Cond := [Cond.fieldLink RX1 119 "WarpDesk$Finder" "matches" "I", Cond.methodLink RX1 133 yX1_matchDistance, Cond.instanceMethod yX1_matchDistance, Cond.selects RX1 yX1_matchDistance yX1_matchDistance, Cond.initialized RX1]
def wz_k276_X1_matchesWithin : List Cond := .code yX1_matchesWithin cX1_matchesWithin 4 (some .int) :: (wo_k276_X1_matchesWithin ++ (wsX10 ++ (wz_k273_X1_matchDistance ++ ([] : List Cond))))
theorem zg_k276_X1_matchesWithin : ∀ w ∈ wz_k276_X1_matchesWithin, goodWord w = true := zg_cons rfl (zg_app (by decide +kernel) (zg_app zgU_wsX10 (zg_app zg_k273_X1_matchDistance zg_nil)))
theorem zi_k276_X1_matchesWithin : ∀ w ∈ wz_k276_X1_matchesWithin, w ∈ lw_tbl := zi_cons zw_1179 (zi_app (zi_cons zw_414 (zi_cons zw_1180 (zi_cons zw_1169 (zi_cons zw_1170 (zi_cons zw_113 zi_nil))))) (zi_app inX1 (zi_app zi_k273_X1_matchDistance zi_nil)))
set_option maxHeartbeats 4000000 in
set_option maxRecDepth 100000 in
theorem k276_X1_matchesWithin (l : Launch) (D : va_G) (zt : Nat × Nat × Nat × (Nat → Nat) × (Nat → Nat)) (q : Nat → Nat) (d : Nat → ClassId) (I : Nat → Int32) (A : Nat → Nat → Int32) (z1 : Int32) (hIv : IvX I A) : GM l D zt (tyX d) yX1_matchesWithin wz_k276_X1_matchesWithin ({ frames := 1, cells := 0, slots := 0, locals := 21 } : Room) [.ref (q 43), .int z1] (wX q d I A) (fun v _ w' => ∃ y0 : Int32, v = some (.int y0) ∧ w' = wX q d I A) 0 0 := by
  refine GM.of (cc := cX1_matchesWithin) (maxL := 4) (ret := (some .int)) (own := RX1) (lv := [(0, .ref (q 43)), (1, .int z1)]) (by decide) rfl rfl (Nat.le_of_ble_eq_true rfl) rfl (fun κ sz hk hR hN => ?_)
  have hin1 : ∀ w ∈ u_ws RX1 TX1 11, w ∈ wz_k276_X1_matchesWithin := fun w h => (List.mem_cons_of_mem _ (List.mem_append_right _ (List.mem_append_left _ h)))
  refine g_iconst (v := 0) hk dX1_matchesWithin_0 (by decide) ?_
  refine g_istore_n (lv' := [(2, .int 0), (0, .ref (q 43)), (1, .int z1)]) hk dX1_matchesWithin_1 (by decide) rfl ?_
  refine g_iconst (v := 0) hk dX1_matchesWithin_2 (by decide) ?_
  refine g_istore_n (lv' := [(3, .int 0), (2, .int 0), (0, .ref (q 43)), (1, .int z1)]) hk dX1_matchesWithin_3 (by decide) rfl ?_
  have lp6981 : ∀ (n6982 : Nat) (x6937 : Int32) (x6938 : Int32), (0 ≤ x6937.toInt) → ((I 37).toInt + 1 - x6937.toInt < (n6982 : Int)) → (0 < n6982) → GW κ 4 0 0 (wX q d I A) 4 [(3, .int x6937), (2, .int x6938), (0, .ref (q 43)), (1, .int z1)] [] := by
    intro n6982
    induction n6982 with
    | zero =>
      intro x6937 x6938 h6980 m6983 m6983z
      exact absurd m6983z (Nat.lt_irrefl 0)
    | succ n6982 ih =>
      intro x6937 x6938 h6980 m6983 m6983z
      refine g_iload_n hk dX1_matchesWithin_4 rfl ?_
      refine g_aload_n hk dX1_matchesWithin_5 rfl ?_
      refine gX_i37 (v := (I 37)) hk hin1 (List.mem_cons_of_mem _ (List.mem_append_left _ (List.mem_of_getElem? (i := 0) rfl))) dX1_matchesWithin_6 rfl ?_
      have b6984l := Int32.le_toInt x6937
      have b6984h := Int32.toInt_lt x6937
      have b6985l := Int32.le_toInt (I 37)
      have b6985h := Int32.toInt_lt (I 37)
      refine g_icmp_ge (tgt := 30) (a := x6937.toInt) (b := (I 37).toInt) hk dX1_matchesWithin_9 (by decide) rfl rfl (fun c6986 => ?_) (fun c6986 => ?_)
      · skip
        refine g_iload_n hk dX1_matchesWithin_30 rfl ?_
        have b6987l := Int32.le_toInt x6938
        have b6987h := Int32.toInt_lt x6938
        exact g_iret hk hR rfl ⟨x6938, rfl, rfl⟩ dX1_matchesWithin_31
      · skip
        refine g_aload_n hk dX1_matchesWithin_12 rfl ?_
        refine g_iload_n hk dX1_matchesWithin_13 rfl ?_
        refine g_callV (n := 1) hk (k273_X1_matchDistance l D zt q d I A x6937 hIv) (SP.same _) (fun _ h => h) (gi_V (List.mem_cons_of_mem _ (List.mem_append_left _ (List.mem_of_getElem? (i := 1) rfl))) (List.mem_cons_of_mem _ (List.mem_append_left _ (List.mem_of_getElem? (i := 2) rfl))) (List.mem_cons_of_mem _ (List.mem_append_left _ (List.mem_of_getElem? (i := 3) rfl))) (List.mem_cons_of_mem _ (List.mem_append_left _ (List.mem_of_getElem? (i := 4) rfl))) (gi_sub (fun w h => (List.mem_cons_of_mem _ (List.mem_append_right _ (List.mem_append_right _ (List.mem_append_left _ h))))) zg_k273_X1_matchDistance)) rfl rfl rfl (by decide +kernel) ⟨Nat.le_of_ble_eq_true rfl, Nat.le_of_ble_eq_true rfl⟩ 43 rfl rfl rfl rfl (Nat.le_of_ble_eq_true rfl) ⟨Nat.le_of_ble_eq_true rfl, Nat.le_of_ble_eq_true rfl⟩ dX1_matchesWithin_14 (fun v ty' w' hp hk' => ?_)
        obtain ⟨y6988, rfl, rfl⟩ := hp
        show GW κ 4 0 0 (wX q d I A) 17 [(3, .int x6937), (2, .int x6938), (0, .ref (q 43)), (1, .int z1)] [.int y6988]
        refine g_iload_n hk dX1_matchesWithin_17 rfl ?_
        have b6989l := Int32.le_toInt y6988
        have b6989h := Int32.toInt_lt y6988
        have b6990l := Int32.le_toInt z1
        have b6990h := Int32.toInt_lt z1
        refine g_icmp_gt (tgt := 24) (a := y6988.toInt) (b := z1.toInt) hk dX1_matchesWithin_18 (by decide) rfl rfl (fun c6991 => ?_) (fun c6991 => ?_)
        · skip
          obtain ⟨y6992, ey6992⟩ : ∃ y : Int32, y = x6937 + Int32.ofInt 1 := ⟨_, rfl⟩
          have hy6992 : y6992.toInt = x6937.toInt + 1 := i32_add ey6992 rfl (by decide) (by omega) (by omega)
          refine g_iinc (v := y6992) (lv' := [(3, .int y6992), (2, .int x6938), (0, .ref (q 43)), (1, .int z1)]) hk 0 dX1_matchesWithin_24 rfl ey6992.symm (by decide) rfl ?_
          refine g_goto (tgt := 4) hk dX1_matchesWithin_27 (by decide) ?_
          exact g_lv (List.forall_mem_cons.mpr ⟨List.mem_of_getElem? (i := 0) rfl, (List.forall_mem_cons.mpr ⟨List.mem_of_getElem? (i := 1) rfl, (List.forall_mem_cons.mpr ⟨List.mem_of_getElem? (i := 2) rfl, (List.forall_mem_cons.mpr ⟨List.mem_of_getElem? (i := 3) rfl, (fun _ h => absurd h List.not_mem_nil)⟩)⟩)⟩)⟩) (ih y6992 x6938 (by omega) (by omega) (by omega))
        · skip
          have b6993l := Int32.le_toInt x6938
          have b6993h := Int32.toInt_lt x6938
          obtain ⟨y6994, ey6994⟩ : ∃ y : Int32, y = x6938 + Int32.ofInt 1 := ⟨_, rfl⟩
          refine g_iinc (v := y6994) (lv' := [(2, .int y6994), (3, .int x6937), (0, .ref (q 43)), (1, .int z1)]) hk 1 dX1_matchesWithin_21 rfl ey6994.symm (by decide) rfl ?_
          obtain ⟨y6995, ey6995⟩ : ∃ y : Int32, y = x6937 + Int32.ofInt 1 := ⟨_, rfl⟩
          have hy6995 : y6995.toInt = x6937.toInt + 1 := i32_add ey6995 rfl (by decide) (by omega) (by omega)
          refine g_iinc (v := y6995) (lv' := [(3, .int y6995), (2, .int y6994), (0, .ref (q 43)), (1, .int z1)]) hk 1 dX1_matchesWithin_24 rfl ey6995.symm (by decide) rfl ?_
          refine g_goto (tgt := 4) hk dX1_matchesWithin_27 (by decide) ?_
          exact g_lv (List.forall_mem_cons.mpr ⟨List.mem_of_getElem? (i := 0) rfl, (List.forall_mem_cons.mpr ⟨List.mem_of_getElem? (i := 1) rfl, (List.forall_mem_cons.mpr ⟨List.mem_of_getElem? (i := 2) rfl, (List.forall_mem_cons.mpr ⟨List.mem_of_getElem? (i := 3) rfl, (fun _ h => absurd h List.not_mem_nil)⟩)⟩)⟩)⟩) (ih y6995 y6994 (by omega) (by omega) (by omega))
  have k6997 : (0 : Int32).toInt = 0 := rfl
  obtain ⟨n6996, n6996a, n6996b⟩ : ∃ n : Nat, (I 37).toInt + 1 - 0 < (n : Int) ∧ 0 < n := ⟨(((I 37).toInt + 1 - 0 : Int)).toNat + 1, by omega, by omega⟩
  exact lp6981 n6996 0 0 (by omega) n6996a n6996b
def wo_k275_X11_within : List Cond := [Cond.fieldLink RX11 35 "WarpDesk" "queries" "LWarpDesk$Queries;", Cond.methodLink RX11 251 yX4_has, Cond.instanceMethod yX4_has, Cond.selects RX4 yX4_has yX4_has, Cond.initialized RX4, Cond.fieldLink RX11 74 "WarpDesk" "finder" "LWarpDesk$Finder;", Cond.methodLink RX11 284 yX1_findMatches, Cond.instanceMethod yX1_findMatches, Cond.selects RX1 yX1_findMatches yX1_findMatches, Cond.initialized RX1, Cond.methodLink RX11 293 yX1_matchesWithin, Cond.instanceMethod yX1_matchesWithin, Cond.selects RX1 yX1_matchesWithin yX1_matchesWithin]
def wz_k275_X11_within : List Cond := .code yX11_within cX11_within 3 (some .int) :: (wo_k275_X11_within ++ (wsX110 ++ (wz_k168_X4_has ++ (wz_k269_X1_findMatches ++ (wz_k276_X1_matchesWithin ++ ([] : List Cond))))))
theorem zg_k275_X11_within : ∀ w ∈ wz_k275_X11_within, goodWord w = true := zg_cons rfl (zg_app (by decide +kernel) (zg_app zgU_wsX110 (zg_app zg_k168_X4_has (zg_app zg_k269_X1_findMatches (zg_app zg_k276_X1_matchesWithin zg_nil)))))
theorem zi_k275_X11_within : ∀ w ∈ wz_k275_X11_within, w ∈ lw_tbl := zi_cons zw_1175 (zi_app (zi_cons zw_490 (zi_cons zw_1086 (zi_cons zw_747 (zi_cons zw_748 (zi_cons zw_108 (zi_cons zw_495 (zi_cons zw_1147 (zi_cons zw_1148 (zi_cons zw_1149 (zi_cons zw_113 (zi_cons zw_1176 (zi_cons zw_1177 (zi_cons zw_1178 zi_nil))))))))))))) (zi_app inX11 (zi_app zi_k168_X4_has (zi_app zi_k269_X1_findMatches (zi_app zi_k276_X1_matchesWithin zi_nil)))))
set_option maxHeartbeats 4000000 in
set_option maxRecDepth 100000 in
theorem k275_X11_within (l : Launch) (D : va_G) (zt : Nat × Nat × Nat × (Nat → Nat) × (Nat → Nat)) (q : Nat → Nat) (d : Nat → ClassId) (I : Nat → Int32) (A : Nat → Nat → Int32) (z1 : Int32) (z2 : Int32) (hIv : IvX I A) : GM l D zt (tyX d) yX11_within wz_k275_X11_within ({ frames := 7, cells := 0, slots := 0, locals := 154 } : Room) [.ref (q 0), .int z1, .int z2] (wX q d I A) (fun v _ w' => ∃ (I' : Nat → Int32) (A' : Nat → Nat → Int32), Md [28, 30, 31, 32, 33, 34, 37] I I' ∧ Md [21, 22, 23, 26, 27, 28] A A' ∧ IvX I' A' ∧ ∃ y0 : Int32, v = some (.int y0) ∧ w' = wX q d I' A') 0 0 := by
  refine GM.of (cc := cX11_within) (maxL := 3) (ret := (some .int)) (own := RX11) (lv := [(0, .ref (q 0)), (1, .int z1), (2, .int z2)]) (by decide) rfl rfl (Nat.le_of_ble_eq_true rfl) rfl (fun κ sz hk hR hN => ?_)
  have hin11 : ∀ w ∈ u_ws RX11 TX11 10, w ∈ wz_k275_X11_within := fun w h => (List.mem_cons_of_mem _ (List.mem_append_right _ (List.mem_append_left _ h)))
  refine g_iload_n hk dX11_within_0 rfl ?_
  have b6927l := Int32.le_toInt z2
  have b6927h := Int32.toInt_lt z2
  refine g_if_lt (tgt := 15) (a := z2.toInt) hk dX11_within_1 (by decide) rfl (fun c6928 => ?_) (fun c6928 => ?_)
  · skip
    refine g_iconst (v := (-1)) hk dX11_within_15 (by decide) ?_
    exact g_iret hk hR rfl ⟨I, A, (show Md [28, 30, 31, 32, 33, 34, 37] I I from Md.rf), (show Md [21, 22, 23, 26, 27, 28] A A from Md.rf), hIv, (-1), rfl, rfl⟩ dX11_within_16
  · skip
    refine g_aload_n hk dX11_within_4 rfl ?_
    refine gX_r0_3 hk hin11 (List.mem_cons_of_mem _ (List.mem_append_left _ (List.mem_of_getElem? (i := 0) rfl))) dX11_within_5 ?_
    refine g_iload_n hk dX11_within_8 rfl ?_
    refine g_callV (n := 1) hk (k168_X4_has l D zt q d I A z1 hIv) (SP.same _) (fun _ h => h) (gi_V (List.mem_cons_of_mem _ (List.mem_append_left _ (List.mem_of_getElem? (i := 1) rfl))) (List.mem_cons_of_mem _ (List.mem_append_left _ (List.mem_of_getElem? (i := 2) rfl))) (List.mem_cons_of_mem _ (List.mem_append_left _ (List.mem_of_getElem? (i := 3) rfl))) (List.mem_cons_of_mem _ (List.mem_append_left _ (List.mem_of_getElem? (i := 4) rfl))) (gi_sub (fun w h => (List.mem_cons_of_mem _ (List.mem_append_right _ (List.mem_append_right _ (List.mem_append_left _ h))))) zg_k168_X4_has)) rfl rfl rfl (by decide +kernel) ⟨Nat.le_of_ble_eq_true rfl, Nat.le_of_ble_eq_true rfl⟩ 15 rfl rfl rfl rfl (Nat.le_of_ble_eq_true rfl) ⟨Nat.le_of_ble_eq_true rfl, Nat.le_of_ble_eq_true rfl⟩ dX11_within_9 (fun v ty' w' hp hk' => ?_)
    rcases hp with ⟨rfl, rfl⟩ | ⟨c6930, c6931, c6932, c6933, rfl, rfl⟩
    · skip
      show GW κ 3 0 0 (wX q d I A) 12 [(0, .ref (q 0)), (1, .int z1), (2, .int z2)] [.int 0]
      refine g_if_ne (tgt := 17) (a := 0) hk dX11_within_12 (by decide) rfl (fun z9 => absurd z9 (show ¬ ((0 : Int) ≠ (0 : Int)) from by decide)) (fun _ => ?_)
      refine g_iconst (v := (-1)) hk dX11_within_15 (by decide) ?_
      exact g_iret hk hR rfl ⟨I, A, (show Md [28, 30, 31, 32, 33, 34, 37] I I from Md.rf), (show Md [21, 22, 23, 26, 27, 28] A A from Md.rf), hIv, (-1), rfl, rfl⟩ dX11_within_16
    · skip
      show GW κ 3 0 0 (wX q d I A) 12 [(0, .ref (q 0)), (1, .int z1), (2, .int z2)] [.int 1]
      refine g_if_ne (tgt := 17) (a := 1) hk dX11_within_12 (by decide) rfl (fun _ => ?_) (fun z9 => absurd (show (1 : Int) ≠ (0 : Int) from by decide) z9)
      refine g_aload_n hk dX11_within_17 rfl ?_
      refine gX_r0_8 hk hin11 (List.mem_cons_of_mem _ (List.mem_append_left _ (List.mem_of_getElem? (i := 5) rfl))) dX11_within_18 ?_
      refine g_iload_n hk dX11_within_21 rfl ?_
      refine g_callV (n := 1) hk (k269_X1_findMatches l D zt q d I A z1 hIv) (SP.same _) (fun _ h => h) (gi_V (List.mem_cons_of_mem _ (List.mem_append_left _ (List.mem_of_getElem? (i := 6) rfl))) (List.mem_cons_of_mem _ (List.mem_append_left _ (List.mem_of_getElem? (i := 7) rfl))) (List.mem_cons_of_mem _ (List.mem_append_left _ (List.mem_of_getElem? (i := 8) rfl))) (List.mem_cons_of_mem _ (List.mem_append_left _ (List.mem_of_getElem? (i := 9) rfl))) (gi_sub (fun w h => (List.mem_cons_of_mem _ (List.mem_append_right _ (List.mem_append_right _ (List.mem_append_right _ (List.mem_append_left _ h)))))) zg_k269_X1_findMatches)) rfl rfl rfl (by decide +kernel) ⟨Nat.le_of_ble_eq_true rfl, Nat.le_of_ble_eq_true rfl⟩ 43 rfl rfl rfl rfl (Nat.le_of_ble_eq_true rfl) ⟨Nat.le_of_ble_eq_true rfl, Nat.le_of_ble_eq_true rfl⟩ dX11_within_22 (fun v ty' w' hp hk' => ?_)
      obtain ⟨I6936, A6936, hI6936, hA6936, hV6936, rfl, rfl⟩ := hp
      show GW κ 3 0 0 (wX q d I6936 A6936) 25 [(0, .ref (q 0)), (1, .int z1), (2, .int z2)] []
      refine g_aload_n hk dX11_within_25 rfl ?_
      refine gX_r0_8 hk hin11 (List.mem_cons_of_mem _ (List.mem_append_left _ (List.mem_of_getElem? (i := 5) rfl))) dX11_within_26 ?_
      refine g_iload_n hk dX11_within_29 rfl ?_
      refine g_callV (n := 1) hk (k276_X1_matchesWithin l D zt q d I6936 A6936 z2 hV6936) (SP.same _) (fun _ h => h) (gi_V (List.mem_cons_of_mem _ (List.mem_append_left _ (List.mem_of_getElem? (i := 10) rfl))) (List.mem_cons_of_mem _ (List.mem_append_left _ (List.mem_of_getElem? (i := 11) rfl))) (List.mem_cons_of_mem _ (List.mem_append_left _ (List.mem_of_getElem? (i := 12) rfl))) (List.mem_cons_of_mem _ (List.mem_append_left _ (List.mem_of_getElem? (i := 9) rfl))) (gi_sub (fun w h => (List.mem_cons_of_mem _ (List.mem_append_right _ (List.mem_append_right _ (List.mem_append_right _ (List.mem_append_right _ (List.mem_append_left _ h))))))) zg_k276_X1_matchesWithin)) rfl rfl rfl (by decide +kernel) ⟨Nat.le_of_ble_eq_true rfl, Nat.le_of_ble_eq_true rfl⟩ 43 rfl rfl rfl rfl (Nat.le_of_ble_eq_true rfl) ⟨Nat.le_of_ble_eq_true rfl, Nat.le_of_ble_eq_true rfl⟩ dX11_within_30 (fun v ty' w' hp hk' => ?_)
      obtain ⟨y6998, rfl, rfl⟩ := hp
      show GW κ 3 0 0 (wX q d I6936 A6936) 33 [(0, .ref (q 0)), (1, .int z1), (2, .int z2)] [.int y6998]
      have b6999l := Int32.le_toInt y6998
      have b6999h := Int32.toInt_lt y6998
      exact g_iret hk hR rfl ⟨I6936, A6936, (show Md [28, 30, 31, 32, 33, 34, 37] I I6936 from (Md.tr Md.rf hI6936 rfl)), (show Md [21, 22, 23, 26, 27, 28] A A6936 from (Md.tr Md.rf hA6936 rfl)), hV6936, y6998, rfl, rfl⟩ dX11_within_33
def wo_k279_X1_coverFrom : List Cond := [Cond.fieldLink RX1 24 "WarpDesk$Finder" "covered" "[Z"]
def wz_k279_X1_coverFrom : List Cond := .code yX1_coverFrom cX1_coverFrom 5 none :: (wo_k279_X1_coverFrom ++ (wsX10 ++ ([] : List Cond)))
theorem zg_k279_X1_coverFrom : ∀ w ∈ wz_k279_X1_coverFrom, goodWord w = true := zg_cons rfl (zg_app (by decide +kernel) (zg_app zgU_wsX10 zg_nil))
theorem zi_k279_X1_coverFrom : ∀ w ∈ wz_k279_X1_coverFrom, w ∈ lw_tbl := zi_cons zw_1193 (zi_app (zi_cons zw_415 zi_nil) (zi_app inX1 zi_nil))
set_option maxHeartbeats 4000000 in
set_option maxRecDepth 100000 in
theorem k279_X1_coverFrom (l : Launch) (D : va_G) (zt : Nat × Nat × Nat × (Nat → Nat) × (Nat → Nat)) (q : Nat → Nat) (d : Nat → ClassId) (I : Nat → Int32) (A : Nat → Nat → Int32) (z1 : Int32) (z2 : Int32) (hIv : IvX I A) : GM l D zt (tyX d) yX1_coverFrom wz_k279_X1_coverFrom ({ frames := 0, cells := 0, slots := 0, locals := 0 } : Room) [.ref (q 43), .int z1, .int z2] (wX q d I A) (fun v _ w' => ∃ (I' : Nat → Int32) (A' : Nat → Nat → Int32), Md [] I I' ∧ Md [29] A A' ∧ IvX I' A' ∧ v = none ∧ w' = wX q d I' A') 0 0 := by
  refine GM.of (cc := cX1_coverFrom) (maxL := 5) (ret := none) (own := RX1) (lv := [(0, .ref (q 43)), (1, .int z1), (2, .int z2)]) (by decide) rfl rfl (Nat.le_of_ble_eq_true rfl) rfl (fun κ sz hk hR hN => ?_)
  have hin1 : ∀ w ∈ u_ws RX1 TX1 11, w ∈ wz_k279_X1_coverFrom := fun w h => (List.mem_cons_of_mem _ (List.mem_append_right _ (List.mem_append_left _ h)))
  refine g_iconst (v := 0) hk dX1_coverFrom_0 (by decide) ?_
  refine g_istore_n (lv' := [(3, .int 0), (0, .ref (q 43)), (1, .int z1), (2, .int z2)]) hk dX1_coverFrom_1 (by decide) rfl ?_
  have lp7130 : ∀ (n7131 : Nat) (x7093 : Int32) (I7097 : Nat → Int32) (A7097 : Nat → Nat → Int32), (Md [] I I7097) → (Md [29] A A7097) → (IvX I7097 A7097) → (0 ≤ x7093.toInt) → (z2.toInt + 1 - x7093.toInt < (n7131 : Int)) → (0 < n7131) → GW κ 5 0 0 (wX q d I7097 A7097) 2 [(3, .int x7093), (0, .ref (q 43)), (1, .int z1), (2, .int z2)] [] := by
    intro n7131
    induction n7131 with
    | zero =>
      intro x7093 I7097 A7097 hI7097 hA7097 hV7097 h7129 m7132 m7132z
      exact absurd m7132z (Nat.lt_irrefl 0)
    | succ n7131 ih =>
      intro x7093 I7097 A7097 hI7097 hA7097 hV7097 h7129 m7132 m7132z
      refine g_iload_n hk dX1_coverFrom_2 rfl ?_
      refine g_iload_n hk dX1_coverFrom_3 rfl ?_
      have b7133l := Int32.le_toInt x7093
      have b7133h := Int32.toInt_lt x7093
      have b7134l := Int32.le_toInt z2
      have b7134h := Int32.toInt_lt z2
      refine g_icmp_ge (tgt := 39) (a := x7093.toInt) (b := z2.toInt) hk dX1_coverFrom_4 (by decide) rfl rfl (fun c7135 => ?_) (fun c7135 => ?_)
      · skip
        exact g_vret hk hR ⟨I7097, A7097, (show Md [] I I7097 from (Md.tr Md.rf hI7097 rfl)), (show Md [29] A A7097 from (Md.tr Md.rf hA7097 rfl)), hV7097, rfl, rfl⟩ dX1_coverFrom_39
      · skip
        refine g_iload_n hk dX1_coverFrom_7 rfl ?_
        refine g_iload_n hk dX1_coverFrom_8 rfl ?_
        have b7136l := Int32.le_toInt z1
        have b7136h := Int32.toInt_lt z1
        refine g_iadd hk dX1_coverFrom_9 ?_
        refine g_topi (fun y7137 ey7137 => ?_)
        refine g_istore (lv' := [(4, .int y7137), (3, .int x7093), (0, .ref (q 43)), (1, .int z1), (2, .int z2)]) hk dX1_coverFrom_10 (by decide) rfl ?_
        refine g_iload hk dX1_coverFrom_12 rfl ?_
        have b7138l := Int32.le_toInt y7137
        have b7138h := Int32.toInt_lt y7137
        refine g_if_lt (tgt := 33) (a := y7137.toInt) hk dX1_coverFrom_14 (by decide) rfl (fun c7139 => ?_) (fun c7139 => ?_)
        · skip
          obtain ⟨y7140, ey7140⟩ : ∃ y : Int32, y = x7093 + Int32.ofInt 1 := ⟨_, rfl⟩
          have hy7140 : y7140.toInt = x7093.toInt + 1 := i32_add ey7140 rfl (by decide) (by omega) (by omega)
          refine g_iinc (v := y7140) (lv' := [(3, .int y7140), (4, .int y7137), (0, .ref (q 43)), (1, .int z1), (2, .int z2)]) hk 1 dX1_coverFrom_33 rfl ey7140.symm (by decide) rfl ?_
          refine g_goto (tgt := 2) hk dX1_coverFrom_36 (by decide) ?_
          exact g_lv (List.forall_mem_cons.mpr ⟨List.mem_of_getElem? (i := 0) rfl, (List.forall_mem_cons.mpr ⟨List.mem_of_getElem? (i := 2) rfl, (List.forall_mem_cons.mpr ⟨List.mem_of_getElem? (i := 3) rfl, (List.forall_mem_cons.mpr ⟨List.mem_of_getElem? (i := 4) rfl, (fun _ h => absurd h List.not_mem_nil)⟩)⟩)⟩)⟩) (ih y7140 I7097 A7097 (show Md [] I I7097 from Md.tr hI7097 (show Md [] I7097 I7097 from Md.rf) rfl) (show Md [29] A A7097 from Md.tr hA7097 (show Md [29] A7097 A7097 from Md.rf) rfl) hV7097 (by omega) (by omega) (by omega))
        · skip
          refine g_iload hk dX1_coverFrom_17 rfl ?_
          refine g_sipush (v := 160) hk dX1_coverFrom_19 (by decide) ?_
          refine g_icmp_ge (tgt := 33) (a := y7137.toInt) (b := 160) hk dX1_coverFrom_22 (by decide) rfl rfl (fun c7141 => ?_) (fun c7141 => ?_)
          · skip
            obtain ⟨y7142, ey7142⟩ : ∃ y : Int32, y = x7093 + Int32.ofInt 1 := ⟨_, rfl⟩
            have hy7142 : y7142.toInt = x7093.toInt + 1 := i32_add ey7142 rfl (by decide) (by omega) (by omega)
            refine g_iinc (v := y7142) (lv' := [(3, .int y7142), (4, .int y7137), (0, .ref (q 43)), (1, .int z1), (2, .int z2)]) hk 1 dX1_coverFrom_33 rfl ey7142.symm (by decide) rfl ?_
            refine g_goto (tgt := 2) hk dX1_coverFrom_36 (by decide) ?_
            exact g_lv (List.forall_mem_cons.mpr ⟨List.mem_of_getElem? (i := 0) rfl, (List.forall_mem_cons.mpr ⟨List.mem_of_getElem? (i := 2) rfl, (List.forall_mem_cons.mpr ⟨List.mem_of_getElem? (i := 3) rfl, (List.forall_mem_cons.mpr ⟨List.mem_of_getElem? (i := 4) rfl, (fun _ h => absurd h List.not_mem_nil)⟩)⟩)⟩)⟩) (ih y7142 I7097 A7097 (show Md [] I I7097 from Md.tr hI7097 (show Md [] I7097 I7097 from Md.rf) rfl) (show Md [29] A A7097 from Md.tr hA7097 (show Md [29] A7097 A7097 from Md.rf) rfl) hV7097 (by omega) (by omega) (by omega))
          · skip
            refine g_aload_n hk dX1_coverFrom_25 rfl ?_
            refine gX_r43_10 hk hin1 (List.mem_cons_of_mem _ (List.mem_append_left _ (List.mem_of_getElem? (i := 0) rfl))) dX1_coverFrom_26 ?_
            refine g_iload hk dX1_coverFrom_29 rfl ?_
            refine g_iconst (v := 1) hk dX1_coverFrom_31 (by decide) ?_
            have k7143 : (1 : Int32).toInt = 1 := rfl
            refine sX_29 (y := (vp_nar .boolean 1)) (j := y7137.toNatClampNeg) hk (vp_in_iff.mpr ⟨by omega, by omega⟩) rfl rfl dX1_coverFrom_32 ?_
            obtain ⟨y7144, ey7144⟩ : ∃ y : Int32, y = x7093 + Int32.ofInt 1 := ⟨_, rfl⟩
            have hy7144 : y7144.toInt = x7093.toInt + 1 := i32_add ey7144 rfl (by decide) (by omega) (by omega)
            refine g_iinc (v := y7144) (lv' := [(3, .int y7144), (4, .int y7137), (0, .ref (q 43)), (1, .int z1), (2, .int z2)]) hk 1 dX1_coverFrom_33 rfl ey7144.symm (by decide) rfl ?_
            refine g_goto (tgt := 2) hk dX1_coverFrom_36 (by decide) ?_
            exact g_lv (List.forall_mem_cons.mpr ⟨List.mem_of_getElem? (i := 0) rfl, (List.forall_mem_cons.mpr ⟨List.mem_of_getElem? (i := 2) rfl, (List.forall_mem_cons.mpr ⟨List.mem_of_getElem? (i := 3) rfl, (List.forall_mem_cons.mpr ⟨List.mem_of_getElem? (i := 4) rfl, (fun _ h => absurd h List.not_mem_nil)⟩)⟩)⟩)⟩) (ih y7144 I7097 (up3 A7097 29 (y7137.toNatClampNeg) (vp_nar .boolean 1)) (show Md [] I I7097 from Md.tr hI7097 (show Md [] I7097 I7097 from Md.rf) rfl) (show Md [29] A (up3 A7097 29 (y7137.toNatClampNeg) (vp_nar .boolean 1)) from Md.tr hA7097 (show Md [29] A7097 (up3 A7097 29 (y7137.toNatClampNeg) (vp_nar .boolean 1)) from (Md.up3 Md.rf rfl)) rfl) ⟨(IvX_f0 (I := I7097) (A := A7097) hV7097), (IvX_f18 (I := I7097) (A := A7097) hV7097), (IvX_f30 (I := I7097) (A := A7097) hV7097), (IvX_f31 (I := I7097) (A := A7097) hV7097), (IvX_a4 (I := I7097) (A := A7097) hV7097), (IvX_a9 (I := I7097) (A := A7097) hV7097), trivial⟩ (by omega) (by omega) (by omega))
  have k7146 : (0 : Int32).toInt = 0 := rfl
  obtain ⟨n7145, n7145a, n7145b⟩ : ∃ n : Nat, z2.toInt + 1 - 0 < (n : Int) ∧ 0 < n := ⟨((z2.toInt + 1 - 0 : Int)).toNat + 1, by omega, by omega⟩
  exact lp7130 n7145 0 I A Md.rf Md.rf hIv (by omega) n7145a n7145b
def wo_k278_X1_placesWithin : List Cond := [Cond.fieldLink RX1 24 "WarpDesk$Finder" "covered" "[Z", Cond.fieldLink RX1 119 "WarpDesk$Finder" "matches" "I", Cond.methodLink RX1 133 yX1_matchDistance, Cond.instanceMethod yX1_matchDistance, Cond.selects RX1 yX1_matchDistance yX1_matchDistance, Cond.initialized RX1, Cond.methodLink RX1 136 yX1_matchWindow, Cond.instanceMethod yX1_matchWindow, Cond.selects RX1 yX1_matchWindow yX1_matchWindow, Cond.methodLink RX1 139 yX1_coverFrom, Cond.instanceMethod yX1_coverFrom, Cond.selects RX1 yX1_coverFrom yX1_coverFrom]
def wz_k278_X1_placesWithin : List Cond := .code yX1_placesWithin cX1_placesWithin 5 (some .int) :: (wo_k278_X1_placesWithin ++ (wsX10 ++ (wz_k273_X1_matchDistance ++ (wz_k274_X1_matchWindow ++ (wz_k279_X1_coverFrom ++ ([] : List Cond))))))
theorem zg_k278_X1_placesWithin : ∀ w ∈ wz_k278_X1_placesWithin, goodWord w = true := zg_cons rfl (zg_app (by decide +kernel) (zg_app zgU_wsX10 (zg_app zg_k273_X1_matchDistance (zg_app zg_k274_X1_matchWindow (zg_app zg_k279_X1_coverFrom zg_nil)))))
theorem zi_k278_X1_placesWithin : ∀ w ∈ wz_k278_X1_placesWithin, w ∈ lw_tbl := zi_cons zw_1188 (zi_app (zi_cons zw_415 (zi_cons zw_414 (zi_cons zw_1180 (zi_cons zw_1169 (zi_cons zw_1170 (zi_cons zw_113 (zi_cons zw_1189 (zi_cons zw_1165 (zi_cons zw_1166 (zi_cons zw_1190 (zi_cons zw_1192 (zi_cons zw_38 zi_nil)))))))))))) (zi_app inX1 (zi_app zi_k273_X1_matchDistance (zi_app zi_k274_X1_matchWindow (zi_app zi_k279_X1_coverFrom zi_nil)))))
set_option maxHeartbeats 4000000 in
set_option maxRecDepth 100000 in
theorem k278_X1_placesWithin (l : Launch) (D : va_G) (zt : Nat × Nat × Nat × (Nat → Nat) × (Nat → Nat)) (q : Nat → Nat) (d : Nat → ClassId) (I : Nat → Int32) (A : Nat → Nat → Int32) (z1 : Int32) (z2 : Int32) (hIv : IvX I A) : GM l D zt (tyX d) yX1_placesWithin wz_k278_X1_placesWithin ({ frames := 1, cells := 0, slots := 0, locals := 24 } : Room) [.ref (q 43), .int z1, .int z2] (wX q d I A) (fun v _ w' => ∃ (I' : Nat → Int32) (A' : Nat → Nat → Int32), Md [] I I' ∧ Md [29] A A' ∧ IvX I' A' ∧ ∃ y0 : Int32, v = some (.int y0) ∧ w' = wX q d I' A') 0 0 := by
  refine GM.of (cc := cX1_placesWithin) (maxL := 5) (ret := (some .int)) (own := RX1) (lv := [(0, .ref (q 43)), (1, .int z1), (2, .int z2)]) (by decide) rfl rfl (Nat.le_of_ble_eq_true rfl) rfl (fun κ sz hk hR hN => ?_)
  have hin1 : ∀ w ∈ u_ws RX1 TX1 11, w ∈ wz_k278_X1_placesWithin := fun w h => (List.mem_cons_of_mem _ (List.mem_append_right _ (List.mem_append_left _ h)))
  refine g_iconst (v := 0) hk dX1_placesWithin_0 (by decide) ?_
  refine g_istore_n (lv' := [(3, .int 0), (0, .ref (q 43)), (1, .int z1), (2, .int z2)]) hk dX1_placesWithin_1 (by decide) rfl ?_
  have lp7603 : ∀ (n7604 : Nat) (x7020 : Int32) (I7024 : Nat → Int32) (A7024 : Nat → Nat → Int32), (Md [] I I7024) → (Md [29] A A7024) → (IvX I7024 A7024) → (0 ≤ x7020.toInt) → (x7020.toInt ≤ 160) → (161 - x7020.toInt < (n7604 : Int)) → (0 < n7604) → GW κ 5 0 0 (wX q d I7024 A7024) 2 [(3, .int x7020), (0, .ref (q 43)), (1, .int z1), (2, .int z2)] [] := by
    intro n7604
    induction n7604 with
    | zero =>
      intro x7020 I7024 A7024 hI7024 hA7024 hV7024 h7601 h7602 m7605 m7605z
      exact absurd m7605z (Nat.lt_irrefl 0)
    | succ n7604 ih =>
      intro x7020 I7024 A7024 hI7024 hA7024 hV7024 h7601 h7602 m7605 m7605z
      refine g_iload_n hk dX1_placesWithin_2 rfl ?_
      refine g_sipush (v := 160) hk dX1_placesWithin_3 (by decide) ?_
      refine g_icmp_ge (tgt := 22) (a := x7020.toInt) (b := 160) hk dX1_placesWithin_6 (by decide) rfl rfl (fun c7606 => ?_) (fun c7606 => ?_)
      · skip
        refine g_iconst (v := 0) hk dX1_placesWithin_22 (by decide) ?_
        refine g_istore_n (lv' := [(3, .int 0), (0, .ref (q 43)), (1, .int z1), (2, .int z2)]) hk dX1_placesWithin_23 (by decide) rfl ?_
        have lp7796 : ∀ (n7797 : Nat) (x7607 : Int32) (I7611 : Nat → Int32) (A7611 : Nat → Nat → Int32), (Md [] I7024 I7611) → (Md [29] A7024 A7611) → (IvX I7611 A7611) → (0 ≤ x7607.toInt) → ((I 37).toInt + 1 - x7607.toInt < (n7797 : Int)) → (0 < n7797) → GW κ 5 0 0 (wX q d I7611 A7611) 24 [(3, .int x7607), (0, .ref (q 43)), (1, .int z1), (2, .int z2)] [] := by
          intro n7797
          induction n7797 with
          | zero =>
            intro x7607 I7611 A7611 hI7611 hA7611 hV7611 h7795 m7798 m7798z
            exact absurd m7798z (Nat.lt_irrefl 0)
          | succ n7797 ih =>
            intro x7607 I7611 A7611 hI7611 hA7611 hV7611 h7795 m7798 m7798z
            refine g_iload_n hk dX1_placesWithin_24 rfl ?_
            refine g_aload_n hk dX1_placesWithin_25 rfl ?_
            refine gX_i37 (v := (I 37)) hk hin1 (List.mem_cons_of_mem _ (List.mem_append_left _ (List.mem_of_getElem? (i := 1) rfl))) dX1_placesWithin_26 ((hI7611 37 rfl).trans (hI7024 37 rfl)) ?_
            have b7799l := Int32.le_toInt x7607
            have b7799h := Int32.toInt_lt x7607
            have b7800l := Int32.le_toInt (I 37)
            have b7800h := Int32.toInt_lt (I 37)
            refine g_icmp_ge (tgt := 57) (a := x7607.toInt) (b := (I 37).toInt) hk dX1_placesWithin_29 (by decide) rfl rfl (fun c7801 => ?_) (fun c7801 => ?_)
            · skip
              refine g_iconst (v := 0) hk dX1_placesWithin_57 (by decide) ?_
              refine g_istore_n (lv' := [(3, .int 0), (0, .ref (q 43)), (1, .int z1), (2, .int z2)]) hk dX1_placesWithin_58 (by decide) rfl ?_
              refine g_iconst (v := 0) hk dX1_placesWithin_59 (by decide) ?_
              refine g_istore (lv' := [(4, .int 0), (3, .int 0), (0, .ref (q 43)), (1, .int z1), (2, .int z2)]) hk dX1_placesWithin_60 (by decide) rfl ?_
              have lp7840 : ∀ (n7841 : Nat) (x7802 : Int32) (x7803 : Int32), (0 ≤ x7802.toInt) → (x7802.toInt ≤ 160) → (161 - x7802.toInt < (n7841 : Int)) → (0 < n7841) → GW κ 5 0 0 (wX q d I7611 A7611) 62 [(4, .int x7802), (3, .int x7803), (0, .ref (q 43)), (1, .int z1), (2, .int z2)] [] := by
                intro n7841
                induction n7841 with
                | zero =>
                  intro x7802 x7803 h7838 h7839 m7842 m7842z
                  exact absurd m7842z (Nat.lt_irrefl 0)
                | succ n7841 ih =>
                  intro x7802 x7803 h7838 h7839 m7842 m7842z
                  refine g_iload hk dX1_placesWithin_62 rfl ?_
                  refine g_sipush (v := 160) hk dX1_placesWithin_64 (by decide) ?_
                  refine g_icmp_ge (tgt := 89) (a := x7802.toInt) (b := 160) hk dX1_placesWithin_67 (by decide) rfl rfl (fun c7843 => ?_) (fun c7843 => ?_)
                  · skip
                    refine g_iload_n hk dX1_placesWithin_89 rfl ?_
                    have b7844l := Int32.le_toInt x7803
                    have b7844h := Int32.toInt_lt x7803
                    exact g_iret hk hR rfl ⟨I7611, A7611, (show Md [] I I7611 from (Md.tr (Md.tr Md.rf hI7024 rfl) hI7611 rfl)), (show Md [29] A A7611 from (Md.tr (Md.tr Md.rf hA7024 rfl) hA7611 rfl)), hV7611, x7803, rfl, rfl⟩ dX1_placesWithin_90
                  · skip
                    refine g_aload_n hk dX1_placesWithin_70 rfl ?_
                    refine gX_r43_10 hk hin1 (List.mem_cons_of_mem _ (List.mem_append_left _ (List.mem_of_getElem? (i := 0) rfl))) dX1_placesWithin_71 ?_
                    refine g_iload hk dX1_placesWithin_74 rfl ?_
                    refine lX_29 (v := (A7611 29 x7802.toNatClampNeg)) hk (vp_in_iff.mpr ⟨by omega, by omega⟩) rfl dX1_placesWithin_76 ?_
                    have b7845l := Int32.le_toInt (A7611 29 x7802.toNatClampNeg)
                    have b7845h := Int32.toInt_lt (A7611 29 x7802.toNatClampNeg)
                    refine g_if_eq (tgt := 83) (a := (A7611 29 x7802.toNatClampNeg).toInt) hk dX1_placesWithin_77 (by decide) rfl (fun c7846 => ?_) (fun c7846 => ?_)
                    · skip
                      obtain ⟨y7847, ey7847⟩ : ∃ y : Int32, y = x7802 + Int32.ofInt 1 := ⟨_, rfl⟩
                      have hy7847 : y7847.toInt = x7802.toInt + 1 := i32_add ey7847 rfl (by decide) (by omega) (by omega)
                      refine g_iinc (v := y7847) (lv' := [(4, .int y7847), (3, .int x7803), (0, .ref (q 43)), (1, .int z1), (2, .int z2)]) hk 0 dX1_placesWithin_83 rfl ey7847.symm (by decide) rfl ?_
                      refine g_goto (tgt := 62) hk dX1_placesWithin_86 (by decide) ?_
                      exact g_lv (List.forall_mem_cons.mpr ⟨List.mem_of_getElem? (i := 0) rfl, (List.forall_mem_cons.mpr ⟨List.mem_of_getElem? (i := 1) rfl, (List.forall_mem_cons.mpr ⟨List.mem_of_getElem? (i := 2) rfl, (List.forall_mem_cons.mpr ⟨List.mem_of_getElem? (i := 3) rfl, (List.forall_mem_cons.mpr ⟨List.mem_of_getElem? (i := 4) rfl, (fun _ h => absurd h List.not_mem_nil)⟩)⟩)⟩)⟩)⟩) (ih y7847 x7803 (by omega) (by omega) (by omega) (by omega))
                    · skip
                      have b7848l := Int32.le_toInt x7803
                      have b7848h := Int32.toInt_lt x7803
                      obtain ⟨y7849, ey7849⟩ : ∃ y : Int32, y = x7803 + Int32.ofInt 1 := ⟨_, rfl⟩
                      refine g_iinc (v := y7849) (lv' := [(3, .int y7849), (4, .int x7802), (0, .ref (q 43)), (1, .int z1), (2, .int z2)]) hk 1 dX1_placesWithin_80 rfl ey7849.symm (by decide) rfl ?_
                      obtain ⟨y7850, ey7850⟩ : ∃ y : Int32, y = x7802 + Int32.ofInt 1 := ⟨_, rfl⟩
                      have hy7850 : y7850.toInt = x7802.toInt + 1 := i32_add ey7850 rfl (by decide) (by omega) (by omega)
                      refine g_iinc (v := y7850) (lv' := [(4, .int y7850), (3, .int y7849), (0, .ref (q 43)), (1, .int z1), (2, .int z2)]) hk 1 dX1_placesWithin_83 rfl ey7850.symm (by decide) rfl ?_
                      refine g_goto (tgt := 62) hk dX1_placesWithin_86 (by decide) ?_
                      exact g_lv (List.forall_mem_cons.mpr ⟨List.mem_of_getElem? (i := 0) rfl, (List.forall_mem_cons.mpr ⟨List.mem_of_getElem? (i := 1) rfl, (List.forall_mem_cons.mpr ⟨List.mem_of_getElem? (i := 2) rfl, (List.forall_mem_cons.mpr ⟨List.mem_of_getElem? (i := 3) rfl, (List.forall_mem_cons.mpr ⟨List.mem_of_getElem? (i := 4) rfl, (fun _ h => absurd h List.not_mem_nil)⟩)⟩)⟩)⟩)⟩) (ih y7850 y7849 (by omega) (by omega) (by omega) (by omega))
              have k7852 : (0 : Int32).toInt = 0 := rfl
              obtain ⟨n7851, n7851a, n7851b⟩ : ∃ n : Nat, 161 - 0 < (n : Int) ∧ 0 < n := ⟨((161 - 0 : Int)).toNat + 1, by omega, by omega⟩
              exact lp7840 n7851 0 0 (by omega) (by omega) n7851a n7851b
            · skip
              refine g_aload_n hk dX1_placesWithin_32 rfl ?_
              refine g_iload_n hk dX1_placesWithin_33 rfl ?_
              refine g_callV (n := 1) hk (k273_X1_matchDistance l D zt q d I7611 A7611 x7607 hV7611) (SP.same _) (fun _ h => h) (gi_V (List.mem_cons_of_mem _ (List.mem_append_left _ (List.mem_of_getElem? (i := 2) rfl))) (List.mem_cons_of_mem _ (List.mem_append_left _ (List.mem_of_getElem? (i := 3) rfl))) (List.mem_cons_of_mem _ (List.mem_append_left _ (List.mem_of_getElem? (i := 4) rfl))) (List.mem_cons_of_mem _ (List.mem_append_left _ (List.mem_of_getElem? (i := 5) rfl))) (gi_sub (fun w h => (List.mem_cons_of_mem _ (List.mem_append_right _ (List.mem_append_right _ (List.mem_append_left _ h))))) zg_k273_X1_matchDistance)) rfl rfl rfl (by decide +kernel) ⟨Nat.le_of_ble_eq_true rfl, Nat.le_of_ble_eq_true rfl⟩ 43 rfl rfl rfl rfl (Nat.le_of_ble_eq_true rfl) ⟨Nat.le_of_ble_eq_true rfl, Nat.le_of_ble_eq_true rfl⟩ dX1_placesWithin_34 (fun v ty' w' hp hk' => ?_)
              obtain ⟨y7853, rfl, rfl⟩ := hp
              show GW κ 5 0 0 (wX q d I7611 A7611) 37 [(3, .int x7607), (0, .ref (q 43)), (1, .int z1), (2, .int z2)] [.int y7853]
              refine g_iload_n hk dX1_placesWithin_37 rfl ?_
              have b7854l := Int32.le_toInt y7853
              have b7854h := Int32.toInt_lt y7853
              have b7855l := Int32.le_toInt z1
              have b7855h := Int32.toInt_lt z1
              refine g_icmp_gt (tgt := 51) (a := y7853.toInt) (b := z1.toInt) hk dX1_placesWithin_38 (by decide) rfl rfl (fun c7856 => ?_) (fun c7856 => ?_)
              · skip
                obtain ⟨y7857, ey7857⟩ : ∃ y : Int32, y = x7607 + Int32.ofInt 1 := ⟨_, rfl⟩
                have hy7857 : y7857.toInt = x7607.toInt + 1 := i32_add ey7857 rfl (by decide) (by omega) (by omega)
                refine g_iinc (v := y7857) (lv' := [(3, .int y7857), (0, .ref (q 43)), (1, .int z1), (2, .int z2)]) hk 0 dX1_placesWithin_51 rfl ey7857.symm (by decide) rfl ?_
                refine g_goto (tgt := 24) hk dX1_placesWithin_54 (by decide) ?_
                exact g_lv (List.forall_mem_cons.mpr ⟨List.mem_of_getElem? (i := 0) rfl, (List.forall_mem_cons.mpr ⟨List.mem_of_getElem? (i := 1) rfl, (List.forall_mem_cons.mpr ⟨List.mem_of_getElem? (i := 2) rfl, (List.forall_mem_cons.mpr ⟨List.mem_of_getElem? (i := 3) rfl, (fun _ h => absurd h List.not_mem_nil)⟩)⟩)⟩)⟩) (ih y7857 I7611 A7611 (show Md [] I7024 I7611 from Md.tr hI7611 (show Md [] I7611 I7611 from Md.rf) rfl) (show Md [29] A7024 A7611 from Md.tr hA7611 (show Md [29] A7611 A7611 from Md.rf) rfl) hV7611 (by omega) (by omega) (by omega))
              · skip
                refine g_aload_n hk dX1_placesWithin_41 rfl ?_
                refine g_aload_n hk dX1_placesWithin_42 rfl ?_
                refine g_iload_n hk dX1_placesWithin_43 rfl ?_
                refine g_callV (n := 1) hk (k274_X1_matchWindow l D zt q d I7611 A7611 x7607 hV7611) (SP.same _) (fun _ h => h) (gi_V (List.mem_cons_of_mem _ (List.mem_append_left _ (List.mem_of_getElem? (i := 6) rfl))) (List.mem_cons_of_mem _ (List.mem_append_left _ (List.mem_of_getElem? (i := 7) rfl))) (List.mem_cons_of_mem _ (List.mem_append_left _ (List.mem_of_getElem? (i := 8) rfl))) (List.mem_cons_of_mem _ (List.mem_append_left _ (List.mem_of_getElem? (i := 5) rfl))) (gi_sub (fun w h => (List.mem_cons_of_mem _ (List.mem_append_right _ (List.mem_append_right _ (List.mem_append_right _ (List.mem_append_left _ h)))))) zg_k274_X1_matchWindow)) rfl rfl rfl (by decide +kernel) ⟨Nat.le_of_ble_eq_true rfl, Nat.le_of_ble_eq_true rfl⟩ 43 rfl rfl rfl rfl (Nat.le_of_ble_eq_true rfl) ⟨Nat.le_of_ble_eq_true rfl, Nat.le_of_ble_eq_true rfl⟩ dX1_placesWithin_44 (fun v ty' w' hp hk' => ?_)
                obtain ⟨y7858, rfl, rfl⟩ := hp
                show GW κ 5 0 0 (wX q d I7611 A7611) 47 [(3, .int x7607), (0, .ref (q 43)), (1, .int z1), (2, .int z2)] [.int y7858, .ref (q 43)]
                refine g_iload_n hk dX1_placesWithin_47 rfl ?_
                refine g_callV (n := 2) hk (k279_X1_coverFrom l D zt q d I7611 A7611 y7858 z2 hV7611) (SP.same _) (fun _ h => h) (gi_V (List.mem_cons_of_mem _ (List.mem_append_left _ (List.mem_of_getElem? (i := 9) rfl))) (List.mem_cons_of_mem _ (List.mem_append_left _ (List.mem_of_getElem? (i := 10) rfl))) (List.mem_cons_of_mem _ (List.mem_append_left _ (List.mem_of_getElem? (i := 11) rfl))) (List.mem_cons_of_mem _ (List.mem_append_left _ (List.mem_of_getElem? (i := 5) rfl))) (gi_sub (fun w h => (List.mem_cons_of_mem _ (List.mem_append_right _ (List.mem_append_right _ (List.mem_append_right _ (List.mem_append_right _ (List.mem_append_left _ h))))))) zg_k279_X1_coverFrom)) rfl rfl rfl (by decide +kernel) ⟨Nat.le_of_ble_eq_true rfl, Nat.le_of_ble_eq_true rfl⟩ 43 rfl rfl rfl rfl (Nat.le_of_ble_eq_true rfl) ⟨Nat.le_of_ble_eq_true rfl, Nat.le_of_ble_eq_true rfl⟩ dX1_placesWithin_48 (fun v ty' w' hp hk' => ?_)
                obtain ⟨I7860, A7860, hI7860, hA7860, hV7860, rfl, rfl⟩ := hp
                show GW κ 5 0 0 (wX q d I7860 A7860) 51 [(3, .int x7607), (0, .ref (q 43)), (1, .int z1), (2, .int z2)] []
                obtain ⟨y7861, ey7861⟩ : ∃ y : Int32, y = x7607 + Int32.ofInt 1 := ⟨_, rfl⟩
                have hy7861 : y7861.toInt = x7607.toInt + 1 := i32_add ey7861 rfl (by decide) (by omega) (by omega)
                refine g_iinc (v := y7861) (lv' := [(3, .int y7861), (0, .ref (q 43)), (1, .int z1), (2, .int z2)]) hk 0 dX1_placesWithin_51 rfl ey7861.symm (by decide) rfl ?_
                refine g_goto (tgt := 24) hk dX1_placesWithin_54 (by decide) ?_
                exact g_lv (List.forall_mem_cons.mpr ⟨List.mem_of_getElem? (i := 0) rfl, (List.forall_mem_cons.mpr ⟨List.mem_of_getElem? (i := 1) rfl, (List.forall_mem_cons.mpr ⟨List.mem_of_getElem? (i := 2) rfl, (List.forall_mem_cons.mpr ⟨List.mem_of_getElem? (i := 3) rfl, (fun _ h => absurd h List.not_mem_nil)⟩)⟩)⟩)⟩) (ih y7861 I7860 A7860 (show Md [] I7024 I7860 from Md.tr hI7611 (show Md [] I7611 I7860 from (Md.tr Md.rf hI7860 rfl)) rfl) (show Md [29] A7024 A7860 from Md.tr hA7611 (show Md [29] A7611 A7860 from (Md.tr Md.rf hA7860 rfl)) rfl) hV7860 (by omega) (by omega) (by omega))
        have k7863 : (0 : Int32).toInt = 0 := rfl
        obtain ⟨n7862, n7862a, n7862b⟩ : ∃ n : Nat, (I 37).toInt + 1 - 0 < (n : Int) ∧ 0 < n := ⟨(((I 37).toInt + 1 - 0 : Int)).toNat + 1, by omega, by omega⟩
        exact lp7796 n7862 0 I7024 A7024 Md.rf Md.rf hV7024 (by omega) n7862a n7862b
      · skip
        refine g_aload_n hk dX1_placesWithin_9 rfl ?_
        refine gX_r43_10 hk hin1 (List.mem_cons_of_mem _ (List.mem_append_left _ (List.mem_of_getElem? (i := 0) rfl))) dX1_placesWithin_10 ?_
        refine g_iload_n hk dX1_placesWithin_13 rfl ?_
        refine g_iconst (v := 0) hk dX1_placesWithin_14 (by decide) ?_
        have k7864 : (0 : Int32).toInt = 0 := rfl
        refine sX_29 (y := (vp_nar .boolean 0)) (j := x7020.toNatClampNeg) hk (vp_in_iff.mpr ⟨by omega, by omega⟩) rfl rfl dX1_placesWithin_15 ?_
        obtain ⟨y7865, ey7865⟩ : ∃ y : Int32, y = x7020 + Int32.ofInt 1 := ⟨_, rfl⟩
        have hy7865 : y7865.toInt = x7020.toInt + 1 := i32_add ey7865 rfl (by decide) (by omega) (by omega)
        refine g_iinc (v := y7865) (lv' := [(3, .int y7865), (0, .ref (q 43)), (1, .int z1), (2, .int z2)]) hk 0 dX1_placesWithin_16 rfl ey7865.symm (by decide) rfl ?_
        refine g_goto (tgt := 2) hk dX1_placesWithin_19 (by decide) ?_
        exact g_lv (List.forall_mem_cons.mpr ⟨List.mem_of_getElem? (i := 0) rfl, (List.forall_mem_cons.mpr ⟨List.mem_of_getElem? (i := 1) rfl, (List.forall_mem_cons.mpr ⟨List.mem_of_getElem? (i := 2) rfl, (List.forall_mem_cons.mpr ⟨List.mem_of_getElem? (i := 3) rfl, (fun _ h => absurd h List.not_mem_nil)⟩)⟩)⟩)⟩) (ih y7865 I7024 (up3 A7024 29 (x7020.toNatClampNeg) (vp_nar .boolean 0)) (show Md [] I I7024 from Md.tr hI7024 (show Md [] I7024 I7024 from Md.rf) rfl) (show Md [29] A (up3 A7024 29 (x7020.toNatClampNeg) (vp_nar .boolean 0)) from Md.tr hA7024 (show Md [29] A7024 (up3 A7024 29 (x7020.toNatClampNeg) (vp_nar .boolean 0)) from (Md.up3 Md.rf rfl)) rfl) ⟨(IvX_f0 (I := I7024) (A := A7024) hV7024), (IvX_f18 (I := I7024) (A := A7024) hV7024), (IvX_f30 (I := I7024) (A := A7024) hV7024), (IvX_f31 (I := I7024) (A := A7024) hV7024), (IvX_a4 (I := I7024) (A := A7024) hV7024), (IvX_a9 (I := I7024) (A := A7024) hV7024), trivial⟩ (by omega) (by omega) (by omega) (by omega))
  have k7867 : (0 : Int32).toInt = 0 := rfl
  obtain ⟨n7866, n7866a, n7866b⟩ : ∃ n : Nat, 161 - 0 < (n : Int) ∧ 0 < n := ⟨((161 - 0 : Int)).toNat + 1, by omega, by omega⟩
  exact lp7603 n7866 0 I A Md.rf Md.rf hIv (by omega) (by omega) n7866a n7866b
def wo_k277_X11_cover : List Cond := [Cond.fieldLink RX11 35 "WarpDesk" "queries" "LWarpDesk$Queries;", Cond.methodLink RX11 251 yX4_has, Cond.instanceMethod yX4_has, Cond.selects RX4 yX4_has yX4_has, Cond.initialized RX4, Cond.fieldLink RX11 74 "WarpDesk" "finder" "LWarpDesk$Finder;", Cond.methodLink RX11 284 yX1_findMatches, Cond.instanceMethod yX1_findMatches, Cond.selects RX1 yX1_findMatches yX1_findMatches, Cond.initialized RX1, Cond.methodLink RX11 254 yX4_lengthOf, Cond.instanceMethod yX4_lengthOf, Cond.selects RX4 yX4_lengthOf yX4_lengthOf, Cond.methodLink RX11 296 yX1_placesWithin, Cond.instanceMethod yX1_placesWithin, Cond.selects RX1 yX1_placesWithin yX1_placesWithin]
def wz_k277_X11_cover : List Cond := .code yX11_cover cX11_cover 3 (some .int) :: (wo_k277_X11_cover ++ (wsX110 ++ (wz_k168_X4_has ++ (wz_k269_X1_findMatches ++ (wz_k182_X4_lengthOf ++ (wz_k278_X1_placesWithin ++ ([] : List Cond)))))))
theorem zg_k277_X11_cover : ∀ w ∈ wz_k277_X11_cover, goodWord w = true := zg_cons rfl (zg_app (by decide +kernel) (zg_app zgU_wsX110 (zg_app zg_k168_X4_has (zg_app zg_k269_X1_findMatches (zg_app zg_k182_X4_lengthOf (zg_app zg_k278_X1_placesWithin zg_nil))))))
theorem zi_k277_X11_cover : ∀ w ∈ wz_k277_X11_cover, w ∈ lw_tbl := zi_cons zw_1184 (zi_app (zi_cons zw_490 (zi_cons zw_1086 (zi_cons zw_747 (zi_cons zw_748 (zi_cons zw_108 (zi_cons zw_495 (zi_cons zw_1147 (zi_cons zw_1148 (zi_cons zw_1149 (zi_cons zw_113 (zi_cons zw_1087 (zi_cons zw_757 (zi_cons zw_758 (zi_cons zw_1185 (zi_cons zw_1186 (zi_cons zw_1187 zi_nil)))))))))))))))) (zi_app inX11 (zi_app zi_k168_X4_has (zi_app zi_k269_X1_findMatches (zi_app zi_k182_X4_lengthOf (zi_app zi_k278_X1_placesWithin zi_nil))))))
set_option maxHeartbeats 4000000 in
set_option maxRecDepth 100000 in
theorem k277_X11_cover (l : Launch) (D : va_G) (zt : Nat × Nat × Nat × (Nat → Nat) × (Nat → Nat)) (q : Nat → Nat) (d : Nat → ClassId) (I : Nat → Int32) (A : Nat → Nat → Int32) (z1 : Int32) (z2 : Int32) (hIv : IvX I A) : GM l D zt (tyX d) yX11_cover wz_k277_X11_cover ({ frames := 7, cells := 0, slots := 0, locals := 154 } : Room) [.ref (q 0), .int z1, .int z2] (wX q d I A) (fun v _ w' => ∃ (I' : Nat → Int32) (A' : Nat → Nat → Int32), Md [28, 30, 31, 32, 33, 34, 37] I I' ∧ Md [21, 22, 23, 26, 27, 28, 29] A A' ∧ IvX I' A' ∧ ∃ y0 : Int32, v = some (.int y0) ∧ w' = wX q d I' A') 0 0 := by
  refine GM.of (cc := cX11_cover) (maxL := 3) (ret := (some .int)) (own := RX11) (lv := [(0, .ref (q 0)), (1, .int z1), (2, .int z2)]) (by decide) rfl rfl (Nat.le_of_ble_eq_true rfl) rfl (fun κ sz hk hR hN => ?_)
  have hin11 : ∀ w ∈ u_ws RX11 TX11 10, w ∈ wz_k277_X11_cover := fun w h => (List.mem_cons_of_mem _ (List.mem_append_right _ (List.mem_append_left _ h)))
  refine g_iload_n hk dX11_cover_0 rfl ?_
  have b7000l := Int32.le_toInt z2
  have b7000h := Int32.toInt_lt z2
  refine g_if_lt (tgt := 15) (a := z2.toInt) hk dX11_cover_1 (by decide) rfl (fun c7001 => ?_) (fun c7001 => ?_)
  · skip
    refine g_iconst (v := (-1)) hk dX11_cover_15 (by decide) ?_
    exact g_iret hk hR rfl ⟨I, A, (show Md [28, 30, 31, 32, 33, 34, 37] I I from Md.rf), (show Md [21, 22, 23, 26, 27, 28, 29] A A from Md.rf), hIv, (-1), rfl, rfl⟩ dX11_cover_16
  · skip
    refine g_aload_n hk dX11_cover_4 rfl ?_
    refine gX_r0_3 hk hin11 (List.mem_cons_of_mem _ (List.mem_append_left _ (List.mem_of_getElem? (i := 0) rfl))) dX11_cover_5 ?_
    refine g_iload_n hk dX11_cover_8 rfl ?_
    refine g_callV (n := 1) hk (k168_X4_has l D zt q d I A z1 hIv) (SP.same _) (fun _ h => h) (gi_V (List.mem_cons_of_mem _ (List.mem_append_left _ (List.mem_of_getElem? (i := 1) rfl))) (List.mem_cons_of_mem _ (List.mem_append_left _ (List.mem_of_getElem? (i := 2) rfl))) (List.mem_cons_of_mem _ (List.mem_append_left _ (List.mem_of_getElem? (i := 3) rfl))) (List.mem_cons_of_mem _ (List.mem_append_left _ (List.mem_of_getElem? (i := 4) rfl))) (gi_sub (fun w h => (List.mem_cons_of_mem _ (List.mem_append_right _ (List.mem_append_right _ (List.mem_append_left _ h))))) zg_k168_X4_has)) rfl rfl rfl (by decide +kernel) ⟨Nat.le_of_ble_eq_true rfl, Nat.le_of_ble_eq_true rfl⟩ 15 rfl rfl rfl rfl (Nat.le_of_ble_eq_true rfl) ⟨Nat.le_of_ble_eq_true rfl, Nat.le_of_ble_eq_true rfl⟩ dX11_cover_9 (fun v ty' w' hp hk' => ?_)
    rcases hp with ⟨rfl, rfl⟩ | ⟨c7003, c7004, c7005, c7006, rfl, rfl⟩
    · skip
      show GW κ 3 0 0 (wX q d I A) 12 [(0, .ref (q 0)), (1, .int z1), (2, .int z2)] [.int 0]
      refine g_if_ne (tgt := 17) (a := 0) hk dX11_cover_12 (by decide) rfl (fun z9 => absurd z9 (show ¬ ((0 : Int) ≠ (0 : Int)) from by decide)) (fun _ => ?_)
      refine g_iconst (v := (-1)) hk dX11_cover_15 (by decide) ?_
      exact g_iret hk hR rfl ⟨I, A, (show Md [28, 30, 31, 32, 33, 34, 37] I I from Md.rf), (show Md [21, 22, 23, 26, 27, 28, 29] A A from Md.rf), hIv, (-1), rfl, rfl⟩ dX11_cover_16
    · skip
      show GW κ 3 0 0 (wX q d I A) 12 [(0, .ref (q 0)), (1, .int z1), (2, .int z2)] [.int 1]
      refine g_if_ne (tgt := 17) (a := 1) hk dX11_cover_12 (by decide) rfl (fun _ => ?_) (fun z9 => absurd (show (1 : Int) ≠ (0 : Int) from by decide) z9)
      refine g_aload_n hk dX11_cover_17 rfl ?_
      refine gX_r0_8 hk hin11 (List.mem_cons_of_mem _ (List.mem_append_left _ (List.mem_of_getElem? (i := 5) rfl))) dX11_cover_18 ?_
      refine g_iload_n hk dX11_cover_21 rfl ?_
      refine g_callV (n := 1) hk (k269_X1_findMatches l D zt q d I A z1 hIv) (SP.same _) (fun _ h => h) (gi_V (List.mem_cons_of_mem _ (List.mem_append_left _ (List.mem_of_getElem? (i := 6) rfl))) (List.mem_cons_of_mem _ (List.mem_append_left _ (List.mem_of_getElem? (i := 7) rfl))) (List.mem_cons_of_mem _ (List.mem_append_left _ (List.mem_of_getElem? (i := 8) rfl))) (List.mem_cons_of_mem _ (List.mem_append_left _ (List.mem_of_getElem? (i := 9) rfl))) (gi_sub (fun w h => (List.mem_cons_of_mem _ (List.mem_append_right _ (List.mem_append_right _ (List.mem_append_right _ (List.mem_append_left _ h)))))) zg_k269_X1_findMatches)) rfl rfl rfl (by decide +kernel) ⟨Nat.le_of_ble_eq_true rfl, Nat.le_of_ble_eq_true rfl⟩ 43 rfl rfl rfl rfl (Nat.le_of_ble_eq_true rfl) ⟨Nat.le_of_ble_eq_true rfl, Nat.le_of_ble_eq_true rfl⟩ dX11_cover_22 (fun v ty' w' hp hk' => ?_)
      obtain ⟨I7009, A7009, hI7009, hA7009, hV7009, rfl, rfl⟩ := hp
      show GW κ 3 0 0 (wX q d I7009 A7009) 25 [(0, .ref (q 0)), (1, .int z1), (2, .int z2)] []
      refine g_aload_n hk dX11_cover_25 rfl ?_
      refine gX_r0_8 hk hin11 (List.mem_cons_of_mem _ (List.mem_append_left _ (List.mem_of_getElem? (i := 5) rfl))) dX11_cover_26 ?_
      refine g_iload_n hk dX11_cover_29 rfl ?_
      refine g_aload_n hk dX11_cover_30 rfl ?_
      refine gX_r0_3 hk hin11 (List.mem_cons_of_mem _ (List.mem_append_left _ (List.mem_of_getElem? (i := 0) rfl))) dX11_cover_31 ?_
      refine g_iload_n hk dX11_cover_34 rfl ?_
      refine g_callV (n := 1) hk (k182_X4_lengthOf l D zt q d I7009 A7009 z1 hV7009) (SP.same _) (fun _ h => h) (gi_V (List.mem_cons_of_mem _ (List.mem_append_left _ (List.mem_of_getElem? (i := 10) rfl))) (List.mem_cons_of_mem _ (List.mem_append_left _ (List.mem_of_getElem? (i := 11) rfl))) (List.mem_cons_of_mem _ (List.mem_append_left _ (List.mem_of_getElem? (i := 12) rfl))) (List.mem_cons_of_mem _ (List.mem_append_left _ (List.mem_of_getElem? (i := 4) rfl))) (gi_sub (fun w h => (List.mem_cons_of_mem _ (List.mem_append_right _ (List.mem_append_right _ (List.mem_append_right _ (List.mem_append_right _ (List.mem_append_left _ h))))))) zg_k182_X4_lengthOf)) rfl rfl rfl (by decide +kernel) ⟨Nat.le_of_ble_eq_true rfl, Nat.le_of_ble_eq_true rfl⟩ 15 rfl rfl rfl rfl (Nat.le_of_ble_eq_true rfl) ⟨Nat.le_of_ble_eq_true rfl, Nat.le_of_ble_eq_true rfl⟩ dX11_cover_35 (fun v ty' w' hp hk' => ?_)
      rcases hp with ⟨rfl, rfl⟩ | ⟨y7017, c7011, c7012, c7013, c7014, c7015, c7016, c7018, c7019, rfl, rfl⟩
      · skip
        show GW κ 3 0 0 (wX q d I7009 A7009) 38 [(0, .ref (q 0)), (1, .int z1), (2, .int z2)] [.int 0, .int z2, .ref (q 43)]
        have k7868 : (0 : Int32).toInt = 0 := rfl
        refine g_callV (n := 2) hk (k278_X1_placesWithin l D zt q d I7009 A7009 z2 0 hV7009) (SP.same _) (fun _ h => h) (gi_V (List.mem_cons_of_mem _ (List.mem_append_left _ (List.mem_of_getElem? (i := 13) rfl))) (List.mem_cons_of_mem _ (List.mem_append_left _ (List.mem_of_getElem? (i := 14) rfl))) (List.mem_cons_of_mem _ (List.mem_append_left _ (List.mem_of_getElem? (i := 15) rfl))) (List.mem_cons_of_mem _ (List.mem_append_left _ (List.mem_of_getElem? (i := 9) rfl))) (gi_sub (fun w h => (List.mem_cons_of_mem _ (List.mem_append_right _ (List.mem_append_right _ (List.mem_append_right _ (List.mem_append_right _ (List.mem_append_right _ (List.mem_append_left _ h)))))))) zg_k278_X1_placesWithin)) rfl rfl rfl (by decide +kernel) ⟨Nat.le_of_ble_eq_true rfl, Nat.le_of_ble_eq_true rfl⟩ 43 rfl rfl rfl rfl (Nat.le_of_ble_eq_true rfl) ⟨Nat.le_of_ble_eq_true rfl, Nat.le_of_ble_eq_true rfl⟩ dX11_cover_38 (fun v ty' w' hp hk' => ?_)
        obtain ⟨I7870, A7870, hI7870, hA7870, hV7870, y7869, rfl, rfl⟩ := hp
        show GW κ 3 0 0 (wX q d I7870 A7870) 41 [(0, .ref (q 0)), (1, .int z1), (2, .int z2)] [.int y7869]
        have b7871l := Int32.le_toInt y7869
        have b7871h := Int32.toInt_lt y7869
        exact g_iret hk hR rfl ⟨I7870, A7870, (show Md [28, 30, 31, 32, 33, 34, 37] I I7870 from (Md.tr (Md.tr Md.rf hI7009 rfl) hI7870 rfl)), (show Md [21, 22, 23, 26, 27, 28, 29] A A7870 from (Md.tr (Md.tr Md.rf hA7009 rfl) hA7870 rfl)), hV7870, y7869, rfl, rfl⟩ dX11_cover_41
      · skip
        show GW κ 3 0 0 (wX q d I7009 A7009) 38 [(0, .ref (q 0)), (1, .int z1), (2, .int z2)] [.int y7017, .int z2, .ref (q 43)]
        refine g_callV (n := 2) hk (k278_X1_placesWithin l D zt q d I7009 A7009 z2 y7017 hV7009) (SP.same _) (fun _ h => h) (gi_V (List.mem_cons_of_mem _ (List.mem_append_left _ (List.mem_of_getElem? (i := 13) rfl))) (List.mem_cons_of_mem _ (List.mem_append_left _ (List.mem_of_getElem? (i := 14) rfl))) (List.mem_cons_of_mem _ (List.mem_append_left _ (List.mem_of_getElem? (i := 15) rfl))) (List.mem_cons_of_mem _ (List.mem_append_left _ (List.mem_of_getElem? (i := 9) rfl))) (gi_sub (fun w h => (List.mem_cons_of_mem _ (List.mem_append_right _ (List.mem_append_right _ (List.mem_append_right _ (List.mem_append_right _ (List.mem_append_right _ (List.mem_append_left _ h)))))))) zg_k278_X1_placesWithin)) rfl rfl rfl (by decide +kernel) ⟨Nat.le_of_ble_eq_true rfl, Nat.le_of_ble_eq_true rfl⟩ 43 rfl rfl rfl rfl (Nat.le_of_ble_eq_true rfl) ⟨Nat.le_of_ble_eq_true rfl, Nat.le_of_ble_eq_true rfl⟩ dX11_cover_38 (fun v ty' w' hp hk' => ?_)
        obtain ⟨I7873, A7873, hI7873, hA7873, hV7873, y7872, rfl, rfl⟩ := hp
        show GW κ 3 0 0 (wX q d I7873 A7873) 41 [(0, .ref (q 0)), (1, .int z1), (2, .int z2)] [.int y7872]
        have b7874l := Int32.le_toInt y7872
        have b7874h := Int32.toInt_lt y7872
        exact g_iret hk hR rfl ⟨I7873, A7873, (show Md [28, 30, 31, 32, 33, 34, 37] I I7873 from (Md.tr (Md.tr Md.rf hI7009 rfl) hI7873 rfl)), (show Md [21, 22, 23, 26, 27, 28, 29] A A7873 from (Md.tr (Md.tr Md.rf hA7009 rfl) hA7873 rfl)), hV7873, y7872, rfl, rfl⟩ dX11_cover_41
def wo_k281_X1_neededBand : List Cond := [Cond.fieldLink RX1 43 "WarpDesk$Finder" "queries" "LWarpDesk$Queries;", Cond.methodLink RX1 65 yX4_lengthOf, Cond.instanceMethod yX4_lengthOf, Cond.selects RX4 yX4_lengthOf yX4_lengthOf, Cond.initialized RX4, Cond.methodLink RX1 110 yX1_findBest, Cond.instanceMethod yX1_findBest, Cond.selects RX1 yX1_findBest yX1_findBest, Cond.initialized RX1, Cond.fieldLink RX1 100 "WarpDesk$Finder" "bestWindow" "I"]
def wz_k281_X1_neededBand : List Cond := .code yX1_neededBand cX1_neededBand 4 (some .int) :: (wo_k281_X1_neededBand ++ (wsX10 ++ (wz_k182_X4_lengthOf ++ (wz_k263_X1_findBest ++ ([] : List Cond)))))
theorem zg_k281_X1_neededBand : ∀ w ∈ wz_k281_X1_neededBand, goodWord w = true := zg_cons rfl (zg_app (by decide +kernel) (zg_app zgU_wsX10 (zg_app zg_k182_X4_lengthOf (zg_app zg_k263_X1_findBest zg_nil))))
theorem zi_k281_X1_neededBand : ∀ w ∈ wz_k281_X1_neededBand, w ∈ lw_tbl := zi_cons zw_1202 (zi_app (zi_cons zw_404 (zi_cons zw_1102 (zi_cons zw_757 (zi_cons zw_758 (zi_cons zw_108 (zi_cons zw_1203 (zi_cons zw_1118 (zi_cons zw_1119 (zi_cons zw_113 (zi_cons zw_407 zi_nil)))))))))) (zi_app inX1 (zi_app zi_k182_X4_lengthOf (zi_app zi_k263_X1_findBest zi_nil))))
set_option maxHeartbeats 4000000 in
set_option maxRecDepth 100000 in
theorem k281_X1_neededBand (l : Launch) (D : va_G) (zt : Nat × Nat × Nat × (Nat → Nat) × (Nat → Nat)) (q : Nat → Nat) (d : Nat → ClassId) (I : Nat → Int32) (A : Nat → Nat → Int32) (z1 : Int32) (z2 : Int32) (hIv : IvX I A) : GM l D zt (tyX d) yX1_neededBand wz_k281_X1_neededBand ({ frames := 6, cells := 0, slots := 0, locals := 133 } : Room) [.ref (q 43), .int z1, .int z2] (wX q d I A) (fun v _ w' => ∃ (I' : Nat → Int32) (A' : Nat → Nat → Int32), Md [28, 30, 31, 32, 33, 34, 35, 36] I I' ∧ Md [21, 22, 23] A A' ∧ IvX I' A' ∧ ∃ y0 : Int32, ((-2) ≤ y0.toInt) ∧ (y0.toInt ≤ 15) ∧ v = some (.int y0) ∧ w' = wX q d I' A') 0 0 := by
  refine GM.of (cc := cX1_neededBand) (maxL := 4) (ret := (some .int)) (own := RX1) (lv := [(0, .ref (q 43)), (1, .int z1), (2, .int z2)]) (by decide) rfl rfl (Nat.le_of_ble_eq_true rfl) rfl (fun κ sz hk hR hN => ?_)
  have hin1 : ∀ w ∈ u_ws RX1 TX1 11, w ∈ wz_k281_X1_neededBand := fun w h => (List.mem_cons_of_mem _ (List.mem_append_right _ (List.mem_append_left _ h)))
  refine g_iconst (v := 0) hk dX1_neededBand_0 (by decide) ?_
  refine g_istore_n (lv' := [(3, .int 0), (0, .ref (q 43)), (1, .int z1), (2, .int z2)]) hk dX1_neededBand_1 (by decide) rfl ?_
  have lp7962 : ∀ (n7963 : Nat) (x7885 : Int32) (I7889 : Nat → Int32) (A7889 : Nat → Nat → Int32), (Md [28, 30, 31, 32, 33, 34, 35, 36] I I7889) → (Md [21, 22, 23] A A7889) → (IvX I7889 A7889) → (0 ≤ x7885.toInt) → (x7885.toInt ≤ 16) → (1 - x7885.toInt < (n7963 : Int)) → (0 < n7963) → GW κ 4 0 0 (wX q d I7889 A7889) 2 [(3, .int x7885), (0, .ref (q 43)), (1, .int z1), (2, .int z2)] [] := by
    intro n7963
    induction n7963 with
    | zero =>
      intro x7885 I7889 A7889 hI7889 hA7889 hV7889 h7960 h7961 m7964 m7964z
      exact absurd m7964z (Nat.lt_irrefl 0)
    | succ n7963 ih =>
      intro x7885 I7889 A7889 hI7889 hA7889 hV7889 h7960 h7961 m7964 m7964z
      refine g_iload_n hk dX1_neededBand_2 rfl ?_
      refine g_aload_n hk dX1_neededBand_3 rfl ?_
      refine gX_r43_2 hk hin1 (List.mem_cons_of_mem _ (List.mem_append_left _ (List.mem_of_getElem? (i := 0) rfl))) dX1_neededBand_4 ?_
      refine g_iload_n hk dX1_neededBand_7 rfl ?_
      refine g_callV (n := 1) hk (k182_X4_lengthOf l D zt q d I7889 A7889 z1 hV7889) (SP.same _) (fun _ h => h) (gi_V (List.mem_cons_of_mem _ (List.mem_append_left _ (List.mem_of_getElem? (i := 1) rfl))) (List.mem_cons_of_mem _ (List.mem_append_left _ (List.mem_of_getElem? (i := 2) rfl))) (List.mem_cons_of_mem _ (List.mem_append_left _ (List.mem_of_getElem? (i := 3) rfl))) (List.mem_cons_of_mem _ (List.mem_append_left _ (List.mem_of_getElem? (i := 4) rfl))) (gi_sub (fun w h => (List.mem_cons_of_mem _ (List.mem_append_right _ (List.mem_append_right _ (List.mem_append_left _ h))))) zg_k182_X4_lengthOf)) rfl rfl rfl (by decide +kernel) ⟨Nat.le_of_ble_eq_true rfl, Nat.le_of_ble_eq_true rfl⟩ 15 rfl rfl rfl rfl (Nat.le_of_ble_eq_true rfl) ⟨Nat.le_of_ble_eq_true rfl, Nat.le_of_ble_eq_true rfl⟩ dX1_neededBand_8 (fun v ty' w' hp hk' => ?_)
      rcases hp with ⟨rfl, rfl⟩ | ⟨y7972, c7966, c7967, c7968, c7969, c7970, c7971, c7973, c7974, rfl, rfl⟩
      · skip
        show GW κ 4 0 0 (wX q d I7889 A7889) 11 [(3, .int x7885), (0, .ref (q 43)), (1, .int z1), (2, .int z2)] [.int 0, .int x7885]
        refine g_icmp_ge (tgt := 36) (a := x7885.toInt) (b := 0) hk dX1_neededBand_11 (by decide) rfl rfl (fun _ => ?_) (fun z9 => absurd (show 0 ≤ x7885.toInt from by omega) z9)
        refine g_bipush (v := (-2)) hk dX1_neededBand_36 (by decide) ?_
        exact g_iret hk hR rfl ⟨I7889, A7889, (show Md [28, 30, 31, 32, 33, 34, 35, 36] I I7889 from (Md.tr Md.rf hI7889 rfl)), (show Md [21, 22, 23] A A7889 from (Md.tr Md.rf hA7889 rfl)), hV7889, (-2), (by decide), (by decide), rfl, rfl⟩ dX1_neededBand_38
      · skip
        show GW κ 4 0 0 (wX q d I7889 A7889) 11 [(3, .int x7885), (0, .ref (q 43)), (1, .int z1), (2, .int z2)] [.int y7972, .int x7885]
        refine g_icmp_ge (tgt := 36) (a := x7885.toInt) (b := y7972.toInt) hk dX1_neededBand_11 (by decide) rfl rfl (fun c7975 => ?_) (fun c7975 => ?_)
        · skip
          refine g_bipush (v := (-2)) hk dX1_neededBand_36 (by decide) ?_
          exact g_iret hk hR rfl ⟨I7889, A7889, (show Md [28, 30, 31, 32, 33, 34, 35, 36] I I7889 from (Md.tr Md.rf hI7889 rfl)), (show Md [21, 22, 23] A A7889 from (Md.tr Md.rf hA7889 rfl)), hV7889, (-2), (by decide), (by decide), rfl, rfl⟩ dX1_neededBand_38
        · skip
          refine g_aload_n hk dX1_neededBand_14 rfl ?_
          refine g_iload_n hk dX1_neededBand_15 rfl ?_
          refine g_iload_n hk dX1_neededBand_16 rfl ?_
          refine g_callV (n := 2) hk (k263_X1_findBest l D zt q d I7889 A7889 z1 x7885 hV7889) (SP.same _) (fun _ h => h) (gi_V (List.mem_cons_of_mem _ (List.mem_append_left _ (List.mem_of_getElem? (i := 5) rfl))) (List.mem_cons_of_mem _ (List.mem_append_left _ (List.mem_of_getElem? (i := 6) rfl))) (List.mem_cons_of_mem _ (List.mem_append_left _ (List.mem_of_getElem? (i := 7) rfl))) (List.mem_cons_of_mem _ (List.mem_append_left _ (List.mem_of_getElem? (i := 8) rfl))) (gi_sub (fun w h => (List.mem_cons_of_mem _ (List.mem_append_right _ (List.mem_append_right _ (List.mem_append_right _ (List.mem_append_left _ h)))))) zg_k263_X1_findBest)) rfl rfl rfl (by decide +kernel) ⟨Nat.le_of_ble_eq_true rfl, Nat.le_of_ble_eq_true rfl⟩ 43 rfl rfl rfl rfl (Nat.le_of_ble_eq_true rfl) ⟨Nat.le_of_ble_eq_true rfl, Nat.le_of_ble_eq_true rfl⟩ dX1_neededBand_17 (fun v ty' w' hp hk' => ?_)
          obtain ⟨I7977, A7977, hI7977, hA7977, hV7977, rfl, rfl⟩ := hp
          show GW κ 4 0 0 (wX q d I7977 A7977) 20 [(3, .int x7885), (0, .ref (q 43)), (1, .int z1), (2, .int z2)] []
          refine g_aload_n hk dX1_neededBand_20 rfl ?_
          refine gX_i35 (v := (I7977 35)) hk hin1 (List.mem_cons_of_mem _ (List.mem_append_left _ (List.mem_of_getElem? (i := 9) rfl))) dX1_neededBand_21 rfl ?_
          refine g_iload_n hk dX1_neededBand_24 rfl ?_
          have b7978l := Int32.le_toInt (I7977 35)
          have b7978h := Int32.toInt_lt (I7977 35)
          have b7979l := Int32.le_toInt z2
          have b7979h := Int32.toInt_lt z2
          refine g_icmp_ne (tgt := 30) (a := (I7977 35).toInt) (b := z2.toInt) hk dX1_neededBand_25 (by decide) rfl rfl (fun c7980 => ?_) (fun c7980 => ?_)
          · skip
            obtain ⟨y7981, ey7981⟩ : ∃ y : Int32, y = x7885 + Int32.ofInt 1 := ⟨_, rfl⟩
            have hy7981 : y7981.toInt = x7885.toInt + 1 := i32_add ey7981 rfl (by decide) (by omega) (by omega)
            refine g_iinc (v := y7981) (lv' := [(3, .int y7981), (0, .ref (q 43)), (1, .int z1), (2, .int z2)]) hk 0 dX1_neededBand_30 rfl ey7981.symm (by decide) rfl ?_
            refine g_goto (tgt := 2) hk dX1_neededBand_33 (by decide) ?_
            exact g_lv (List.forall_mem_cons.mpr ⟨List.mem_of_getElem? (i := 0) rfl, (List.forall_mem_cons.mpr ⟨List.mem_of_getElem? (i := 1) rfl, (List.forall_mem_cons.mpr ⟨List.mem_of_getElem? (i := 2) rfl, (List.forall_mem_cons.mpr ⟨List.mem_of_getElem? (i := 3) rfl, (fun _ h => absurd h List.not_mem_nil)⟩)⟩)⟩)⟩) (ih y7981 I7977 A7977 (show Md [28, 30, 31, 32, 33, 34, 35, 36] I I7977 from Md.tr hI7889 (show Md [28, 30, 31, 32, 33, 34, 35, 36] I7889 I7977 from (Md.tr Md.rf hI7977 rfl)) rfl) (show Md [21, 22, 23] A A7977 from Md.tr hA7889 (show Md [21, 22, 23] A7889 A7977 from (Md.tr Md.rf hA7977 rfl)) rfl) hV7977 (by omega) (by omega) (by omega) (by omega))
          · skip
            refine g_iload_n hk dX1_neededBand_28 rfl ?_
            exact g_iret hk hR rfl ⟨I7977, A7977, (show Md [28, 30, 31, 32, 33, 34, 35, 36] I I7977 from (Md.tr (Md.tr Md.rf hI7889 rfl) hI7977 rfl)), (show Md [21, 22, 23] A A7977 from (Md.tr (Md.tr Md.rf hA7889 rfl) hA7977 rfl)), hV7977, x7885, (by omega), (by omega), rfl, rfl⟩ dX1_neededBand_29
  have k7983 : (0 : Int32).toInt = 0 := rfl
  obtain ⟨n7982, n7982a, n7982b⟩ : ∃ n : Nat, 1 - 0 < (n : Int) ∧ 0 < n := ⟨((1 - 0 : Int)).toNat + 1, by omega, by omega⟩
  exact lp7962 n7982 0 I A Md.rf Md.rf hIv (by omega) (by omega) n7982a n7982b
def wo_k280_X11_needs : List Cond := [Cond.fieldLink RX11 65 "WarpDesk" "bench" "LWarpDesk$Bench;", Cond.methodLink RX11 299 yX0_hasBoth, Cond.instanceMethod yX0_hasBoth, Cond.selects RX0 yX0_hasBoth yX0_hasBoth, Cond.initialized RX0, Cond.fieldLink RX11 74 "WarpDesk" "finder" "LWarpDesk$Finder;", Cond.methodLink RX11 302 yX1_neededBand, Cond.instanceMethod yX1_neededBand, Cond.selects RX1 yX1_neededBand yX1_neededBand, Cond.initialized RX1]
def wz_k280_X11_needs : List Cond := .code yX11_needs cX11_needs 3 (some .int) :: (wo_k280_X11_needs ++ (wsX110 ++ (wz_k223_X0_hasBoth ++ (wz_k281_X1_neededBand ++ ([] : List Cond)))))
theorem zg_k280_X11_needs : ∀ w ∈ wz_k280_X11_needs, goodWord w = true := zg_cons rfl (zg_app (by decide +kernel) (zg_app zgU_wsX110 (zg_app zg_k223_X0_hasBoth (zg_app zg_k281_X1_neededBand zg_nil))))
theorem zi_k280_X11_needs : ∀ w ∈ wz_k280_X11_needs, w ∈ lw_tbl := zi_cons zw_1197 (zi_app (zi_cons zw_494 (zi_cons zw_1198 (zi_cons zw_974 (zi_cons zw_975 (zi_cons zw_111 (zi_cons zw_495 (zi_cons zw_1199 (zi_cons zw_1200 (zi_cons zw_1201 (zi_cons zw_113 zi_nil)))))))))) (zi_app inX11 (zi_app zi_k223_X0_hasBoth (zi_app zi_k281_X1_neededBand zi_nil))))
set_option maxHeartbeats 4000000 in
set_option maxRecDepth 100000 in
theorem k280_X11_needs (l : Launch) (D : va_G) (zt : Nat × Nat × Nat × (Nat → Nat) × (Nat → Nat)) (q : Nat → Nat) (d : Nat → ClassId) (I : Nat → Int32) (A : Nat → Nat → Int32) (z1 : Int32) (z2 : Int32) (hIv : IvX I A) : GM l D zt (tyX d) yX11_needs wz_k280_X11_needs ({ frames := 7, cells := 0, slots := 0, locals := 156 } : Room) [.ref (q 0), .int z1, .int z2] (wX q d I A) (fun v _ w' => ∃ (I' : Nat → Int32) (A' : Nat → Nat → Int32), Md [28, 30, 31, 32, 33, 34, 35, 36] I I' ∧ Md [21, 22, 23] A A' ∧ IvX I' A' ∧ ∃ y0 : Int32, ((-2) ≤ y0.toInt) ∧ (y0.toInt ≤ 15) ∧ v = some (.int y0) ∧ w' = wX q d I' A') 0 0 := by
  refine GM.of (cc := cX11_needs) (maxL := 3) (ret := (some .int)) (own := RX11) (lv := [(0, .ref (q 0)), (1, .int z1), (2, .int z2)]) (by decide) rfl rfl (Nat.le_of_ble_eq_true rfl) rfl (fun κ sz hk hR hN => ?_)
  have hin11 : ∀ w ∈ u_ws RX11 TX11 10, w ∈ wz_k280_X11_needs := fun w h => (List.mem_cons_of_mem _ (List.mem_append_right _ (List.mem_append_left _ h)))
  refine g_aload_n hk dX11_needs_0 rfl ?_
  refine gX_r0_7 hk hin11 (List.mem_cons_of_mem _ (List.mem_append_left _ (List.mem_of_getElem? (i := 0) rfl))) dX11_needs_1 ?_
  refine g_iload_n hk dX11_needs_4 rfl ?_
  refine g_iload_n hk dX11_needs_5 rfl ?_
  refine g_callV (n := 2) hk (k223_X0_hasBoth l D zt q d I A z1 z2 hIv) (SP.same _) (fun _ h => h) (gi_V (List.mem_cons_of_mem _ (List.mem_append_left _ (List.mem_of_getElem? (i := 1) rfl))) (List.mem_cons_of_mem _ (List.mem_append_left _ (List.mem_of_getElem? (i := 2) rfl))) (List.mem_cons_of_mem _ (List.mem_append_left _ (List.mem_of_getElem? (i := 3) rfl))) (List.mem_cons_of_mem _ (List.mem_append_left _ (List.mem_of_getElem? (i := 4) rfl))) (gi_sub (fun w h => (List.mem_cons_of_mem _ (List.mem_append_right _ (List.mem_append_right _ (List.mem_append_left _ h))))) zg_k223_X0_hasBoth)) rfl rfl rfl (by decide +kernel) ⟨Nat.le_of_ble_eq_true rfl, Nat.le_of_ble_eq_true rfl⟩ 37 rfl rfl rfl rfl (Nat.le_of_ble_eq_true rfl) ⟨Nat.le_of_ble_eq_true rfl, Nat.le_of_ble_eq_true rfl⟩ dX11_needs_6 (fun v ty' w' hp hk' => ?_)
  rcases hp with ⟨rfl, rfl⟩ | ⟨c7876, c7877, c7878, c7879, c7880, c7881, c7882, c7883, rfl, rfl⟩
  · skip
    show GW κ 3 0 0 (wX q d I A) 9 [(0, .ref (q 0)), (1, .int z1), (2, .int z2)] [.int 0]
    refine g_if_eq (tgt := 24) (a := 0) hk dX11_needs_9 (by decide) rfl (fun _ => ?_) (fun z9 => absurd (show (0 : Int) = (0 : Int) from by decide) z9)
    refine g_iconst (v := (-1)) hk dX11_needs_24 (by decide) ?_
    exact g_iret hk hR rfl ⟨I, A, (show Md [28, 30, 31, 32, 33, 34, 35, 36] I I from Md.rf), (show Md [21, 22, 23] A A from Md.rf), hIv, (-1), (by decide), (by decide), rfl, rfl⟩ dX11_needs_25
  · skip
    show GW κ 3 0 0 (wX q d I A) 9 [(0, .ref (q 0)), (1, .int z1), (2, .int z2)] [.int 1]
    refine g_if_eq (tgt := 24) (a := 1) hk dX11_needs_9 (by decide) rfl (fun z9 => absurd z9 (show ¬ ((1 : Int) = (0 : Int)) from by decide)) (fun _ => ?_)
    refine g_aload_n hk dX11_needs_12 rfl ?_
    refine gX_r0_8 hk hin11 (List.mem_cons_of_mem _ (List.mem_append_left _ (List.mem_of_getElem? (i := 5) rfl))) dX11_needs_13 ?_
    refine g_iload_n hk dX11_needs_16 rfl ?_
    refine g_iload_n hk dX11_needs_17 rfl ?_
    refine g_callV (n := 2) hk (k281_X1_neededBand l D zt q d I A z1 z2 hIv) (SP.same _) (fun _ h => h) (gi_V (List.mem_cons_of_mem _ (List.mem_append_left _ (List.mem_of_getElem? (i := 6) rfl))) (List.mem_cons_of_mem _ (List.mem_append_left _ (List.mem_of_getElem? (i := 7) rfl))) (List.mem_cons_of_mem _ (List.mem_append_left _ (List.mem_of_getElem? (i := 8) rfl))) (List.mem_cons_of_mem _ (List.mem_append_left _ (List.mem_of_getElem? (i := 9) rfl))) (gi_sub (fun w h => (List.mem_cons_of_mem _ (List.mem_append_right _ (List.mem_append_right _ (List.mem_append_right _ (List.mem_append_left _ h)))))) zg_k281_X1_neededBand)) rfl rfl rfl (by decide +kernel) ⟨Nat.le_of_ble_eq_true rfl, Nat.le_of_ble_eq_true rfl⟩ 43 rfl rfl rfl rfl (Nat.le_of_ble_eq_true rfl) ⟨Nat.le_of_ble_eq_true rfl, Nat.le_of_ble_eq_true rfl⟩ dX11_needs_18 (fun v ty' w' hp hk' => ?_)
    obtain ⟨I7987, A7987, hI7987, hA7987, hV7987, y7984, c7985, c7986, rfl, rfl⟩ := hp
    show GW κ 3 0 0 (wX q d I7987 A7987) 21 [(0, .ref (q 0)), (1, .int z1), (2, .int z2)] [.int y7984]
    refine g_goto (tgt := 25) hk dX11_needs_21 (by decide) ?_
    exact g_iret hk hR rfl ⟨I7987, A7987, (show Md [28, 30, 31, 32, 33, 34, 35, 36] I I7987 from (Md.tr Md.rf hI7987 rfl)), (show Md [21, 22, 23] A A7987 from (Md.tr Md.rf hA7987 rfl)), hV7987, y7984, (by omega), (by omega), rfl, rfl⟩ dX11_needs_25
def wo_k284_X1_scannedDistance : List Cond := [Cond.fieldLink RX1 15 "WarpDesk$Finder" "distances" "[I"]
def wz_k284_X1_scannedDistance : List Cond := .code yX1_scannedDistance cX1_scannedDistance 2 (some .int) :: (wo_k284_X1_scannedDistance ++ (wsX10 ++ ([] : List Cond)))
theorem zg_k284_X1_scannedDistance : ∀ w ∈ wz_k284_X1_scannedDistance, goodWord w = true := zg_cons rfl (zg_app (by decide +kernel) (zg_app zgU_wsX10 zg_nil))
theorem zi_k284_X1_scannedDistance : ∀ w ∈ wz_k284_X1_scannedDistance, w ∈ lw_tbl := zi_cons zw_1216 (zi_app (zi_cons zw_411 zi_nil) (zi_app inX1 zi_nil))
set_option maxHeartbeats 4000000 in
set_option maxRecDepth 100000 in
theorem k284_X1_scannedDistance (l : Launch) (D : va_G) (zt : Nat × Nat × Nat × (Nat → Nat) × (Nat → Nat)) (q : Nat → Nat) (d : Nat → ClassId) (I : Nat → Int32) (A : Nat → Nat → Int32) (z1 : Int32) (hIv : IvX I A) : GM l D zt (tyX d) yX1_scannedDistance wz_k284_X1_scannedDistance ({ frames := 0, cells := 0, slots := 0, locals := 0 } : Room) [.ref (q 43), .int z1] (wX q d I A) (fun v _ w' => ∃ y0 : Int32, v = some (.int y0) ∧ w' = wX q d I A) 0 0 := by
  refine GM.of (cc := cX1_scannedDistance) (maxL := 2) (ret := (some .int)) (own := RX1) (lv := [(0, .ref (q 43)), (1, .int z1)]) (by decide) rfl rfl (Nat.le_of_ble_eq_true rfl) rfl (fun κ sz hk hR hN => ?_)
  have hin1 : ∀ w ∈ u_ws RX1 TX1 11, w ∈ wz_k284_X1_scannedDistance := fun w h => (List.mem_cons_of_mem _ (List.mem_append_right _ (List.mem_append_left _ h)))
  refine g_iload_n hk dX1_scannedDistance_0 rfl ?_
  have b8000l := Int32.le_toInt z1
  have b8000h := Int32.toInt_lt z1
  refine g_if_lt (tgt := 20) (a := z1.toInt) hk dX1_scannedDistance_1 (by decide) rfl (fun c8001 => ?_) (fun c8001 => ?_)
  · skip
    refine g_bipush (v := (-2)) hk dX1_scannedDistance_20 (by decide) ?_
    exact g_iret hk hR rfl ⟨(-2), rfl, rfl⟩ dX1_scannedDistance_22
  · skip
    refine g_iload_n hk dX1_scannedDistance_4 rfl ?_
    refine g_sipush (v := 160) hk dX1_scannedDistance_5 (by decide) ?_
    refine g_icmp_ge (tgt := 20) (a := z1.toInt) (b := 160) hk dX1_scannedDistance_8 (by decide) rfl rfl (fun c8002 => ?_) (fun c8002 => ?_)
    · skip
      refine g_bipush (v := (-2)) hk dX1_scannedDistance_20 (by decide) ?_
      exact g_iret hk hR rfl ⟨(-2), rfl, rfl⟩ dX1_scannedDistance_22
    · skip
      refine g_aload_n hk dX1_scannedDistance_11 rfl ?_
      refine gX_r43_6 hk hin1 (List.mem_cons_of_mem _ (List.mem_append_left _ (List.mem_of_getElem? (i := 0) rfl))) dX1_scannedDistance_12 ?_
      refine g_iload_n hk dX1_scannedDistance_15 rfl ?_
      refine lX_26 (v := (A 26 z1.toNatClampNeg)) hk (vp_in_iff.mpr ⟨by omega, by omega⟩) rfl dX1_scannedDistance_16 ?_
      refine g_goto (tgt := 22) hk dX1_scannedDistance_17 (by decide) ?_
      have b8003l := Int32.le_toInt (A 26 z1.toNatClampNeg)
      have b8003h := Int32.toInt_lt (A 26 z1.toNatClampNeg)
      exact g_iret hk hR rfl ⟨(A 26 z1.toNatClampNeg), rfl, rfl⟩ dX1_scannedDistance_22
