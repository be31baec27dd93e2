def wo_k337_X11_count : List Cond := [Cond.fieldLink RX11 28 "WarpDesk" "series" "LWarpDesk$Series;", Cond.fieldLink RX11 138 "WarpDesk$Series" "size" "I", Cond.methodLink RX11 374 yX6_gapCount, Cond.instanceMethod yX6_gapCount, Cond.selects RX6 yX6_gapCount yX6_gapCount, Cond.initialized RX6, Cond.fieldLink RX11 35 "WarpDesk" "queries" "LWarpDesk$Queries;", Cond.fieldLink RX11 377 "WarpDesk$Queries" "size" "I", Cond.fieldLink RX11 42 "WarpDesk" "settings" "LWarpDesk$Settings;", Cond.methodLink RX11 154 yX7_valueOf, Cond.instanceMethod yX7_valueOf, Cond.selects RX7 yX7_valueOf yX7_valueOf, Cond.initialized RX7, Cond.methodLink RX11 378 yX6_readingsAtEnd, Cond.instanceMethod yX6_readingsAtEnd, Cond.selects RX6 yX6_readingsAtEnd yX6_readingsAtEnd, Cond.fieldLink RX11 10 "WarpDesk" "tape" "LWarpDesk$Tape;", Cond.fieldLink RX11 85 "WarpDesk$Tape" "size" "I", Cond.fieldLink RX11 49 "WarpDesk" "past" "LWarpDesk$Past;", Cond.fieldLink RX11 381 "WarpDesk$Past" "size" "I", Cond.methodLink RX11 187 yX6_sumOf, Cond.instanceMethod yX6_sumOf, Cond.selects RX6 yX6_sumOf yX6_sumOf, Cond.methodLink RX11 382 yX11_slotsHeld, Cond.instanceMethod yX11_slotsHeld, Cond.selects RX11 yX11_slotsHeld yX11_slotsHeld, Cond.initialized RX11, Cond.methodLink RX11 193 yX6_greatestOf, Cond.instanceMethod yX6_greatestOf, Cond.selects RX6 yX6_greatestOf yX6_greatestOf, Cond.methodLink RX11 190 yX6_leastOf, Cond.instanceMethod yX6_leastOf, Cond.selects RX6 yX6_leastOf yX6_leastOf, Cond.methodLink RX11 359 yX6_runFrom, Cond.instanceMethod yX6_runFrom, Cond.selects RX6 yX6_runFrom yX6_runFrom]
def wz_k337_X11_count : List Cond := .code yX11_count cX11_count 2 (some .int) :: (wo_k337_X11_count ++ (wsX30 ++ (wsX40 ++ (wsX60 ++ (wsX100 ++ (wsX110 ++ (wz_k338_X6_gapCount ++ (wz_k194_X7_valueOf ++ (wz_k339_X6_readingsAtEnd ++ (wz_k208_X6_sumOf ++ (wz_k340_X11_slotsHeld ++ (wz_k210_X6_greatestOf ++ (wz_k209_X6_leastOf ++ (wz_k310_X6_runFrom ++ ([] : List Cond)))))))))))))))
theorem zg_k337_X11_count : ∀ w ∈ wz_k337_X11_count, goodWord w = true := zg_cons rfl (zg_app (by decide +kernel) (zg_app zgU_wsX30 (zg_app zgU_wsX40 (zg_app zgU_wsX60 (zg_app zgU_wsX100 (zg_app zgU_wsX110 (zg_app zg_k338_X6_gapCount (zg_app zg_k194_X7_valueOf (zg_app zg_k339_X6_readingsAtEnd (zg_app zg_k208_X6_sumOf (zg_app zg_k340_X11_slotsHeld (zg_app zg_k210_X6_greatestOf (zg_app zg_k209_X6_leastOf (zg_app zg_k310_X6_runFrom zg_nil))))))))))))))
theorem zi_k337_X11_count : ∀ w ∈ wz_k337_X11_count, w ∈ lw_tbl := zi_cons zw_1342 (zi_app (zi_cons zw_489 (zi_cons zw_284 (zi_cons zw_1343 (zi_cons zw_1344 (zi_cons zw_1345 (zi_cons zw_109 (zi_cons zw_490 (zi_cons zw_222 (zi_cons zw_491 (zi_cons zw_863 (zi_cons zw_786 (zi_cons zw_787 (zi_cons zw_107 (zi_cons zw_1347 (zi_cons zw_1348 (zi_cons zw_1349 (zi_cons zw_487 (zi_cons zw_136 (zi_cons zw_492 (zi_cons zw_307 (zi_cons zw_907 (zi_cons zw_908 (zi_cons zw_909 (zi_cons zw_1351 (zi_cons zw_1353 (zi_cons zw_43 (zi_cons zw_103 (zi_cons zw_915 (zi_cons zw_916 (zi_cons zw_917 (zi_cons zw_911 (zi_cons zw_912 (zi_cons zw_913 (zi_cons zw_1325 (zi_cons zw_1322 (zi_cons zw_1323 zi_nil)))))))))))))))))))))))))))))))))))) (zi_app inX3 (zi_app inX4 (zi_app inX6 (zi_app inX10 (zi_app inX11 (zi_app zi_k338_X6_gapCount (zi_app zi_k194_X7_valueOf (zi_app zi_k339_X6_readingsAtEnd (zi_app zi_k208_X6_sumOf (zi_app zi_k340_X11_slotsHeld (zi_app zi_k210_X6_greatestOf (zi_app zi_k209_X6_leastOf (zi_app zi_k310_X6_runFrom zi_nil))))))))))))))
set_option maxHeartbeats 4000000 in
set_option maxRecDepth 100000 in
theorem k337_X11_count (l : Launch) (D : va_G) (zt : Nat × Nat × Nat × (Nat → Nat) × (Nat → Nat)) (q : Nat → Nat) (d : Nat → ClassId) (I : Nat → Int32) (A : Nat → Nat → Int32) (z1 : Int32) (hIv : IvX I A) : GM l D zt (tyX d) yX11_count wz_k337_X11_count ({ frames := 3, cells := 0, slots := 0, locals := 66 } : Room) [.ref (q 0), .int z1] (wX q d I A) (fun v _ w' => ∃ y0 : Int32, v = some (.int y0) ∧ w' = wX q d I A) 0 0 := by
  refine GM.of (cc := cX11_count) (maxL := 2) (ret := (some .int)) (own := RX11) (lv := [(0, .ref (q 0)), (1, .int z1)]) (by decide) rfl rfl (Nat.le_of_ble_eq_true rfl) rfl (fun κ sz hk hR hN => ?_)
  have hin3 : ∀ w ∈ u_ws RX3 TX3 5, w ∈ wz_k337_X11_count := fun w h => (List.mem_cons_of_mem _ (List.mem_append_right _ (List.mem_append_left _ h)))
  have hin4 : ∀ w ∈ u_ws RX4 TX4 3, w ∈ wz_k337_X11_count := fun w h => (List.mem_cons_of_mem _ (List.mem_append_right _ (List.mem_append_right _ (List.mem_append_left _ h))))
  have hin6 : ∀ w ∈ u_ws RX6 TX6 3, w ∈ wz_k337_X11_count := fun w h => (List.mem_cons_of_mem _ (List.mem_append_right _ (List.mem_append_right _ (List.mem_append_right _ (List.mem_append_left _ h)))))
  have hin10 : ∀ w ∈ u_ws RX10 TX10 7, w ∈ wz_k337_X11_count := fun w h => (List.mem_cons_of_mem _ (List.mem_append_right _ (List.mem_append_right _ (List.mem_append_right _ (List.mem_append_right _ (List.mem_append_left _ h))))))
  have hin11 : ∀ w ∈ u_ws RX11 TX11 10, w ∈ wz_k337_X11_count := fun w h => (List.mem_cons_of_mem _ (List.mem_append_right _ (List.mem_append_right _ (List.mem_append_right _ (List.mem_append_right _ (List.mem_append_right _ (List.mem_append_left _ h)))))))
  refine g_iload_n hk dX11_count_0 rfl ?_
  by_cases c10376 : z1.toInt = 0
  · refine g_tabIn (tgt := 76) (a := 0) hk dX11_count_1 c10376 (by decide) (by decide) rfl (by decide) ?_
    refine g_aload_n hk dX11_count_76 rfl ?_
    refine gX_r0_2 hk hin11 (List.mem_cons_of_mem _ (List.mem_append_left _ (List.mem_of_getElem? (i := 0) rfl))) dX11_count_77 ?_
    refine gX_i18 (v := (I 18)) hk hin6 (List.mem_cons_of_mem _ (List.mem_append_left _ (List.mem_of_getElem? (i := 1) rfl))) dX11_count_80 rfl ?_
    have f10377 := IvX_f18 hIv
    exact g_iret hk hR rfl ⟨(I 18), rfl, rfl⟩ dX11_count_83
  by_cases c10378 : z1.toInt = 1
  · refine g_tabIn (tgt := 84) (a := 1) hk dX11_count_1 c10378 (by decide) (by decide) rfl (by decide) ?_
    refine g_aload_n hk dX11_count_84 rfl ?_
    refine gX_r0_2 hk hin11 (List.mem_cons_of_mem _ (List.mem_append_left _ (List.mem_of_getElem? (i := 0) rfl))) dX11_count_85 ?_
    refine g_callV (n := 0) hk (k338_X6_gapCount l D zt q d I A  hIv) (SP.same _) (fun _ h => h) (gi_V (List.mem_cons_of_mem _ (List.mem_append_left _ (List.mem_of_getElem? (i := 2) rfl))) (List.mem_cons_of_mem _ (List.mem_append_left _ (List.mem_of_getElem? (i := 3) rfl))) (List.mem_cons_of_mem _ (List.mem_append_left _ (List.mem_of_getElem? (i := 4) rfl))) (List.mem_cons_of_mem _ (List.mem_append_left _ (List.mem_of_getElem? (i := 5) rfl))) (gi_sub (fun w h => (List.mem_cons_of_mem _ (List.mem_append_right _ (List.mem_append_right _ (List.mem_append_right _ (List.mem_append_right _ (List.mem_append_right _ (List.mem_append_right _ (List.mem_append_left _ h))))))))) zg_k338_X6_gapCount)) rfl rfl rfl (by decide +kernel) ⟨Nat.le_of_ble_eq_true rfl, Nat.le_of_ble_eq_true rfl⟩ 13 rfl rfl rfl rfl (Nat.le_of_ble_eq_true rfl) ⟨Nat.le_of_ble_eq_true rfl, Nat.le_of_ble_eq_true rfl⟩ dX11_count_88 (fun v ty' w' hp hk' => ?_)
    obtain ⟨y10438, rfl, rfl⟩ := hp
    show GW κ 2 0 0 (wX q d I A) 91 [(0, .ref (q 0)), (1, .int z1)] [.int y10438]
    have b10439l := Int32.le_toInt y10438
    have b10439h := Int32.toInt_lt y10438
    exact g_iret hk hR rfl ⟨y10438, rfl, rfl⟩ dX11_count_91
  by_cases c10440 : z1.toInt = 2
  · refine g_tabIn (tgt := 92) (a := 2) hk dX11_count_1 c10440 (by decide) (by decide) rfl (by decide) ?_
    refine g_aload_n hk dX11_count_92 rfl ?_
    refine gX_r0_3 hk hin11 (List.mem_cons_of_mem _ (List.mem_append_left _ (List.mem_of_getElem? (i := 6) rfl))) dX11_count_93 ?_
    refine gX_i19 (v := (I 19)) hk hin4 (List.mem_cons_of_mem _ (List.mem_append_left _ (List.mem_of_getElem? (i := 7) rfl))) dX11_count_96 rfl ?_
    have b10441l := Int32.le_toInt (I 19)
    have b10441h := Int32.toInt_lt (I 19)
    exact g_iret hk hR rfl ⟨(I 19), rfl, rfl⟩ dX11_count_99
  by_cases c10442 : z1.toInt = 3
  · refine g_tabIn (tgt := 100) (a := 3) hk dX11_count_1 c10442 (by decide) (by decide) rfl (by decide) ?_
    refine g_aload_n hk dX11_count_100 rfl ?_
    refine gX_r0_4 hk hin11 (List.mem_cons_of_mem _ (List.mem_append_left _ (List.mem_of_getElem? (i := 8) rfl))) dX11_count_101 ?_
    refine g_iconst (v := 0) hk dX11_count_104 (by decide) ?_
    have k10443 : (0 : Int32).toInt = 0 := rfl
    refine g_callV (n := 1) hk (k194_X7_valueOf l D zt q d I A 0 hIv) (SP.same _) (fun _ h => h) (gi_V (List.mem_cons_of_mem _ (List.mem_append_left _ (List.mem_of_getElem? (i := 9) rfl))) (List.mem_cons_of_mem _ (List.mem_append_left _ (List.mem_of_getElem? (i := 10) rfl))) (List.mem_cons_of_mem _ (List.mem_append_left _ (List.mem_of_getElem? (i := 11) rfl))) (List.mem_cons_of_mem _ (List.mem_append_left _ (List.mem_of_getElem? (i := 12) rfl))) (gi_sub (fun w h => (List.mem_cons_of_mem _ (List.mem_append_right _ (List.mem_append_right _ (List.mem_append_right _ (List.mem_append_right _ (List.mem_append_right _ (List.mem_append_right _ (List.mem_append_right _ (List.mem_append_left _ h)))))))))) zg_k194_X7_valueOf)) rfl rfl rfl (by decide +kernel) ⟨Nat.le_of_ble_eq_true rfl, Nat.le_of_ble_eq_true rfl⟩ 18 rfl rfl rfl rfl (Nat.le_of_ble_eq_true rfl) ⟨Nat.le_of_ble_eq_true rfl, Nat.le_of_ble_eq_true rfl⟩ dX11_count_105 (fun v ty' w' hp hk' => ?_)
    obtain ⟨y10444, rfl, rfl⟩ := hp
    show GW κ 2 0 0 (wX q d I A) 108 [(0, .ref (q 0)), (1, .int z1)] [.int y10444]
    have b10445l := Int32.le_toInt y10444
    have b10445h := Int32.toInt_lt y10444
    exact g_iret hk hR rfl ⟨y10444, rfl, rfl⟩ dX11_count_108
  by_cases c10446 : z1.toInt = 4
  · refine g_tabIn (tgt := 109) (a := 4) hk dX11_count_1 c10446 (by decide) (by decide) rfl (by decide) ?_
    refine g_aload_n hk dX11_count_109 rfl ?_
    refine gX_r0_4 hk hin11 (List.mem_cons_of_mem _ (List.mem_append_left _ (List.mem_of_getElem? (i := 8) rfl))) dX11_count_110 ?_
    refine g_iconst (v := 1) hk dX11_count_113 (by decide) ?_
    have k10447 : (1 : Int32).toInt = 1 := rfl
    refine g_callV (n := 1) hk (k194_X7_valueOf l D zt q d I A 1 hIv) (SP.same _) (fun _ h => h) (gi_V (List.mem_cons_of_mem _ (List.mem_append_left _ (List.mem_of_getElem? (i := 9) rfl))) (List.mem_cons_of_mem _ (List.mem_append_left _ (List.mem_of_getElem? (i := 10) rfl))) (List.mem_cons_of_mem _ (List.mem_append_left _ (List.mem_of_getElem? (i := 11) rfl))) (List.mem_cons_of_mem _ (List.mem_append_left _ (List.mem_of_getElem? (i := 12) rfl))) (gi_sub (fun w h => (List.mem_cons_of_mem _ (List.mem_append_right _ (List.mem_append_right _ (List.mem_append_right _ (List.mem_append_right _ (List.mem_append_right _ (List.mem_append_right _ (List.mem_append_right _ (List.mem_append_left _ h)))))))))) zg_k194_X7_valueOf)) rfl rfl rfl (by decide +kernel) ⟨Nat.le_of_ble_eq_true rfl, Nat.le_of_ble_eq_true rfl⟩ 18 rfl rfl rfl rfl (Nat.le_of_ble_eq_true rfl) ⟨Nat.le_of_ble_eq_true rfl, Nat.le_of_ble_eq_true rfl⟩ dX11_count_114 (fun v ty' w' hp hk' => ?_)
    obtain ⟨y10448, rfl, rfl⟩ := hp
    show GW κ 2 0 0 (wX q d I A) 117 [(0, .ref (q 0)), (1, .int z1)] [.int y10448]
    have b10449l := Int32.le_toInt y10448
    have b10449h := Int32.toInt_lt y10448
    exact g_iret hk hR rfl ⟨y10448, rfl, rfl⟩ dX11_count_117
  by_cases c10450 : z1.toInt = 5
  · refine g_tabIn (tgt := 118) (a := 5) hk dX11_count_1 c10450 (by decide) (by decide) rfl (by decide) ?_
    refine g_aload_n hk dX11_count_118 rfl ?_
    refine gX_r0_4 hk hin11 (List.mem_cons_of_mem _ (List.mem_append_left _ (List.mem_of_getElem? (i := 8) rfl))) dX11_count_119 ?_
    refine g_iconst (v := 2) hk dX11_count_122 (by decide) ?_
    have k10451 : (2 : Int32).toInt = 2 := rfl
    refine g_callV (n := 1) hk (k194_X7_valueOf l D zt q d I A 2 hIv) (SP.same _) (fun _ h => h) (gi_V (List.mem_cons_of_mem _ (List.mem_append_left _ (List.mem_of_getElem? (i := 9) rfl))) (List.mem_cons_of_mem _ (List.mem_append_left _ (List.mem_of_getElem? (i := 10) rfl))) (List.mem_cons_of_mem _ (List.mem_append_left _ (List.mem_of_getElem? (i := 11) rfl))) (List.mem_cons_of_mem _ (List.mem_append_left _ (List.mem_of_getElem? (i := 12) rfl))) (gi_sub (fun w h => (List.mem_cons_of_mem _ (List.mem_append_right _ (List.mem_append_right _ (List.mem_append_right _ (List.mem_append_right _ (List.mem_append_right _ (List.mem_append_right _ (List.mem_append_right _ (List.mem_append_left _ h)))))))))) zg_k194_X7_valueOf)) rfl rfl rfl (by decide +kernel) ⟨Nat.le_of_ble_eq_true rfl, Nat.le_of_ble_eq_true rfl⟩ 18 rfl rfl rfl rfl (Nat.le_of_ble_eq_true rfl) ⟨Nat.le_of_ble_eq_true rfl, Nat.le_of_ble_eq_true rfl⟩ dX11_count_123 (fun v ty' w' hp hk' => ?_)
    obtain ⟨y10452, rfl, rfl⟩ := hp
    show GW κ 2 0 0 (wX q d I A) 126 [(0, .ref (q 0)), (1, .int z1)] [.int y10452]
    have b10453l := Int32.le_toInt y10452
    have b10453h := Int32.toInt_lt y10452
    exact g_iret hk hR rfl ⟨y10452, rfl, rfl⟩ dX11_count_126
  by_cases c10454 : z1.toInt = 6
  · refine g_tabIn (tgt := 127) (a := 6) hk dX11_count_1 c10454 (by decide) (by decide) rfl (by decide) ?_
    refine g_aload_n hk dX11_count_127 rfl ?_
    refine gX_r0_4 hk hin11 (List.mem_cons_of_mem _ (List.mem_append_left _ (List.mem_of_getElem? (i := 8) rfl))) dX11_count_128 ?_
    refine g_iconst (v := 3) hk dX11_count_131 (by decide) ?_
    have k10455 : (3 : Int32).toInt = 3 := rfl
    refine g_callV (n := 1) hk (k194_X7_valueOf l D zt q d I A 3 hIv) (SP.same _) (fun _ h => h) (gi_V (List.mem_cons_of_mem _ (List.mem_append_left _ (List.mem_of_getElem? (i := 9) rfl))) (List.mem_cons_of_mem _ (List.mem_append_left _ (List.mem_of_getElem? (i := 10) rfl))) (List.mem_cons_of_mem _ (List.mem_append_left _ (List.mem_of_getElem? (i := 11) rfl))) (List.mem_cons_of_mem _ (List.mem_append_left _ (List.mem_of_getElem? (i := 12) rfl))) (gi_sub (fun w h => (List.mem_cons_of_mem _ (List.mem_append_right _ (List.mem_append_right _ (List.mem_append_right _ (List.mem_append_right _ (List.mem_append_right _ (List.mem_append_right _ (List.mem_append_right _ (List.mem_append_left _ h)))))))))) zg_k194_X7_valueOf)) rfl rfl rfl (by decide +kernel) ⟨Nat.le_of_ble_eq_true rfl, Nat.le_of_ble_eq_true rfl⟩ 18 rfl rfl rfl rfl (Nat.le_of_ble_eq_true rfl) ⟨Nat.le_of_ble_eq_true rfl, Nat.le_of_ble_eq_true rfl⟩ dX11_count_132 (fun v ty' w' hp hk' => ?_)
    obtain ⟨y10456, rfl, rfl⟩ := hp
    show GW κ 2 0 0 (wX q d I A) 135 [(0, .ref (q 0)), (1, .int z1)] [.int y10456]
    have b10457l := Int32.le_toInt y10456
    have b10457h := Int32.toInt_lt y10456
    exact g_iret hk hR rfl ⟨y10456, rfl, rfl⟩ dX11_count_135
  by_cases c10458 : z1.toInt = 7
  · refine g_tabIn (tgt := 136) (a := 7) hk dX11_count_1 c10458 (by decide) (by decide) rfl (by decide) ?_
    refine g_aload_n hk dX11_count_136 rfl ?_
    refine gX_r0_2 hk hin11 (List.mem_cons_of_mem _ (List.mem_append_left _ (List.mem_of_getElem? (i := 0) rfl))) dX11_count_137 ?_
    refine g_callV (n := 0) hk (k339_X6_readingsAtEnd l D zt q d I A  hIv) (SP.same _) (fun _ h => h) (gi_V (List.mem_cons_of_mem _ (List.mem_append_left _ (List.mem_of_getElem? (i := 13) rfl))) (List.mem_cons_of_mem _ (List.mem_append_left _ (List.mem_of_getElem? (i := 14) rfl))) (List.mem_cons_of_mem _ (List.mem_append_left _ (List.mem_of_getElem? (i := 15) rfl))) (List.mem_cons_of_mem _ (List.mem_append_left _ (List.mem_of_getElem? (i := 5) rfl))) (gi_sub (fun w h => (List.mem_cons_of_mem _ (List.mem_append_right _ (List.mem_append_right _ (List.mem_append_right _ (List.mem_append_right _ (List.mem_append_right _ (List.mem_append_right _ (List.mem_append_right _ (List.mem_append_right _ (List.mem_append_left _ h))))))))))) zg_k339_X6_readingsAtEnd)) rfl rfl rfl (by decide +kernel) ⟨Nat.le_of_ble_eq_true rfl, Nat.le_of_ble_eq_true rfl⟩ 13 rfl rfl rfl rfl (Nat.le_of_ble_eq_true rfl) ⟨Nat.le_of_ble_eq_true rfl, Nat.le_of_ble_eq_true rfl⟩ dX11_count_140 (fun v ty' w' hp hk' => ?_)
    obtain ⟨y10502, rfl, rfl⟩ := hp
    show GW κ 2 0 0 (wX q d I A) 143 [(0, .ref (q 0)), (1, .int z1)] [.int y10502]
    have b10503l := Int32.le_toInt y10502
    have b10503h := Int32.toInt_lt y10502
    exact g_iret hk hR rfl ⟨y10502, rfl, rfl⟩ dX11_count_143
  by_cases c10504 : z1.toInt = 8
  · refine g_tabIn (tgt := 144) (a := 8) hk dX11_count_1 c10504 (by decide) (by decide) rfl (by decide) ?_
    refine g_aload_n hk dX11_count_144 rfl ?_
    refine gX_r0_0 hk hin11 (List.mem_cons_of_mem _ (List.mem_append_left _ (List.mem_of_getElem? (i := 16) rfl))) dX11_count_145 ?_
    refine gX_i0 (v := (I 0)) hk hin10 (List.mem_cons_of_mem _ (List.mem_append_left _ (List.mem_of_getElem? (i := 17) rfl))) dX11_count_148 rfl ?_
    have f10505 := IvX_f0 hIv
    exact g_iret hk hR rfl ⟨(I 0), rfl, rfl⟩ dX11_count_151
  by_cases c10506 : z1.toInt = 9
  · refine g_tabIn (tgt := 152) (a := 9) hk dX11_count_1 c10506 (by decide) (by decide) rfl (by decide) ?_
    refine g_aload_n hk dX11_count_152 rfl ?_
    refine gX_r0_5 hk hin11 (List.mem_cons_of_mem _ (List.mem_append_left _ (List.mem_of_getElem? (i := 18) rfl))) dX11_count_153 ?_
    refine gX_i21 (v := (I 21)) hk hin3 (List.mem_cons_of_mem _ (List.mem_append_left _ (List.mem_of_getElem? (i := 19) rfl))) dX11_count_156 rfl ?_
    have b10507l := Int32.le_toInt (I 21)
    have b10507h := Int32.toInt_lt (I 21)
    exact g_iret hk hR rfl ⟨(I 21), rfl, rfl⟩ dX11_count_159
  by_cases c10508 : z1.toInt = 10
  · refine g_tabIn (tgt := 160) (a := 10) hk dX11_count_1 c10508 (by decide) (by decide) rfl (by decide) ?_
    refine g_aload_n hk dX11_count_160 rfl ?_
    refine gX_r0_2 hk hin11 (List.mem_cons_of_mem _ (List.mem_append_left _ (List.mem_of_getElem? (i := 0) rfl))) dX11_count_161 ?_
    refine g_iconst (v := 0) hk dX11_count_164 (by decide) ?_
    refine g_aload_n hk dX11_count_165 rfl ?_
    refine gX_r0_2 hk hin11 (List.mem_cons_of_mem _ (List.mem_append_left _ (List.mem_of_getElem? (i := 0) rfl))) dX11_count_166 ?_
    refine gX_i18 (v := (I 18)) hk hin6 (List.mem_cons_of_mem _ (List.mem_append_left _ (List.mem_of_getElem? (i := 1) rfl))) dX11_count_169 rfl ?_
    have f10509 := IvX_f18 hIv
    have k10510 : (0 : Int32).toInt = 0 := rfl
    refine g_callV (n := 2) hk (k208_X6_sumOf l D zt q d I A 0 (I 18) hIv) (SP.same _) (fun _ h => h) (gi_V (List.mem_cons_of_mem _ (List.mem_append_left _ (List.mem_of_getElem? (i := 20) rfl))) (List.mem_cons_of_mem _ (List.mem_append_left _ (List.mem_of_getElem? (i := 21) rfl))) (List.mem_cons_of_mem _ (List.mem_append_left _ (List.mem_of_getElem? (i := 22) rfl))) (List.mem_cons_of_mem _ (List.mem_append_left _ (List.mem_of_getElem? (i := 5) rfl))) (gi_sub (fun w h => (List.mem_cons_of_mem _ (List.mem_append_right _ (List.mem_append_right _ (List.mem_append_right _ (List.mem_append_right _ (List.mem_append_right _ (List.mem_append_right _ (List.mem_append_right _ (List.mem_append_right _ (List.mem_append_right _ (List.mem_append_left _ h)))))))))))) zg_k208_X6_sumOf)) rfl rfl rfl (by decide +kernel) ⟨Nat.le_of_ble_eq_true rfl, Nat.le_of_ble_eq_true rfl⟩ 13 rfl rfl rfl rfl (Nat.le_of_ble_eq_true rfl) ⟨Nat.le_of_ble_eq_true rfl, Nat.le_of_ble_eq_true rfl⟩ dX11_count_172 (fun v ty' w' hp hk' => ?_)
    obtain ⟨y10511, rfl, rfl⟩ := hp
    show GW κ 2 0 0 (wX q d I A) 175 [(0, .ref (q 0)), (1, .int z1)] [.int y10511]
    have b10512l := Int32.le_toInt y10511
    have b10512h := Int32.toInt_lt y10511
    exact g_iret hk hR rfl ⟨y10511, rfl, rfl⟩ dX11_count_175
  by_cases c10513 : z1.toInt = 11
  · refine g_tabIn (tgt := 176) (a := 11) hk dX11_count_1 c10513 (by decide) (by decide) rfl (by decide) ?_
    refine g_aload_n hk dX11_count_176 rfl ?_
    refine g_callV (n := 0) hk (k340_X11_slotsHeld l D zt q d I A  hIv) (SP.same _) (fun _ h => h) (gi_V (List.mem_cons_of_mem _ (List.mem_append_left _ (List.mem_of_getElem? (i := 23) rfl))) (List.mem_cons_of_mem _ (List.mem_append_left _ (List.mem_of_getElem? (i := 24) rfl))) (List.mem_cons_of_mem _ (List.mem_append_left _ (List.mem_of_getElem? (i := 25) rfl))) (List.mem_cons_of_mem _ (List.mem_append_left _ (List.mem_of_getElem? (i := 26) rfl))) (gi_sub (fun w h => (List.mem_cons_of_mem _ (List.mem_append_right _ (List.mem_append_right _ (List.mem_append_right _ (List.mem_append_right _ (List.mem_append_right _ (List.mem_append_right _ (List.mem_append_right _ (List.mem_append_right _ (List.mem_append_right _ (List.mem_append_right _ (List.mem_append_left _ h))))))))))))) zg_k340_X11_slotsHeld)) rfl rfl rfl (by decide +kernel) ⟨Nat.le_of_ble_eq_true rfl, Nat.le_of_ble_eq_true rfl⟩ 0 rfl rfl rfl rfl (Nat.le_of_ble_eq_true rfl) ⟨Nat.le_of_ble_eq_true rfl, Nat.le_of_ble_eq_true rfl⟩ dX11_count_177 (fun v ty' w' hp hk' => ?_)
    obtain ⟨y10590, rfl, rfl⟩ := hp
    show GW κ 2 0 0 (wX q d I A) 180 [(0, .ref (q 0)), (1, .int z1)] [.int y10590]
    have b10591l := Int32.le_toInt y10590
    have b10591h := Int32.toInt_lt y10590
    exact g_iret hk hR rfl ⟨y10590, rfl, rfl⟩ dX11_count_180
  by_cases c10592 : z1.toInt = 12
  · refine g_tabIn (tgt := 181) (a := 12) hk dX11_count_1 c10592 (by decide) (by decide) rfl (by decide) ?_
    refine g_aload_n hk dX11_count_181 rfl ?_
    refine gX_r0_2 hk hin11 (List.mem_cons_of_mem _ (List.mem_append_left _ (List.mem_of_getElem? (i := 0) rfl))) dX11_count_182 ?_
    refine g_iconst (v := 0) hk dX11_count_185 (by decide) ?_
    refine g_aload_n hk dX11_count_186 rfl ?_
    refine gX_r0_2 hk hin11 (List.mem_cons_of_mem _ (List.mem_append_left _ (List.mem_of_getElem? (i := 0) rfl))) dX11_count_187 ?_
    refine gX_i18 (v := (I 18)) hk hin6 (List.mem_cons_of_mem _ (List.mem_append_left _ (List.mem_of_getElem? (i := 1) rfl))) dX11_count_190 rfl ?_
    have f10593 := IvX_f18 hIv
    have k10594 : (0 : Int32).toInt = 0 := rfl
    refine g_callV (n := 2) hk (k210_X6_greatestOf l D zt q d I A 0 (I 18) hIv) (SP.same _) (fun _ h => h) (gi_V (List.mem_cons_of_mem _ (List.mem_append_left _ (List.mem_of_getElem? (i := 27) rfl))) (List.mem_cons_of_mem _ (List.mem_append_left _ (List.mem_of_getElem? (i := 28) rfl))) (List.mem_cons_of_mem _ (List.mem_append_left _ (List.mem_of_getElem? (i := 29) rfl))) (List.mem_cons_of_mem _ (List.mem_append_left _ (List.mem_of_getElem? (i := 5) rfl))) (gi_sub (fun w h => (List.mem_cons_of_mem _ (List.mem_append_right _ (List.mem_append_right _ (List.mem_append_right _ (List.mem_append_right _ (List.mem_append_right _ (List.mem_append_right _ (List.mem_append_right _ (List.mem_append_right _ (List.mem_append_right _ (List.mem_append_right _ (List.mem_append_right _ (List.mem_append_left _ h)))))))))))))) zg_k210_X6_greatestOf)) rfl rfl rfl (by decide +kernel) ⟨Nat.le_of_ble_eq_true rfl, Nat.le_of_ble_eq_true rfl⟩ 13 rfl rfl rfl rfl (Nat.le_of_ble_eq_true rfl) ⟨Nat.le_of_ble_eq_true rfl, Nat.le_of_ble_eq_true rfl⟩ dX11_count_193 (fun v ty' w' hp hk' => ?_)
    obtain ⟨y10595, c10596, rfl, rfl⟩ := hp
    show GW κ 2 0 0 (wX q d I A) 196 [(0, .ref (q 0)), (1, .int z1)] [.int y10595]
    have b10597l := Int32.le_toInt y10595
    have b10597h := Int32.toInt_lt y10595
    exact g_iret hk hR rfl ⟨y10595, rfl, rfl⟩ dX11_count_196
  by_cases c10598 : z1.toInt = 13
  · refine g_tabIn (tgt := 197) (a := 13) hk dX11_count_1 c10598 (by decide) (by decide) rfl (by decide) ?_
    refine g_aload_n hk dX11_count_197 rfl ?_
    refine gX_r0_2 hk hin11 (List.mem_cons_of_mem _ (List.mem_append_left _ (List.mem_of_getElem? (i := 0) rfl))) dX11_count_198 ?_
    refine g_iconst (v := 0) hk dX11_count_201 (by decide) ?_
    refine g_aload_n hk dX11_count_202 rfl ?_
    refine gX_r0_2 hk hin11 (List.mem_cons_of_mem _ (List.mem_append_left _ (List.mem_of_getElem? (i := 0) rfl))) dX11_count_203 ?_
    refine gX_i18 (v := (I 18)) hk hin6 (List.mem_cons_of_mem _ (List.mem_append_left _ (List.mem_of_getElem? (i := 1) rfl))) dX11_count_206 rfl ?_
    have f10599 := IvX_f18 hIv
    have k10600 : (0 : Int32).toInt = 0 := rfl
    refine g_callV (n := 2) hk (k209_X6_leastOf l D zt q d I A 0 (I 18) hIv) (SP.same _) (fun _ h => h) (gi_V (List.mem_cons_of_mem _ (List.mem_append_left _ (List.mem_of_getElem? (i := 30) rfl))) (List.mem_cons_of_mem _ (List.mem_append_left _ (List.mem_of_getElem? (i := 31) rfl))) (List.mem_cons_of_mem _ (List.mem_append_left _ (List.mem_of_getElem? (i := 32) rfl))) (List.mem_cons_of_mem _ (List.mem_append_left _ (List.mem_of_getElem? (i := 5) rfl))) (gi_sub (fun w h => (List.mem_cons_of_mem _ (List.mem_append_right _ (List.mem_append_right _ (List.mem_append_right _ (List.mem_append_right _ (List.mem_append_right _ (List.mem_append_right _ (List.mem_append_right _ (List.mem_append_right _ (List.mem_append_right _ (List.mem_append_right _ (List.mem_append_right _ (List.mem_append_right _ (List.mem_append_left _ h))))))))))))))) zg_k209_X6_leastOf)) rfl rfl rfl (by decide +kernel) ⟨Nat.le_of_ble_eq_true rfl, Nat.le_of_ble_eq_true rfl⟩ 13 rfl rfl rfl rfl (Nat.le_of_ble_eq_true rfl) ⟨Nat.le_of_ble_eq_true rfl, Nat.le_of_ble_eq_true rfl⟩ dX11_count_209 (fun v ty' w' hp hk' => ?_)
    obtain ⟨y10601, rfl, rfl⟩ := hp
    show GW κ 2 0 0 (wX q d I A) 212 [(0, .ref (q 0)), (1, .int z1)] [.int y10601]
    have b10602l := Int32.le_toInt y10601
    have b10602h := Int32.toInt_lt y10601
    exact g_iret hk hR rfl ⟨y10601, rfl, rfl⟩ dX11_count_212
  by_cases c10603 : z1.toInt = 14
  · refine g_tabIn (tgt := 213) (a := 14) hk dX11_count_1 c10603 (by decide) (by decide) rfl (by decide) ?_
    refine g_aload_n hk dX11_count_213 rfl ?_
    refine gX_r0_2 hk hin11 (List.mem_cons_of_mem _ (List.mem_append_left _ (List.mem_of_getElem? (i := 0) rfl))) dX11_count_214 ?_
    refine g_iconst (v := 0) hk dX11_count_217 (by decide) ?_
    have k10604 : (0 : Int32).toInt = 0 := rfl
    refine g_callV (n := 1) hk (k310_X6_runFrom l D zt q d I A 0 hIv) (SP.same _) (fun _ h => h) (gi_V (List.mem_cons_of_mem _ (List.mem_append_left _ (List.mem_of_getElem? (i := 33) rfl))) (List.mem_cons_of_mem _ (List.mem_append_left _ (List.mem_of_getElem? (i := 34) rfl))) (List.mem_cons_of_mem _ (List.mem_append_left _ (List.mem_of_getElem? (i := 35) rfl))) (List.mem_cons_of_mem _ (List.mem_append_left _ (List.mem_of_getElem? (i := 5) rfl))) (gi_sub (fun w h => (List.mem_cons_of_mem _ (List.mem_append_right _ (List.mem_append_right _ (List.mem_append_right _ (List.mem_append_right _ (List.mem_append_right _ (List.mem_append_right _ (List.mem_append_right _ (List.mem_append_right _ (List.mem_append_right _ (List.mem_append_right _ (List.mem_append_right _ (List.mem_append_right _ (List.mem_append_right _ (List.mem_append_left _ h)))))))))))))))) zg_k310_X6_runFrom)) rfl rfl rfl (by decide +kernel) ⟨Nat.le_of_ble_eq_true rfl, Nat.le_of_ble_eq_true rfl⟩ 13 rfl rfl rfl rfl (Nat.le_of_ble_eq_true rfl) ⟨Nat.le_of_ble_eq_true rfl, Nat.le_of_ble_eq_true rfl⟩ dX11_count_218 (fun v ty' w' hp hk' => ?_)
    obtain ⟨y10605, rfl, rfl⟩ := hp
    show GW κ 2 0 0 (wX q d I A) 221 [(0, .ref (q 0)), (1, .int z1)] [.int y10605]
    have b10606l := Int32.le_toInt y10605
    have b10606h := Int32.toInt_lt y10605
    exact g_iret hk hR rfl ⟨y10605, rfl, rfl⟩ dX11_count_221
  refine g_tabOut (tgt := 222) (a := z1.toInt) hk dX11_count_1 rfl (by omega) (by decide) ?_
  refine g_iconst (v := (-1)) hk dX11_count_222 (by decide) ?_
  exact g_iret hk hR rfl ⟨(-1), rfl, rfl⟩ dX11_count_223
