def wo_j136_X12_toldInt : List Cond := [Cond.methodLink RX12 191 yX12_goesOn, Cond.instanceMethod yX12_goesOn, Cond.selects RX12 yX12_goesOn yX12_goesOn, Cond.initialized RX12, Cond.methodLink RX12 212 yX12_bounded, Cond.instanceMethod yX12_bounded, Cond.selects RX12 yX12_bounded yX12_bounded, Cond.methodLink RX12 216 yX12_must, Cond.instanceMethod yX12_must, Cond.selects RX12 yX12_must yX12_must]
def wz_j136_X12_toldInt : List Cond := .code yX12_toldInt cX12_toldInt 4 (some .int) :: (wo_j136_X12_toldInt ++ (wz_j127_X12_goesOn ++ (wz_j133_X12_bounded ++ (wz_j131_X12_must ++ ([] : List Cond)))))
theorem zg_j136_X12_toldInt : ∀ w ∈ wz_j136_X12_toldInt, goodWord w = true := zg_cons rfl (zg_app (by decide +kernel) (zg_app zg_j127_X12_goesOn (zg_app zg_j133_X12_bounded (zg_app zg_j131_X12_must zg_nil))))
theorem zi_j136_X12_toldInt : ∀ w ∈ wz_j136_X12_toldInt, w ∈ lw_tbl := zi_cons zw_1631 (zi_app (zi_cons zw_1591 (zi_cons zw_1593 (zi_cons zw_54 (zi_cons zw_115 (zi_cons zw_1612 (zi_cons zw_1614 (zi_cons zw_59 (zi_cons zw_1620 (zi_cons zw_1622 (zi_cons zw_61 zi_nil)))))))))) (zi_app zi_j127_X12_goesOn (zi_app zi_j133_X12_bounded (zi_app zi_j131_X12_must zi_nil))))
set_option maxHeartbeats 4000000 in
set_option maxRecDepth 100000 in
theorem j136_X12_toldInt (l : Launch) (D : va_G) (zt : Nat × Nat × Nat × (Nat → Nat) × (Nat → Nat)) (r : Nat → Nat) (g : Nat → ClassId) (I : Nat → Int32) (A : Nat → Nat → Int32) (L : Nat → Nat → Int64) (z1 : Int32) (z2 : Int32) (hIv : IvM I A) : GM l D zt (tyM g) yX12_toldInt wz_j136_X12_toldInt ({ frames := 3, cells := 0, slots := 0, locals := 64 } : Room) [.ref (r 0), .int z1, .int z2] (wM r g I A L) (fun v _ w' => ∃ (I' : Nat → Int32) (A' : Nat → Nat → Int32) (L' : Nat → Nat → Int64), Md [4, 6, 7, 8, 9, 12, 13] I I' ∧ Md [] A A' ∧ IvM I' A' ∧ ∃ y0 : Int32, ((I 4).toInt ≤ (I' 4).toInt) ∧ ((I 6).toInt ≤ (I' 6).toInt) ∧ ((I 8).toInt ≤ 9 * (I' 8).toInt) ∧ ((I 4).toInt < (I' 4).toInt + (I' 6).toInt) ∧ (z1.toInt ≤ y0.toInt + 8589934592 * ((I' 6).toInt + (I' 8).toInt)) ∧ v = some (.int y0) ∧ w' = wM r g I' A' L') 0 0 := by
  refine GM.of (cc := cX12_toldInt) (maxL := 4) (ret := (some .int)) (own := RX12) (lv := [(0, .ref (r 0)), (1, .int z1), (2, .int z2)]) (by decide) rfl rfl (Nat.le_of_ble_eq_true rfl) rfl (fun κ sz hk hR hN => ?_)
  refine g_aload_n hk dX12_toldInt_0 rfl ?_
  refine g_callV (n := 0) hk (j127_X12_goesOn l D zt r g I A L  hIv) (SP.same _) (fun _ h => h) (gi_V (List.mem_cons_of_mem _ (List.mem_append_left _ (List.mem_of_getElem? (i := 0) rfl))) (List.mem_cons_of_mem _ (List.mem_append_left _ (List.mem_of_getElem? (i := 1) rfl))) (List.mem_cons_of_mem _ (List.mem_append_left _ (List.mem_of_getElem? (i := 2) rfl))) (List.mem_cons_of_mem _ (List.mem_append_left _ (List.mem_of_getElem? (i := 3) rfl))) (gi_sub (fun w h => (List.mem_cons_of_mem _ (List.mem_append_right _ (List.mem_append_left _ h)))) zg_j127_X12_goesOn)) rfl rfl rfl (by decide +kernel) ⟨Nat.le_of_ble_eq_true rfl, Nat.le_of_ble_eq_true rfl⟩ 0 rfl rfl rfl rfl (Nat.le_of_ble_eq_true rfl) ⟨Nat.le_of_ble_eq_true rfl, Nat.le_of_ble_eq_true rfl⟩ dX12_toldInt_1 (fun v ty' w' hp hk' => ?_)
  obtain ⟨I15438, A15438, L15438, hI15438, hA15438, hV15438, r15439, r15440, r15441, r15442, rfl, rfl⟩ := hp
  have f15443 := IvM_f4 hIv
  have f15444 := IvM_f4 hV15438
  have f15445 := IvM_f6 hIv
  have f15446 := IvM_f6 hV15438
  have f15447 := IvM_f8 hIv
  rw [show (I15438 8) = (I 8) from (hI15438 8 rfl)] at r15441
  show GW κ 4 0 0 (wM r g I15438 A15438 L15438) 4 [(0, .ref (r 0)), (1, .int z1), (2, .int z2)] []
  refine g_aload_n hk dX12_toldInt_4 rfl ?_
  refine g_iload_n hk dX12_toldInt_5 rfl ?_
  refine g_iload_n hk dX12_toldInt_6 rfl ?_
  refine g_callV (n := 2) hk (j133_X12_bounded l D zt r g I15438 A15438 L15438 z1 z2 hV15438) (SP.same _) (fun _ h => h) (gi_V (List.mem_cons_of_mem _ (List.mem_append_left _ (List.mem_of_getElem? (i := 4) rfl))) (List.mem_cons_of_mem _ (List.mem_append_left _ (List.mem_of_getElem? (i := 5) rfl))) (List.mem_cons_of_mem _ (List.mem_append_left _ (List.mem_of_getElem? (i := 6) rfl))) (List.mem_cons_of_mem _ (List.mem_append_left _ (List.mem_of_getElem? (i := 3) rfl))) (gi_sub (fun w h => (List.mem_cons_of_mem _ (List.mem_append_right _ (List.mem_append_right _ (List.mem_append_left _ h))))) zg_j133_X12_bounded)) rfl rfl rfl (by decide +kernel) ⟨Nat.le_of_ble_eq_true rfl, Nat.le_of_ble_eq_true rfl⟩ 0 rfl rfl rfl rfl (Nat.le_of_ble_eq_true rfl) ⟨Nat.le_of_ble_eq_true rfl, Nat.le_of_ble_eq_true rfl⟩ dX12_toldInt_7 (fun v ty' w' hp hk' => ?_)
  obtain ⟨I15449, A15449, L15449, hI15449, hA15449, hV15449, y15448, r15450, r15451, r15452, r15453, r15454, rfl, rfl⟩ := hp
  have f15455 := IvM_f4 hV15449
  have f15456 := IvM_f6 hV15449
  have f15457 := IvM_f8 hV15449
  rw [show (I15438 8) = (I 8) from (hI15438 8 rfl)] at r15452
  have b15458l := Int32.le_toInt z1
  have b15458h := Int32.toInt_lt z1
  have b15459l := Int32.le_toInt y15448
  have b15459h := Int32.toInt_lt y15448
  show GW κ 4 0 0 (wM r g I15449 A15449 L15449) 10 [(0, .ref (r 0)), (1, .int z1), (2, .int z2)] [.int y15448]
  refine g_istore_n (lv' := [(3, .int y15448), (0, .ref (r 0)), (1, .int z1), (2, .int z2)]) hk dX12_toldInt_10 (by decide) rfl ?_
  refine g_aload_n hk dX12_toldInt_11 rfl ?_
  refine g_iconst (v := 4) hk dX12_toldInt_12 (by decide) ?_
  have k15460 : (4 : Int32).toInt = 4 := rfl
  refine g_callV (n := 1) hk (j131_X12_must l D zt r g I15449 A15449 L15449 4 hV15449) (SP.same _) (fun _ h => h) (gi_V (List.mem_cons_of_mem _ (List.mem_append_left _ (List.mem_of_getElem? (i := 7) rfl))) (List.mem_cons_of_mem _ (List.mem_append_left _ (List.mem_of_getElem? (i := 8) rfl))) (List.mem_cons_of_mem _ (List.mem_append_left _ (List.mem_of_getElem? (i := 9) rfl))) (List.mem_cons_of_mem _ (List.mem_append_left _ (List.mem_of_getElem? (i := 3) rfl))) (gi_sub (fun w h => (List.mem_cons_of_mem _ (List.mem_append_right _ (List.mem_append_right _ (List.mem_append_right _ (List.mem_append_left _ h)))))) zg_j131_X12_must)) rfl rfl rfl (by decide +kernel) ⟨Nat.le_of_ble_eq_true rfl, Nat.le_of_ble_eq_true rfl⟩ 0 rfl rfl rfl rfl (Nat.le_of_ble_eq_true rfl) ⟨Nat.le_of_ble_eq_true rfl, Nat.le_of_ble_eq_true rfl⟩ dX12_toldInt_13 (fun v ty' w' hp hk' => ?_)
  obtain ⟨I15462, A15462, L15462, hI15462, hA15462, hV15462, r15463, r15464, r15465, r15466, r15467, rfl, rfl⟩ := hp
  have f15468 := IvM_f4 hV15462
  have f15469 := IvM_f6 hV15462
  rw [show (I15462 8) = (I15449 8) from (hI15462 8 rfl)] at r15465
  rw [show (A15449 2 (I15449 4).toNatClampNeg) = (A 2 (I15449 4).toNatClampNeg) from ((congrFun (hA15449 2 rfl) _).trans (congrFun (hA15438 2 rfl) _))] at r15467
  show GW κ 4 0 0 (wM r g I15462 A15462 L15462) 16 [(3, .int y15448), (0, .ref (r 0)), (1, .int z1), (2, .int z2)] []
  refine g_iload_n hk dX12_toldInt_16 rfl ?_
  exact g_iret hk hR rfl ⟨I15462, A15462, L15462, (show Md [4, 6, 7, 8, 9, 12, 13] I I15462 from (Md.tr (Md.tr (Md.tr Md.rf hI15438 rfl) hI15449 rfl) hI15462 rfl)), (show Md [] A A15462 from (Md.tr (Md.tr (Md.tr Md.rf hA15438 rfl) hA15449 rfl) hA15462 rfl)), hV15462, y15448, (by omega), (by omega), (by rw [show (I15462 8) = (I15449 8) from (hI15462 8 rfl)] <;> omega), (by omega), (by rw [show (I15462 8) = (I15449 8) from (hI15462 8 rfl)] <;> omega), rfl, rfl⟩ dX12_toldInt_17
def wo_j137_X12_toldWord : List Cond := [Cond.methodLink RX12 191 yX12_goesOn, Cond.instanceMethod yX12_goesOn, Cond.selects RX12 yX12_goesOn yX12_goesOn, Cond.initialized RX12, Cond.fieldLink RX12 161 "WarpDeskModel" "fault" "I", Cond.fieldLink RX12 20 "WarpDeskModel" "tKind" "[I", Cond.fieldLink RX12 164 "WarpDeskModel" "t" "I", Cond.methodLink RX12 185 yX12_fail, Cond.instanceMethod yX12_fail, Cond.selects RX12 yX12_fail yX12_fail, Cond.methodLink RX12 216 yX12_must, Cond.instanceMethod yX12_must, Cond.selects RX12 yX12_must yX12_must]
def wz_j137_X12_toldWord : List Cond := .code yX12_toldWord cX12_toldWord 4 (some .int) :: (wo_j137_X12_toldWord ++ (wsX120 ++ (wz_j127_X12_goesOn ++ (wz_j128_X12_fail ++ (wz_j131_X12_must ++ ([] : List Cond))))))
theorem zg_j137_X12_toldWord : ∀ w ∈ wz_j137_X12_toldWord, goodWord w = true := zg_cons rfl (zg_app (by decide +kernel) (zg_app zgU_wsX120 (zg_app zg_j127_X12_goesOn (zg_app zg_j128_X12_fail (zg_app zg_j131_X12_must zg_nil)))))
theorem zi_j137_X12_toldWord : ∀ w ∈ wz_j137_X12_toldWord, w ∈ lw_tbl := zi_cons zw_1635 (zi_app (zi_cons zw_1591 (zi_cons zw_1593 (zi_cons zw_54 (zi_cons zw_115 (zi_cons zw_1391 (zi_cons zw_1384 (zi_cons zw_1390 (zi_cons zw_1595 (zi_cons zw_1597 (zi_cons zw_55 (zi_cons zw_1620 (zi_cons zw_1622 (zi_cons zw_61 zi_nil))))))))))))) (zi_app inX12 (zi_app zi_j127_X12_goesOn (zi_app zi_j128_X12_fail (zi_app zi_j131_X12_must zi_nil)))))
set_option maxHeartbeats 4000000 in
set_option maxRecDepth 100000 in
theorem j137_X12_toldWord (l : Launch) (D : va_G) (zt : Nat × Nat × Nat × (Nat → Nat) × (Nat → Nat)) (r : Nat → Nat) (g : Nat → ClassId) (I : Nat → Int32) (A : Nat → Nat → Int32) (L : Nat → Nat → Int64) (z1 : Int32) (z2 : Int32) (hIv : IvM I A) : GM l D zt (tyM g) yX12_toldWord wz_j137_X12_toldWord ({ frames := 3, cells := 0, slots := 0, locals := 62 } : Room) [.ref (r 0), .int z1, .int z2] (wM r g I A L) (fun v _ w' => ∃ (I' : Nat → Int32) (A' : Nat → Nat → Int32) (L' : Nat → Nat → Int64), Md [4, 6, 7, 12] I I' ∧ Md [] A A' ∧ IvM I' A' ∧ ∃ y0 : Int32, ((I 4).toInt ≤ (I' 4).toInt) ∧ ((I 6).toInt ≤ (I' 6).toInt) ∧ ((I 8).toInt ≤ 9 * (I' 8).toInt) ∧ ((I 4).toInt < (I' 4).toInt + (I' 6).toInt) ∧ v = some (.int y0) ∧ w' = wM r g I' A' L') 0 0 := by
  refine GM.of (cc := cX12_toldWord) (maxL := 4) (ret := (some .int)) (own := RX12) (lv := [(0, .ref (r 0)), (1, .int z1), (2, .int z2)]) (by decide) rfl rfl (Nat.le_of_ble_eq_true rfl) rfl (fun κ sz hk hR hN => ?_)
  have hin12 : ∀ w ∈ u_ws RX12 TX12 55, w ∈ wz_j137_X12_toldWord := fun w h => (List.mem_cons_of_mem _ (List.mem_append_right _ (List.mem_append_left _ h)))
  refine g_aload_n hk dX12_toldWord_0 rfl ?_
  refine g_callV (n := 0) hk (j127_X12_goesOn l D zt r g I A L  hIv) (SP.same _) (fun _ h => h) (gi_V (List.mem_cons_of_mem _ (List.mem_append_left _ (List.mem_of_getElem? (i := 0) rfl))) (List.mem_cons_of_mem _ (List.mem_append_left _ (List.mem_of_getElem? (i := 1) rfl))) (List.mem_cons_of_mem _ (List.mem_append_left _ (List.mem_of_getElem? (i := 2) rfl))) (List.mem_cons_of_mem _ (List.mem_append_left _ (List.mem_of_getElem? (i := 3) rfl))) (gi_sub (fun w h => (List.mem_cons_of_mem _ (List.mem_append_right _ (List.mem_append_right _ (List.mem_append_left _ h))))) zg_j127_X12_goesOn)) rfl rfl rfl (by decide +kernel) ⟨Nat.le_of_ble_eq_true rfl, Nat.le_of_ble_eq_true rfl⟩ 0 rfl rfl rfl rfl (Nat.le_of_ble_eq_true rfl) ⟨Nat.le_of_ble_eq_true rfl, Nat.le_of_ble_eq_true rfl⟩ dX12_toldWord_1 (fun v ty' w' hp hk' => ?_)
  obtain ⟨I15505, A15505, L15505, hI15505, hA15505, hV15505, r15506, r15507, r15508, r15509, rfl, rfl⟩ := hp
  have f15510 := IvM_f4 hIv
  have f15511 := IvM_f4 hV15505
  have f15512 := IvM_f6 hIv
  have f15513 := IvM_f6 hV15505
  have f15514 := IvM_f8 hIv
  rw [show (I15505 8) = (I 8) from (hI15505 8 rfl)] at r15508
  show GW κ 4 0 0 (wM r g I15505 A15505 L15505) 4 [(0, .ref (r 0)), (1, .int z1), (2, .int z2)] []
  refine g_aload_n hk dX12_toldWord_4 rfl ?_
  refine gM_i6 (v := (I15505 6)) hk hin12 (List.mem_cons_of_mem _ (List.mem_append_left _ (List.mem_of_getElem? (i := 4) rfl))) dX12_toldWord_5 rfl ?_
  refine g_if_le (tgt := 15) (a := (I15505 6).toInt) hk dX12_toldWord_8 (by decide) rfl (fun c15515 => ?_) (fun c15515 => ?_)
  · skip
    refine g_aload_n hk dX12_toldWord_15 rfl ?_
    refine gM_r0_5 hk hin12 (List.mem_cons_of_mem _ (List.mem_append_left _ (List.mem_of_getElem? (i := 5) rfl))) dX12_toldWord_16 ?_
    refine g_aload_n hk dX12_toldWord_19 rfl ?_
    refine gM_i4 (v := (I15505 4)) hk hin12 (List.mem_cons_of_mem _ (List.mem_append_left _ (List.mem_of_getElem? (i := 6) rfl))) dX12_toldWord_20 rfl ?_
    refine lM_2 (v := (A 2 (I15505 4).toNatClampNeg)) hk (vp_in_iff.mpr ⟨by omega, by omega⟩) (congrFun (hA15505 2 rfl) _) dX12_toldWord_23 ?_
    refine g_iload_n hk dX12_toldWord_24 rfl ?_
    have b15516l := Int32.le_toInt (A 2 (I15505 4).toNatClampNeg)
    have b15516h := Int32.toInt_lt (A 2 (I15505 4).toNatClampNeg)
    have b15517l := Int32.le_toInt z1
    have b15517h := Int32.toInt_lt z1
    refine g_isub hk dX12_toldWord_25 ?_
    refine g_topi (fun y15518 ey15518 => ?_)
    have hy15518 := i32_sub0 ey15518
    refine g_istore_n (lv' := [(3, .int y15518), (0, .ref (r 0)), (1, .int z1), (2, .int z2)]) hk dX12_toldWord_26 (by decide) rfl ?_
    refine g_iload_n hk dX12_toldWord_27 rfl ?_
    have b15519l := Int32.le_toInt y15518
    have b15519h := Int32.toInt_lt y15518
    refine g_if_lt (tgt := 36) (a := y15518.toInt) hk dX12_toldWord_28 (by decide) rfl (fun c15520 => ?_) (fun c15520 => ?_)
    · skip
      refine g_aload_n hk dX12_toldWord_36 rfl ?_
      refine g_iconst (v := 1) hk dX12_toldWord_37 (by decide) ?_
      have k15521 : (1 : Int32).toInt = 1 := rfl
      refine g_callV (n := 1) hk (j128_X12_fail l D zt r g I15505 A15505 L15505 1 hV15505 (by decide) (by decide)) (SP.same _) (fun _ h => h) (gi_V (List.mem_cons_of_mem _ (List.mem_append_left _ (List.mem_of_getElem? (i := 7) rfl))) (List.mem_cons_of_mem _ (List.mem_append_left _ (List.mem_of_getElem? (i := 8) rfl))) (List.mem_cons_of_mem _ (List.mem_append_left _ (List.mem_of_getElem? (i := 9) rfl))) (List.mem_cons_of_mem _ (List.mem_append_left _ (List.mem_of_getElem? (i := 3) rfl))) (gi_sub (fun w h => (List.mem_cons_of_mem _ (List.mem_append_right _ (List.mem_append_right _ (List.mem_append_right _ (List.mem_append_left _ h)))))) zg_j128_X12_fail)) rfl rfl rfl (by decide +kernel) ⟨Nat.le_of_ble_eq_true rfl, Nat.le_of_ble_eq_true rfl⟩ 0 rfl rfl rfl rfl (Nat.le_of_ble_eq_true rfl) ⟨Nat.le_of_ble_eq_true rfl, Nat.le_of_ble_eq_true rfl⟩ dX12_toldWord_38 (fun v ty' w' hp hk' => ?_)
      obtain ⟨I15523, A15523, L15523, hI15523, hA15523, hV15523, r15524, r15525, r15526, rfl, rfl⟩ := hp
      have f15527 := IvM_f6 hV15523
      rw [show (I15505 8) = (I 8) from (hI15505 8 rfl), show (I15523 8) = (I 8) from ((hI15523 8 rfl).trans (hI15505 8 rfl))] at r15525
      show GW κ 4 0 0 (wM r g I15523 A15523 L15523) 41 [(3, .int y15518), (0, .ref (r 0)), (1, .int z1), (2, .int z2)] []
      refine g_aload_n hk dX12_toldWord_41 rfl ?_
      refine gM_i6 (v := (I15523 6)) hk hin12 (List.mem_cons_of_mem _ (List.mem_append_left _ (List.mem_of_getElem? (i := 4) rfl))) dX12_toldWord_42 rfl ?_
      refine g_if_ne (tgt := 52) (a := (I15523 6).toInt) hk dX12_toldWord_45 (by decide) rfl (fun c15528 => ?_) (fun c15528 => ?_)
      · skip
        refine g_aload_n hk dX12_toldWord_52 rfl ?_
        refine g_iconst (v := 4) hk dX12_toldWord_53 (by decide) ?_
        have k15529 : (4 : Int32).toInt = 4 := rfl
        refine g_callV (n := 1) hk (j131_X12_must l D zt r g I15523 A15523 L15523 4 hV15523) (SP.same _) (fun _ h => h) (gi_V (List.mem_cons_of_mem _ (List.mem_append_left _ (List.mem_of_getElem? (i := 10) rfl))) (List.mem_cons_of_mem _ (List.mem_append_left _ (List.mem_of_getElem? (i := 11) rfl))) (List.mem_cons_of_mem _ (List.mem_append_left _ (List.mem_of_getElem? (i := 12) rfl))) (List.mem_cons_of_mem _ (List.mem_append_left _ (List.mem_of_getElem? (i := 3) rfl))) (gi_sub (fun w h => (List.mem_cons_of_mem _ (List.mem_append_right _ (List.mem_append_right _ (List.mem_append_right _ (List.mem_append_right _ (List.mem_append_left _ h))))))) zg_j131_X12_must)) rfl rfl rfl (by decide +kernel) ⟨Nat.le_of_ble_eq_true rfl, Nat.le_of_ble_eq_true rfl⟩ 0 rfl rfl rfl rfl (Nat.le_of_ble_eq_true rfl) ⟨Nat.le_of_ble_eq_true rfl, Nat.le_of_ble_eq_true rfl⟩ dX12_toldWord_54 (fun v ty' w' hp hk' => ?_)
        obtain ⟨I15531, A15531, L15531, hI15531, hA15531, hV15531, r15532, r15533, r15534, r15535, r15536, rfl, rfl⟩ := hp
        have f15537 := IvM_f4 hV15531
        rw [show (I15523 4) = (I15505 4) from (hI15523 4 rfl)] at r15532
        have f15538 := IvM_f6 hV15531
        rw [show (I15523 8) = (I 8) from ((hI15523 8 rfl).trans (hI15505 8 rfl)), show (I15531 8) = (I 8) from ((hI15531 8 rfl).trans ((hI15523 8 rfl).trans (hI15505 8 rfl)))] at r15534
        rw [show (I15523 4) = (I15505 4) from (hI15523 4 rfl)] at r15535
        rw [show (A15523 2 (I15523 4).toNatClampNeg) = (A 2 (I15505 4).toNatClampNeg) from (by rw [show I15523 4 = (I15505 4) from (hI15523 4 rfl)]; exact ((congrFun (hA15523 2 rfl) _).trans (congrFun (hA15505 2 rfl) _)))] at r15536
        show GW κ 4 0 0 (wM r g I15531 A15531 L15531) 57 [(3, .int y15518), (0, .ref (r 0)), (1, .int z1), (2, .int z2)] []
        refine g_iload_n hk dX12_toldWord_57 rfl ?_
        exact g_iret hk hR rfl ⟨I15531, A15531, L15531, (show Md [4, 6, 7, 12] I I15531 from (Md.tr (Md.tr (Md.tr Md.rf hI15505 rfl) hI15523 rfl) hI15531 rfl)), (show Md [] A A15531 from (Md.tr (Md.tr (Md.tr Md.rf hA15505 rfl) hA15523 rfl) hA15531 rfl)), hV15531, y15518, (by omega), (by omega), (by rw [show (I15531 8) = (I 8) from ((hI15531 8 rfl).trans ((hI15523 8 rfl).trans (hI15505 8 rfl)))] <;> omega), (by omega), rfl, rfl⟩ dX12_toldWord_58
      · skip
        refine g_aload_n hk dX12_toldWord_48 rfl ?_
        refine g_callV (n := 0) hk (j127_X12_goesOn l D zt r g I15523 A15523 L15523  hV15523) (SP.same _) (fun _ h => h) (gi_V (List.mem_cons_of_mem _ (List.mem_append_left _ (List.mem_of_getElem? (i := 0) rfl))) (List.mem_cons_of_mem _ (List.mem_append_left _ (List.mem_of_getElem? (i := 1) rfl))) (List.mem_cons_of_mem _ (List.mem_append_left _ (List.mem_of_getElem? (i := 2) rfl))) (List.mem_cons_of_mem _ (List.mem_append_left _ (List.mem_of_getElem? (i := 3) rfl))) (gi_sub (fun w h => (List.mem_cons_of_mem _ (List.mem_append_right _ (List.mem_append_right _ (List.mem_append_left _ h))))) zg_j127_X12_goesOn)) rfl rfl rfl (by decide +kernel) ⟨Nat.le_of_ble_eq_true rfl, Nat.le_of_ble_eq_true rfl⟩ 0 rfl rfl rfl rfl (Nat.le_of_ble_eq_true rfl) ⟨Nat.le_of_ble_eq_true rfl, Nat.le_of_ble_eq_true rfl⟩ dX12_toldWord_49 (fun v ty' w' hp hk' => ?_)
        obtain ⟨I15540, A15540, L15540, hI15540, hA15540, hV15540, r15541, r15542, r15543, r15544, rfl, rfl⟩ := hp
        have f15545 := IvM_f4 hV15540
        rw [show (I15523 4) = (I15505 4) from (hI15523 4 rfl)] at r15541
        have f15546 := IvM_f6 hV15540
        rw [show (I15523 8) = (I 8) from ((hI15523 8 rfl).trans (hI15505 8 rfl)), show (I15540 8) = (I 8) from ((hI15540 8 rfl).trans ((hI15523 8 rfl).trans (hI15505 8 rfl)))] at r15543
        rw [show (I15523 4) = (I15505 4) from (hI15523 4 rfl)] at r15544
        show GW κ 4 0 0 (wM r g I15540 A15540 L15540) 52 [(3, .int y15518), (0, .ref (r 0)), (1, .int z1), (2, .int z2)] []
        refine g_aload_n hk dX12_toldWord_52 rfl ?_
        refine g_iconst (v := 4) hk dX12_toldWord_53 (by decide) ?_
        have k15547 : (4 : Int32).toInt = 4 := rfl
        refine g_callV (n := 1) hk (j131_X12_must l D zt r g I15540 A15540 L15540 4 hV15540) (SP.same _) (fun _ h => h) (gi_V (List.mem_cons_of_mem _ (List.mem_append_left _ (List.mem_of_getElem? (i := 10) rfl))) (List.mem_cons_of_mem _ (List.mem_append_left _ (List.mem_of_getElem? (i := 11) rfl))) (List.mem_cons_of_mem _ (List.mem_append_left _ (List.mem_of_getElem? (i := 12) rfl))) (List.mem_cons_of_mem _ (List.mem_append_left _ (List.mem_of_getElem? (i := 3) rfl))) (gi_sub (fun w h => (List.mem_cons_of_mem _ (List.mem_append_right _ (List.mem_append_right _ (List.mem_append_right _ (List.mem_append_right _ (List.mem_append_left _ h))))))) zg_j131_X12_must)) rfl rfl rfl (by decide +kernel) ⟨Nat.le_of_ble_eq_true rfl, Nat.le_of_ble_eq_true rfl⟩ 0 rfl rfl rfl rfl (Nat.le_of_ble_eq_true rfl) ⟨Nat.le_of_ble_eq_true rfl, Nat.le_of_ble_eq_true rfl⟩ dX12_toldWord_54 (fun v ty' w' hp hk' => ?_)
        obtain ⟨I15549, A15549, L15549, hI15549, hA15549, hV15549, r15550, r15551, r15552, r15553, r15554, rfl, rfl⟩ := hp
        have f15555 := IvM_f4 hV15549
        have f15556 := IvM_f6 hV15549
        rw [show (I15540 8) = (I 8) from ((hI15540 8 rfl).trans ((hI15523 8 rfl).trans (hI15505 8 rfl))), show (I15549 8) = (I 8) from ((hI15549 8 rfl).trans ((hI15540 8 rfl).trans ((hI15523 8 rfl).trans (hI15505 8 rfl))))] at r15552
        rw [show (A15540 2 (I15540 4).toNatClampNeg) = (A 2 (I15540 4).toNatClampNeg) from ((congrFun (hA15540 2 rfl) _).trans ((congrFun (hA15523 2 rfl) _).trans (congrFun (hA15505 2 rfl) _)))] at r15554
        show GW κ 4 0 0 (wM r g I15549 A15549 L15549) 57 [(3, .int y15518), (0, .ref (r 0)), (1, .int z1), (2, .int z2)] []
        refine g_iload_n hk dX12_toldWord_57 rfl ?_
        exact g_iret hk hR rfl ⟨I15549, A15549, L15549, (show Md [4, 6, 7, 12] I I15549 from (Md.tr (Md.tr (Md.tr (Md.tr Md.rf hI15505 rfl) hI15523 rfl) hI15540 rfl) hI15549 rfl)), (show Md [] A A15549 from (Md.tr (Md.tr (Md.tr (Md.tr Md.rf hA15505 rfl) hA15523 rfl) hA15540 rfl) hA15549 rfl)), hV15549, y15518, (by omega), (by omega), (by rw [show (I15549 8) = (I 8) from ((hI15549 8 rfl).trans ((hI15540 8 rfl).trans ((hI15523 8 rfl).trans (hI15505 8 rfl))))] <;> omega), (by omega), rfl, rfl⟩ dX12_toldWord_58
    · skip
      refine g_iload_n hk dX12_toldWord_31 rfl ?_
      refine g_iload_n hk dX12_toldWord_32 rfl ?_
      have b15557l := Int32.le_toInt z2
      have b15557h := Int32.toInt_lt z2
      refine g_icmp_lt (tgt := 41) (a := y15518.toInt) (b := z2.toInt) hk dX12_toldWord_33 (by decide) rfl rfl (fun c15558 => ?_) (fun c15558 => ?_)
      · skip
        refine g_aload_n hk dX12_toldWord_41 rfl ?_
        refine gM_i6 (v := (I15505 6)) hk hin12 (List.mem_cons_of_mem _ (List.mem_append_left _ (List.mem_of_getElem? (i := 4) rfl))) dX12_toldWord_42 rfl ?_
        refine g_if_ne (tgt := 52) (a := (I15505 6).toInt) hk dX12_toldWord_45 (by decide) rfl (fun z9 => absurd z9 (show ¬ ((I15505 6).toInt ≠ 0) from by omega)) (fun _ => ?_)
        refine g_aload_n hk dX12_toldWord_48 rfl ?_
        refine g_callV (n := 0) hk (j127_X12_goesOn l D zt r g I15505 A15505 L15505  hV15505) (SP.same _) (fun _ h => h) (gi_V (List.mem_cons_of_mem _ (List.mem_append_left _ (List.mem_of_getElem? (i := 0) rfl))) (List.mem_cons_of_mem _ (List.mem_append_left _ (List.mem_of_getElem? (i := 1) rfl))) (List.mem_cons_of_mem _ (List.mem_append_left _ (List.mem_of_getElem? (i := 2) rfl))) (List.mem_cons_of_mem _ (List.mem_append_left _ (List.mem_of_getElem? (i := 3) rfl))) (gi_sub (fun w h => (List.mem_cons_of_mem _ (List.mem_append_right _ (List.mem_append_right _ (List.mem_append_left _ h))))) zg_j127_X12_goesOn)) rfl rfl rfl (by decide +kernel) ⟨Nat.le_of_ble_eq_true rfl, Nat.le_of_ble_eq_true rfl⟩ 0 rfl rfl rfl rfl (Nat.le_of_ble_eq_true rfl) ⟨Nat.le_of_ble_eq_true rfl, Nat.le_of_ble_eq_true rfl⟩ dX12_toldWord_49 (fun v ty' w' hp hk' => ?_)
        obtain ⟨I15560, A15560, L15560, hI15560, hA15560, hV15560, r15561, r15562, r15563, r15564, rfl, rfl⟩ := hp
        have f15565 := IvM_f4 hV15560
        have f15566 := IvM_f6 hV15560
        rw [show (I15505 8) = (I 8) from (hI15505 8 rfl), show (I15560 8) = (I 8) from ((hI15560 8 rfl).trans (hI15505 8 rfl))] at r15563
        show GW κ 4 0 0 (wM r g I15560 A15560 L15560) 52 [(3, .int y15518), (0, .ref (r 0)), (1, .int z1), (2, .int z2)] []
        refine g_aload_n hk dX12_toldWord_52 rfl ?_
        refine g_iconst (v := 4) hk dX12_toldWord_53 (by decide) ?_
        have k15567 : (4 : Int32).toInt = 4 := rfl
        refine g_callV (n := 1) hk (j131_X12_must l D zt r g I15560 A15560 L15560 4 hV15560) (SP.same _) (fun _ h => h) (gi_V (List.mem_cons_of_mem _ (List.mem_append_left _ (List.mem_of_getElem? (i := 10) rfl))) (List.mem_cons_of_mem _ (List.mem_append_left _ (List.mem_of_getElem? (i := 11) rfl))) (List.mem_cons_of_mem _ (List.mem_append_left _ (List.mem_of_getElem? (i := 12) rfl))) (List.mem_cons_of_mem _ (List.mem_append_left _ (List.mem_of_getElem? (i := 3) rfl))) (gi_sub (fun w h => (List.mem_cons_of_mem _ (List.mem_append_right _ (List.mem_append_right _ (List.mem_append_right _ (List.mem_append_right _ (List.mem_append_left _ h))))))) zg_j131_X12_must)) rfl rfl rfl (by decide +kernel) ⟨Nat.le_of_ble_eq_true rfl, Nat.le_of_ble_eq_true rfl⟩ 0 rfl rfl rfl rfl (Nat.le_of_ble_eq_true rfl) ⟨Nat.le_of_ble_eq_true rfl, Nat.le_of_ble_eq_true rfl⟩ dX12_toldWord_54 (fun v ty' w' hp hk' => ?_)
        obtain ⟨I15569, A15569, L15569, hI15569, hA15569, hV15569, r15570, r15571, r15572, r15573, r15574, rfl, rfl⟩ := hp
        have f15575 := IvM_f4 hV15569
        have f15576 := IvM_f6 hV15569
        rw [show (I15560 8) = (I 8) from ((hI15560 8 rfl).trans (hI15505 8 rfl)), show (I15569 8) = (I 8) from ((hI15569 8 rfl).trans ((hI15560 8 rfl).trans (hI15505 8 rfl)))] at r15572
        rw [show (A15560 2 (I15560 4).toNatClampNeg) = (A 2 (I15560 4).toNatClampNeg) from ((congrFun (hA15560 2 rfl) _).trans (congrFun (hA15505 2 rfl) _))] at r15574
        show GW κ 4 0 0 (wM r g I15569 A15569 L15569) 57 [(3, .int y15518), (0, .ref (r 0)), (1, .int z1), (2, .int z2)] []
        refine g_iload_n hk dX12_toldWord_57 rfl ?_
        exact g_iret hk hR rfl ⟨I15569, A15569, L15569, (show Md [4, 6, 7, 12] I I15569 from (Md.tr (Md.tr (Md.tr Md.rf hI15505 rfl) hI15560 rfl) hI15569 rfl)), (show Md [] A A15569 from (Md.tr (Md.tr (Md.tr Md.rf hA15505 rfl) hA15560 rfl) hA15569 rfl)), hV15569, y15518, (by omega), (by omega), (by rw [show (I15569 8) = (I 8) from ((hI15569 8 rfl).trans ((hI15560 8 rfl).trans (hI15505 8 rfl)))] <;> omega), (by omega), rfl, rfl⟩ dX12_toldWord_58
      · skip
        refine g_aload_n hk dX12_toldWord_36 rfl ?_
        refine g_iconst (v := 1) hk dX12_toldWord_37 (by decide) ?_
        have k15577 : (1 : Int32).toInt = 1 := rfl
        refine g_callV (n := 1) hk (j128_X12_fail l D zt r g I15505 A15505 L15505 1 hV15505 (by decide) (by decide)) (SP.same _) (fun _ h => h) (gi_V (List.mem_cons_of_mem _ (List.mem_append_left _ (List.mem_of_getElem? (i := 7) rfl))) (List.mem_cons_of_mem _ (List.mem_append_left _ (List.mem_of_getElem? (i := 8) rfl))) (List.mem_cons_of_mem _ (List.mem_append_left _ (List.mem_of_getElem? (i := 9) rfl))) (List.mem_cons_of_mem _ (List.mem_append_left _ (List.mem_of_getElem? (i := 3) rfl))) (gi_sub (fun w h => (List.mem_cons_of_mem _ (List.mem_append_right _ (List.mem_append_right _ (List.mem_append_right _ (List.mem_append_left _ h)))))) zg_j128_X12_fail)) rfl rfl rfl (by decide +kernel) ⟨Nat.le_of_ble_eq_true rfl, Nat.le_of_ble_eq_true rfl⟩ 0 rfl rfl rfl rfl (Nat.le_of_ble_eq_true rfl) ⟨Nat.le_of_ble_eq_true rfl, Nat.le_of_ble_eq_true rfl⟩ dX12_toldWord_38 (fun v ty' w' hp hk' => ?_)
        obtain ⟨I15579, A15579, L15579, hI15579, hA15579, hV15579, r15580, r15581, r15582, rfl, rfl⟩ := hp
        have f15583 := IvM_f6 hV15579
        rw [show (I15505 8) = (I 8) from (hI15505 8 rfl), show (I15579 8) = (I 8) from ((hI15579 8 rfl).trans (hI15505 8 rfl))] at r15581
        show GW κ 4 0 0 (wM r g I15579 A15579 L15579) 41 [(3, .int y15518), (0, .ref (r 0)), (1, .int z1), (2, .int z2)] []
        refine g_aload_n hk dX12_toldWord_41 rfl ?_
        refine gM_i6 (v := (I15579 6)) hk hin12 (List.mem_cons_of_mem _ (List.mem_append_left _ (List.mem_of_getElem? (i := 4) rfl))) dX12_toldWord_42 rfl ?_
        refine g_if_ne (tgt := 52) (a := (I15579 6).toInt) hk dX12_toldWord_45 (by decide) rfl (fun c15584 => ?_) (fun c15584 => ?_)
        · skip
          refine g_aload_n hk dX12_toldWord_52 rfl ?_
          refine g_iconst (v := 4) hk dX12_toldWord_53 (by decide) ?_
          have k15585 : (4 : Int32).toInt = 4 := rfl
          refine g_callV (n := 1) hk (j131_X12_must l D zt r g I15579 A15579 L15579 4 hV15579) (SP.same _) (fun _ h => h) (gi_V (List.mem_cons_of_mem _ (List.mem_append_left _ (List.mem_of_getElem? (i := 10) rfl))) (List.mem_cons_of_mem _ (List.mem_append_left _ (List.mem_of_getElem? (i := 11) rfl))) (List.mem_cons_of_mem _ (List.mem_append_left _ (List.mem_of_getElem? (i := 12) rfl))) (List.mem_cons_of_mem _ (List.mem_append_left _ (List.mem_of_getElem? (i := 3) rfl))) (gi_sub (fun w h => (List.mem_cons_of_mem _ (List.mem_append_right _ (List.mem_append_right _ (List.mem_append_right _ (List.mem_append_right _ (List.mem_append_left _ h))))))) zg_j131_X12_must)) rfl rfl rfl (by decide +kernel) ⟨Nat.le_of_ble_eq_true rfl, Nat.le_of_ble_eq_true rfl⟩ 0 rfl rfl rfl rfl (Nat.le_of_ble_eq_true rfl) ⟨Nat.le_of_ble_eq_true rfl, Nat.le_of_ble_eq_true rfl⟩ dX12_toldWord_54 (fun v ty' w' hp hk' => ?_)
          obtain ⟨I15587, A15587, L15587, hI15587, hA15587, hV15587, r15588, r15589, r15590, r15591, r15592, rfl, rfl⟩ := hp
          have f15593 := IvM_f4 hV15587
          rw [show (I15579 4) = (I15505 4) from (hI15579 4 rfl)] at r15588
          have f15594 := IvM_f6 hV15587
          rw [show (I15579 8) = (I 8) from ((hI15579 8 rfl).trans (hI15505 8 rfl)), show (I15587 8) = (I 8) from ((hI15587 8 rfl).trans ((hI15579 8 rfl).trans (hI15505 8 rfl)))] at r15590
          rw [show (I15579 4) = (I15505 4) from (hI15579 4 rfl)] at r15591
          rw [show (A15579 2 (I15579 4).toNatClampNeg) = (A 2 (I15505 4).toNatClampNeg) from (by rw [show I15579 4 = (I15505 4) from (hI15579 4 rfl)]; exact ((congrFun (hA15579 2 rfl) _).trans (congrFun (hA15505 2 rfl) _)))] at r15592
          show GW κ 4 0 0 (wM r g I15587 A15587 L15587) 57 [(3, .int y15518), (0, .ref (r 0)), (1, .int z1), (2, .int z2)] []
          refine g_iload_n hk dX12_toldWord_57 rfl ?_
          exact g_iret hk hR rfl ⟨I15587, A15587, L15587, (show Md [4, 6, 7, 12] I I15587 from (Md.tr (Md.tr (Md.tr Md.rf hI15505 rfl) hI15579 rfl) hI15587 rfl)), (show Md [] A A15587 from (Md.tr (Md.tr (Md.tr Md.rf hA15505 rfl) hA15579 rfl) hA15587 rfl)), hV15587, y15518, (by omega), (by omega), (by rw [show (I15587 8) = (I 8) from ((hI15587 8 rfl).trans ((hI15579 8 rfl).trans (hI15505 8 rfl)))] <;> omega), (by omega), rfl, rfl⟩ dX12_toldWord_58
        · skip
          refine g_aload_n hk dX12_toldWord_48 rfl ?_
          refine g_callV (n := 0) hk (j127_X12_goesOn l D zt r g I15579 A15579 L15579  hV15579) (SP.same _) (fun _ h => h) (gi_V (List.mem_cons_of_mem _ (List.mem_append_left _ (List.mem_of_getElem? (i := 0) rfl))) (List.mem_cons_of_mem _ (List.mem_append_left _ (List.mem_of_getElem? (i := 1) rfl))) (List.mem_cons_of_mem _ (List.mem_append_left _ (List.mem_of_getElem? (i := 2) rfl))) (List.mem_cons_of_mem _ (List.mem_append_left _ (List.mem_of_getElem? (i := 3) rfl))) (gi_sub (fun w h => (List.mem_cons_of_mem _ (List.mem_append_right _ (List.mem_append_right _ (List.mem_append_left _ h))))) zg_j127_X12_goesOn)) rfl rfl rfl (by decide +kernel) ⟨Nat.le_of_ble_eq_true rfl, Nat.le_of_ble_eq_true rfl⟩ 0 rfl rfl rfl rfl (Nat.le_of_ble_eq_true rfl) ⟨Nat.le_of_ble_eq_true rfl, Nat.le_of_ble_eq_true rfl⟩ dX12_toldWord_49 (fun v ty' w' hp hk' => ?_)
          obtain ⟨I15596, A15596, L15596, hI15596, hA15596, hV15596, r15597, r15598, r15599, r15600, rfl, rfl⟩ := hp
          have f15601 := IvM_f4 hV15596
          rw [show (I15579 4) = (I15505 4) from (hI15579 4 rfl)] at r15597
          have f15602 := IvM_f6 hV15596
          rw [show (I15579 8) = (I 8) from ((hI15579 8 rfl).trans (hI15505 8 rfl)), show (I15596 8) = (I 8) from ((hI15596 8 rfl).trans ((hI15579 8 rfl).trans (hI15505 8 rfl)))] at r15599
          rw [show (I15579 4) = (I15505 4) from (hI15579 4 rfl)] at r15600
          show GW κ 4 0 0 (wM r g I15596 A15596 L15596) 52 [(3, .int y15518), (0, .ref (r 0)), (1, .int z1), (2, .int z2)] []
          refine g_aload_n hk dX12_toldWord_52 rfl ?_
          refine g_iconst (v := 4) hk dX12_toldWord_53 (by decide) ?_
          have k15603 : (4 : Int32).toInt = 4 := rfl
          refine g_callV (n := 1) hk (j131_X12_must l D zt r g I15596 A15596 L15596 4 hV15596) (SP.same _) (fun _ h => h) (gi_V (List.mem_cons_of_mem _ (List.mem_append_left _ (List.mem_of_getElem? (i := 10) rfl))) (List.mem_cons_of_mem _ (List.mem_append_left _ (List.mem_of_getElem? (i := 11) rfl))) (List.mem_cons_of_mem _ (List.mem_append_left _ (List.mem_of_getElem? (i := 12) rfl))) (List.mem_cons_of_mem _ (List.mem_append_left _ (List.mem_of_getElem? (i := 3) rfl))) (gi_sub (fun w h => (List.mem_cons_of_mem _ (List.mem_append_right _ (List.mem_append_right _ (List.mem_append_right _ (List.mem_append_right _ (List.mem_append_left _ h))))))) zg_j131_X12_must)) rfl rfl rfl (by decide +kernel) ⟨Nat.le_of_ble_eq_true rfl, Nat.le_of_ble_eq_true rfl⟩ 0 rfl rfl rfl rfl (Nat.le_of_ble_eq_true rfl) ⟨Nat.le_of_ble_eq_true rfl, Nat.le_of_ble_eq_true rfl⟩ dX12_toldWord_54 (fun v ty' w' hp hk' => ?_)
          obtain ⟨I15605, A15605, L15605, hI15605, hA15605, hV15605, r15606, r15607, r15608, r15609, r15610, rfl, rfl⟩ := hp
          have f15611 := IvM_f4 hV15605
          have f15612 := IvM_f6 hV15605
          rw [show (I15596 8) = (I 8) from ((hI15596 8 rfl).trans ((hI15579 8 rfl).trans (hI15505 8 rfl))), show (I15605 8) = (I 8) from ((hI15605 8 rfl).trans ((hI15596 8 rfl).trans ((hI15579 8 rfl).trans (hI15505 8 rfl))))] at r15608
          rw [show (A15596 2 (I15596 4).toNatClampNeg) = (A 2 (I15596 4).toNatClampNeg) from ((congrFun (hA15596 2 rfl) _).trans ((congrFun (hA15579 2 rfl) _).trans (congrFun (hA15505 2 rfl) _)))] at r15610
          show GW κ 4 0 0 (wM r g I15605 A15605 L15605) 57 [(3, .int y15518), (0, .ref (r 0)), (1, .int z1), (2, .int z2)] []
          refine g_iload_n hk dX12_toldWord_57 rfl ?_
          exact g_iret hk hR rfl ⟨I15605, A15605, L15605, (show Md [4, 6, 7, 12] I I15605 from (Md.tr (Md.tr (Md.tr (Md.tr Md.rf hI15505 rfl) hI15579 rfl) hI15596 rfl) hI15605 rfl)), (show Md [] A A15605 from (Md.tr (Md.tr (Md.tr (Md.tr Md.rf hA15505 rfl) hA15579 rfl) hA15596 rfl) hA15605 rfl)), hV15605, y15518, (by omega), (by omega), (by rw [show (I15605 8) = (I 8) from ((hI15605 8 rfl).trans ((hI15596 8 rfl).trans ((hI15579 8 rfl).trans (hI15505 8 rfl))))] <;> omega), (by omega), rfl, rfl⟩ dX12_toldWord_58
  · skip
    refine g_iconst (v := (-1)) hk dX12_toldWord_11 (by decide) ?_
    refine g_goto (tgt := 26) hk dX12_toldWord_12 (by decide) ?_
    refine g_istore_n (lv' := [(3, .int (-1)), (0, .ref (r 0)), (1, .int z1), (2, .int z2)]) hk dX12_toldWord_26 (by decide) rfl ?_
    refine g_iload_n hk dX12_toldWord_27 rfl ?_
    refine g_if_lt (tgt := 36) (a := (-1)) hk dX12_toldWord_28 (by decide) rfl (fun _ => ?_) (fun z9 => absurd (show ((-1) : Int) < (0 : Int) from by decide) z9)
    refine g_aload_n hk dX12_toldWord_36 rfl ?_
    refine g_iconst (v := 1) hk dX12_toldWord_37 (by decide) ?_
    have k15613 : (1 : Int32).toInt = 1 := rfl
    refine g_callV (n := 1) hk (j128_X12_fail l D zt r g I15505 A15505 L15505 1 hV15505 (by decide) (by decide)) (SP.same _) (fun _ h => h) (gi_V (List.mem_cons_of_mem _ (List.mem_append_left _ (List.mem_of_getElem? (i := 7) rfl))) (List.mem_cons_of_mem _ (List.mem_append_left _ (List.mem_of_getElem? (i := 8) rfl))) (List.mem_cons_of_mem _ (List.mem_append_left _ (List.mem_of_getElem? (i := 9) rfl))) (List.mem_cons_of_mem _ (List.mem_append_left _ (List.mem_of_getElem? (i := 3) rfl))) (gi_sub (fun w h => (List.mem_cons_of_mem _ (List.mem_append_right _ (List.mem_append_right _ (List.mem_append_right _ (List.mem_append_left _ h)))))) zg_j128_X12_fail)) rfl rfl rfl (by decide +kernel) ⟨Nat.le_of_ble_eq_true rfl, Nat.le_of_ble_eq_true rfl⟩ 0 rfl rfl rfl rfl (Nat.le_of_ble_eq_true rfl) ⟨Nat.le_of_ble_eq_true rfl, Nat.le_of_ble_eq_true rfl⟩ dX12_toldWord_38 (fun v ty' w' hp hk' => ?_)
    obtain ⟨I15615, A15615, L15615, hI15615, hA15615, hV15615, r15616, r15617, r15618, rfl, rfl⟩ := hp
    have f15619 := IvM_f6 hV15615
    rw [show (I15505 8) = (I 8) from (hI15505 8 rfl), show (I15615 8) = (I 8) from ((hI15615 8 rfl).trans (hI15505 8 rfl))] at r15617
    show GW κ 4 0 0 (wM r g I15615 A15615 L15615) 41 [(3, .int (-1)), (0, .ref (r 0)), (1, .int z1), (2, .int z2)] []
    refine g_aload_n hk dX12_toldWord_41 rfl ?_
    refine gM_i6 (v := (I15615 6)) hk hin12 (List.mem_cons_of_mem _ (List.mem_append_left _ (List.mem_of_getElem? (i := 4) rfl))) dX12_toldWord_42 rfl ?_
    refine g_if_ne (tgt := 52) (a := (I15615 6).toInt) hk dX12_toldWord_45 (by decide) rfl (fun c15620 => ?_) (fun c15620 => ?_)
    · skip
      refine g_aload_n hk dX12_toldWord_52 rfl ?_
      refine g_iconst (v := 4) hk dX12_toldWord_53 (by decide) ?_
      have k15621 : (4 : Int32).toInt = 4 := rfl
      refine g_callV (n := 1) hk (j131_X12_must l D zt r g I15615 A15615 L15615 4 hV15615) (SP.same _) (fun _ h => h) (gi_V (List.mem_cons_of_mem _ (List.mem_append_left _ (List.mem_of_getElem? (i := 10) rfl))) (List.mem_cons_of_mem _ (List.mem_append_left _ (List.mem_of_getElem? (i := 11) rfl))) (List.mem_cons_of_mem _ (List.mem_append_left _ (List.mem_of_getElem? (i := 12) rfl))) (List.mem_cons_of_mem _ (List.mem_append_left _ (List.mem_of_getElem? (i := 3) rfl))) (gi_sub (fun w h => (List.mem_cons_of_mem _ (List.mem_append_right _ (List.mem_append_right _ (List.mem_append_right _ (List.mem_append_right _ (List.mem_append_left _ h))))))) zg_j131_X12_must)) rfl rfl rfl (by decide +kernel) ⟨Nat.le_of_ble_eq_true rfl, Nat.le_of_ble_eq_true rfl⟩ 0 rfl rfl rfl rfl (Nat.le_of_ble_eq_true rfl) ⟨Nat.le_of_ble_eq_true rfl, Nat.le_of_ble_eq_true rfl⟩ dX12_toldWord_54 (fun v ty' w' hp hk' => ?_)
      obtain ⟨I15623, A15623, L15623, hI15623, hA15623, hV15623, r15624, r15625, r15626, r15627, r15628, rfl, rfl⟩ := hp
      have f15629 := IvM_f4 hV15623
      rw [show (I15615 4) = (I15505 4) from (hI15615 4 rfl)] at r15624
      have f15630 := IvM_f6 hV15623
      rw [show (I15615 8) = (I 8) from ((hI15615 8 rfl).trans (hI15505 8 rfl)), show (I15623 8) = (I 8) from ((hI15623 8 rfl).trans ((hI15615 8 rfl).trans (hI15505 8 rfl)))] at r15626
      rw [show (I15615 4) = (I15505 4) from (hI15615 4 rfl)] at r15627
      rw [show (A15615 2 (I15615 4).toNatClampNeg) = (A 2 (I15505 4).toNatClampNeg) from (by rw [show I15615 4 = (I15505 4) from (hI15615 4 rfl)]; exact ((congrFun (hA15615 2 rfl) _).trans (congrFun (hA15505 2 rfl) _)))] at r15628
      show GW κ 4 0 0 (wM r g I15623 A15623 L15623) 57 [(3, .int (-1)), (0, .ref (r 0)), (1, .int z1), (2, .int z2)] []
      refine g_iload_n hk dX12_toldWord_57 rfl ?_
      exact g_iret hk hR rfl ⟨I15623, A15623, L15623, (show Md [4, 6, 7, 12] I I15623 from (Md.tr (Md.tr (Md.tr Md.rf hI15505 rfl) hI15615 rfl) hI15623 rfl)), (show Md [] A A15623 from (Md.tr (Md.tr (Md.tr Md.rf hA15505 rfl) hA15615 rfl) hA15623 rfl)), hV15623, (-1), (by omega), (by omega), (by rw [show (I15623 8) = (I 8) from ((hI15623 8 rfl).trans ((hI15615 8 rfl).trans (hI15505 8 rfl)))] <;> omega), (by omega), rfl, rfl⟩ dX12_toldWord_58
    · skip
      refine g_aload_n hk dX12_toldWord_48 rfl ?_
      refine g_callV (n := 0) hk (j127_X12_goesOn l D zt r g I15615 A15615 L15615  hV15615) (SP.same _) (fun _ h => h) (gi_V (List.mem_cons_of_mem _ (List.mem_append_left _ (List.mem_of_getElem? (i := 0) rfl))) (List.mem_cons_of_mem _ (List.mem_append_left _ (List.mem_of_getElem? (i := 1) rfl))) (List.mem_cons_of_mem _ (List.mem_append_left _ (List.mem_of_getElem? (i := 2) rfl))) (List.mem_cons_of_mem _ (List.mem_append_left _ (List.mem_of_getElem? (i := 3) rfl))) (gi_sub (fun w h => (List.mem_cons_of_mem _ (List.mem_append_right _ (List.mem_append_right _ (List.mem_append_left _ h))))) zg_j127_X12_goesOn)) rfl rfl rfl (by decide +kernel) ⟨Nat.le_of_ble_eq_true rfl, Nat.le_of_ble_eq_true rfl⟩ 0 rfl rfl rfl rfl (Nat.le_of_ble_eq_true rfl) ⟨Nat.le_of_ble_eq_true rfl, Nat.le_of_ble_eq_true rfl⟩ dX12_toldWord_49 (fun v ty' w' hp hk' => ?_)
      obtain ⟨I15632, A15632, L15632, hI15632, hA15632, hV15632, r15633, r15634, r15635, r15636, rfl, rfl⟩ := hp
      have f15637 := IvM_f4 hV15632
      rw [show (I15615 4) = (I15505 4) from (hI15615 4 rfl)] at r15633
      have f15638 := IvM_f6 hV15632
      rw [show (I15615 8) = (I 8) from ((hI15615 8 rfl).trans (hI15505 8 rfl)), show (I15632 8) = (I 8) from ((hI15632 8 rfl).trans ((hI15615 8 rfl).trans (hI15505 8 rfl)))] at r15635
      rw [show (I15615 4) = (I15505 4) from (hI15615 4 rfl)] at r15636
      show GW κ 4 0 0 (wM r g I15632 A15632 L15632) 52 [(3, .int (-1)), (0, .ref (r 0)), (1, .int z1), (2, .int z2)] []
      refine g_aload_n hk dX12_toldWord_52 rfl ?_
      refine g_iconst (v := 4) hk dX12_toldWord_53 (by decide) ?_
      have k15639 : (4 : Int32).toInt = 4 := rfl
      refine g_callV (n := 1) hk (j131_X12_must l D zt r g I15632 A15632 L15632 4 hV15632) (SP.same _) (fun _ h => h) (gi_V (List.mem_cons_of_mem _ (List.mem_append_left _ (List.mem_of_getElem? (i := 10) rfl))) (List.mem_cons_of_mem _ (List.mem_append_left _ (List.mem_of_getElem? (i := 11) rfl))) (List.mem_cons_of_mem _ (List.mem_append_left _ (List.mem_of_getElem? (i := 12) rfl))) (List.mem_cons_of_mem _ (List.mem_append_left _ (List.mem_of_getElem? (i := 3) rfl))) (gi_sub (fun w h => (List.mem_cons_of_mem _ (List.mem_append_right _ (List.mem_append_right _ (List.mem_append_right _ (List.mem_append_right _ (List.mem_append_left _ h))))))) zg_j131_X12_must)) rfl rfl rfl (by decide +kernel) ⟨Nat.le_of_ble_eq_true rfl, Nat.le_of_ble_eq_true rfl⟩ 0 rfl rfl rfl rfl (Nat.le_of_ble_eq_true rfl) ⟨Nat.le_of_ble_eq_true rfl, Nat.le_of_ble_eq_true rfl⟩ dX12_toldWord_54 (fun v ty' w' hp hk' => ?_)
      obtain ⟨I15641, A15641, L15641, hI15641, hA15641, hV15641, r15642, r15643, r15644, r15645, r15646, rfl, rfl⟩ := hp
      have f15647 := IvM_f4 hV15641
      have f15648 := IvM_f6 hV15641
      rw [show (I15632 8) = (I 8) from ((hI15632 8 rfl).trans ((hI15615 8 rfl).trans (hI15505 8 rfl))), show (I15641 8) = (I 8) from ((hI15641 8 rfl).trans ((hI15632 8 rfl).trans ((hI15615 8 rfl).trans (hI15505 8 rfl))))] at r15644
      rw [show (A15632 2 (I15632 4).toNatClampNeg) = (A 2 (I15632 4).toNatClampNeg) from ((congrFun (hA15632 2 rfl) _).trans ((congrFun (hA15615 2 rfl) _).trans (congrFun (hA15505 2 rfl) _)))] at r15646
      show GW κ 4 0 0 (wM r g I15641 A15641 L15641) 57 [(3, .int (-1)), (0, .ref (r 0)), (1, .int z1), (2, .int z2)] []
      refine g_iload_n hk dX12_toldWord_57 rfl ?_
      exact g_iret hk hR rfl ⟨I15641, A15641, L15641, (show Md [4, 6, 7, 12] I I15641 from (Md.tr (Md.tr (Md.tr (Md.tr Md.rf hI15505 rfl) hI15615 rfl) hI15632 rfl) hI15641 rfl)), (show Md [] A A15641 from (Md.tr (Md.tr (Md.tr (Md.tr Md.rf hA15505 rfl) hA15615 rfl) hA15632 rfl) hA15641 rfl)), hV15641, (-1), (by omega), (by omega), (by rw [show (I15641 8) = (I 8) from ((hI15641 8 rfl).trans ((hI15632 8 rfl).trans ((hI15615 8 rfl).trans (hI15505 8 rfl))))] <;> omega), (by omega), rfl, rfl⟩ dX12_toldWord_58
def wo_j126_X12_tellOne : List Cond := [Cond.fieldLink RX12 20 "WarpDeskModel" "tKind" "[I", Cond.fieldLink RX12 164 "WarpDeskModel" "t" "I", Cond.methodLink RX12 191 yX12_goesOn, Cond.instanceMethod yX12_goesOn, Cond.selects RX12 yX12_goesOn yX12_goesOn, Cond.initialized RX12, Cond.fieldLink RX12 161 "WarpDeskModel" "fault" "I", Cond.methodLink RX12 219 yX12_tellSeries, Cond.instanceMethod yX12_tellSeries, Cond.selects RX12 yX12_tellSeries yX12_tellSeries, Cond.fieldLink RX12 49 "WarpDeskModel" "queries" "[I", Cond.fieldLink RX12 200 "WarpDeskModel" "side" "I", Cond.methodLink RX12 222 yX12_tellQuery, Cond.instanceMethod yX12_tellQuery, Cond.selects RX12 yX12_tellQuery yX12_tellQuery, Cond.methodLink RX12 185 yX12_fail, Cond.instanceMethod yX12_fail, Cond.selects RX12 yX12_fail yX12_fail, Cond.fieldLink RX12 58 "WarpDeskModel" "bandTold" "[I", Cond.methodLink RX12 225 yX12_toldInt, Cond.instanceMethod yX12_toldInt, Cond.selects RX12 yX12_toldInt yX12_toldInt, Cond.fieldLink RX12 61 "WarpDeskModel" "levelTold" "[I", Cond.methodLink RX12 228 yX12_toldWord, Cond.instanceMethod yX12_toldWord, Cond.selects RX12 yX12_toldWord yX12_toldWord, Cond.fieldLink RX12 64 "WarpDeskModel" "costTold" "[I", Cond.fieldLink RX12 67 "WarpDeskModel" "apartTold" "[I"]
def wz_j126_X12_tellOne : List Cond := .code yX12_tellOne cX12_tellOne 1 none :: (wo_j126_X12_tellOne ++ (wsX120 ++ (wz_j127_X12_goesOn ++ (wz_j129_X12_tellSeries ++ (wz_j135_X12_tellQuery ++ (wz_j128_X12_fail ++ (wz_j136_X12_toldInt ++ (wz_j137_X12_toldWord ++ ([] : List Cond)))))))))
theorem zg_j126_X12_tellOne : ∀ w ∈ wz_j126_X12_tellOne, goodWord w = true := zg_cons rfl (zg_app (by decide +kernel) (zg_app zgU_wsX120 (zg_app zg_j127_X12_goesOn (zg_app zg_j129_X12_tellSeries (zg_app zg_j135_X12_tellQuery (zg_app zg_j128_X12_fail (zg_app zg_j136_X12_toldInt (zg_app zg_j137_X12_toldWord zg_nil))))))))
theorem zi_j126_X12_tellOne : ∀ w ∈ wz_j126_X12_tellOne, w ∈ lw_tbl := zi_cons zw_1590 (zi_app (zi_cons zw_1384 (zi_cons zw_1390 (zi_cons zw_1591 (zi_cons zw_1593 (zi_cons zw_54 (zi_cons zw_115 (zi_cons zw_1391 (zi_cons zw_1599 (zi_cons zw_1601 (zi_cons zw_56 (zi_cons zw_1406 (zi_cons zw_1401 (zi_cons zw_1624 (zi_cons zw_1626 (zi_cons zw_62 (zi_cons zw_1595 (zi_cons zw_1597 (zi_cons zw_55 (zi_cons zw_1409 (zi_cons zw_1628 (zi_cons zw_1630 (zi_cons zw_63 (zi_cons zw_1410 (zi_cons zw_1632 (zi_cons zw_1634 (zi_cons zw_64 (zi_cons zw_1411 (zi_cons zw_1412 zi_nil)))))))))))))))))))))))))))) (zi_app inX12 (zi_app zi_j127_X12_goesOn (zi_app zi_j129_X12_tellSeries (zi_app zi_j135_X12_tellQuery (zi_app zi_j128_X12_fail (zi_app zi_j136_X12_toldInt (zi_app zi_j137_X12_toldWord zi_nil))))))))
set_option maxHeartbeats 4000000 in
set_option maxRecDepth 100000 in
theorem j126_X12_tellOne (l : Launch) (D : va_G) (zt : Nat × Nat × Nat × (Nat → Nat) × (Nat → Nat)) (r : Nat → Nat) (g : Nat → ClassId) (I : Nat → Int32) (A : Nat → Nat → Int32) (L : Nat → Nat → Int64) (hIv : IvM I A) (hp0 : (I 15).toInt + (I 16).toInt = 1) : GM l D zt (tyM g) yX12_tellOne wz_j126_X12_tellOne ({ frames := 5, cells := 0, slots := 0, locals := 109 } : Room) [.ref (r 0)] (wM r g I A L) (fun v _ w' => ∃ (I' : Nat → Int32) (A' : Nat → Nat → Int32) (L' : Nat → Nat → Int64), Md [4, 6, 7, 8, 9, 11, 12, 13, 17] I I' ∧ Md [8, 9, 10, 11, 12, 13, 14, 15, 16] A A' ∧ IvM I' A' ∧ ((I 4).toInt ≤ (I' 4).toInt) ∧ ((I 6).toInt ≤ (I' 6).toInt) ∧ ((I 8).toInt ≤ 9 * (I' 8).toInt) ∧ ((I 4).toInt < (I' 4).toInt + (I' 6).toInt) ∧ v = none ∧ w' = wM r g I' A' L') 0 0 := by
  refine GM.of (cc := cX12_tellOne) (maxL := 1) (ret := none) (own := RX12) (lv := [(0, .ref (r 0))]) (by decide) rfl rfl (Nat.le_of_ble_eq_true rfl) rfl (fun κ sz hk hR hN => ?_)
  have hin12 : ∀ w ∈ u_ws RX12 TX12 55, w ∈ wz_j126_X12_tellOne := fun w h => (List.mem_cons_of_mem _ (List.mem_append_right _ (List.mem_append_left _ h)))
  refine g_aload_n hk dX12_tellOne_0 rfl ?_
  refine gM_r0_5 hk hin12 (List.mem_cons_of_mem _ (List.mem_append_left _ (List.mem_of_getElem? (i := 0) rfl))) dX12_tellOne_1 ?_
  refine g_aload_n hk dX12_tellOne_4 rfl ?_
  refine gM_i4 (v := (I 4)) hk hin12 (List.mem_cons_of_mem _ (List.mem_append_left _ (List.mem_of_getElem? (i := 1) rfl))) dX12_tellOne_5 rfl ?_
  have f4610 := IvM_f4 hIv
  refine lM_2 (v := (A 2 (I 4).toNatClampNeg)) hk (vp_in_iff.mpr ⟨by omega, by omega⟩) rfl dX12_tellOne_8 ?_
  by_cases c4611 : (A 2 (I 4).toNatClampNeg).toInt = 20
  · refine g_tabIn (tgt := 48) (a := 20) hk dX12_tellOne_9 c4611 (by decide) (by decide) rfl (by decide) ?_
    refine g_aload_n hk dX12_tellOne_48 rfl ?_
    refine g_callV (n := 0) hk (j127_X12_goesOn l D zt r g I A L  hIv) (SP.same _) (fun _ h => h) (gi_V (List.mem_cons_of_mem _ (List.mem_append_left _ (List.mem_of_getElem? (i := 2) rfl))) (List.mem_cons_of_mem _ (List.mem_append_left _ (List.mem_of_getElem? (i := 3) rfl))) (List.mem_cons_of_mem _ (List.mem_append_left _ (List.mem_of_getElem? (i := 4) rfl))) (List.mem_cons_of_mem _ (List.mem_append_left _ (List.mem_of_getElem? (i := 5) rfl))) (gi_sub (fun w h => (List.mem_cons_of_mem _ (List.mem_append_right _ (List.mem_append_right _ (List.mem_append_left _ h))))) zg_j127_X12_goesOn)) rfl rfl rfl (by decide +kernel) ⟨Nat.le_of_ble_eq_true rfl, Nat.le_of_ble_eq_true rfl⟩ 0 rfl rfl rfl rfl (Nat.le_of_ble_eq_true rfl) ⟨Nat.le_of_ble_eq_true rfl, Nat.le_of_ble_eq_true rfl⟩ dX12_tellOne_49 (fun v ty' w' hp hk' => ?_)
    obtain ⟨I4632, A4632, L4632, hI4632, hA4632, hV4632, r4633, r4634, r4635, r4636, rfl, rfl⟩ := hp
    have f4637 := IvM_f4 hV4632
    have f4638 := IvM_f6 hIv
    have f4639 := IvM_f6 hV4632
    have f4640 := IvM_f8 hIv
    rw [show (I4632 8) = (I 8) from (hI4632 8 rfl)] at r4635
    show GW κ 1 0 0 (wM r g I4632 A4632 L4632) 52 [(0, .ref (r 0))] []
    refine g_aload_n hk dX12_tellOne_52 rfl ?_
    refine gM_i6 (v := (I4632 6)) hk hin12 (List.mem_cons_of_mem _ (List.mem_append_left _ (List.mem_of_getElem? (i := 6) rfl))) dX12_tellOne_53 rfl ?_
    refine g_if_ne (tgt := 190) (a := (I4632 6).toInt) hk dX12_tellOne_56 (by decide) rfl (fun c4641 => ?_) (fun c4641 => ?_)
    · skip
      exact g_vret hk hR ⟨I4632, A4632, L4632, (show Md [4, 6, 7, 8, 9, 11, 12, 13, 17] I I4632 from (Md.tr Md.rf hI4632 rfl)), (show Md [8, 9, 10, 11, 12, 13, 14, 15, 16] A A4632 from (Md.tr Md.rf hA4632 rfl)), hV4632, (by omega), (by omega), (by rw [show (I4632 8) = (I 8) from (hI4632 8 rfl)] <;> omega), (by omega), rfl, rfl⟩ dX12_tellOne_190
    · skip
      refine g_aload_n hk dX12_tellOne_59 rfl ?_
      refine g_callV (n := 0) hk (j129_X12_tellSeries l D zt r g I4632 A4632 L4632  hV4632) (SP.same _) (fun _ h => h) (gi_V (List.mem_cons_of_mem _ (List.mem_append_left _ (List.mem_of_getElem? (i := 7) rfl))) (List.mem_cons_of_mem _ (List.mem_append_left _ (List.mem_of_getElem? (i := 8) rfl))) (List.mem_cons_of_mem _ (List.mem_append_left _ (List.mem_of_getElem? (i := 9) rfl))) (List.mem_cons_of_mem _ (List.mem_append_left _ (List.mem_of_getElem? (i := 5) rfl))) (gi_sub (fun w h => (List.mem_cons_of_mem _ (List.mem_append_right _ (List.mem_append_right _ (List.mem_append_right _ (List.mem_append_left _ h)))))) zg_j129_X12_tellSeries)) rfl rfl rfl (by decide +kernel) ⟨Nat.le_of_ble_eq_true rfl, Nat.le_of_ble_eq_true rfl⟩ 0 rfl rfl rfl rfl (Nat.le_of_ble_eq_true rfl) ⟨Nat.le_of_ble_eq_true rfl, Nat.le_of_ble_eq_true rfl⟩ dX12_tellOne_60 (fun v ty' w' hp hk' => ?_)
      obtain ⟨I6174, A6174, L6174, hI6174, hA6174, hV6174, r6175, r6176, r6177, rfl, rfl⟩ := hp
      have f6178 := IvM_f4 hV6174
      have f6179 := IvM_f6 hV6174
      have f6180 := IvM_f8 hV6174
      rw [show (I4632 8) = (I 8) from (hI4632 8 rfl)] at r6177
      show GW κ 1 0 0 (wM r g I6174 A6174 L6174) 63 [(0, .ref (r 0))] []
      refine g_goto (tgt := 190) hk dX12_tellOne_63 (by decide) ?_
      exact g_vret hk hR ⟨I6174, A6174, L6174, (show Md [4, 6, 7, 8, 9, 11, 12, 13, 17] I I6174 from (Md.tr (Md.tr Md.rf hI4632 rfl) hI6174 rfl)), (show Md [8, 9, 10, 11, 12, 13, 14, 15, 16] A A6174 from (Md.tr (Md.tr Md.rf hA4632 rfl) hA6174 rfl)), hV6174, (by omega), (by omega), (by omega), (by omega), rfl, rfl⟩ dX12_tellOne_190
  by_cases c6181 : (A 2 (I 4).toNatClampNeg).toInt = 21
  · refine g_tabIn (tgt := 66) (a := 21) hk dX12_tellOne_9 c6181 (by decide) (by decide) rfl (by decide) ?_
    refine g_aload_n hk dX12_tellOne_66 rfl ?_
    refine gM_r0_28 hk hin12 (List.mem_cons_of_mem _ (List.mem_append_left _ (List.mem_of_getElem? (i := 10) rfl))) dX12_tellOne_67 ?_
    refine g_aload_n hk dX12_tellOne_70 rfl ?_
    refine gM_i16 (v := (I 16)) hk hin12 (List.mem_cons_of_mem _ (List.mem_append_left _ (List.mem_of_getElem? (i := 11) rfl))) dX12_tellOne_71 rfl ?_
    have f6182 := IvM_f16 hIv
    by_cases c6183 : (I 16).toInt = 0
    · have ec6183 : (I 16) = 0 := Int32.toInt_inj.mp c6183
      rw [ec6183]
      show GW κ 1 0 0 (wM r g I A L) 74 [(0, .ref (r 0))] [.int 0, .ref (r 11)]
      refine lM_10 (v := (A 10 0)) hk (vp_in_iff.mpr ⟨by decide, by decide⟩) rfl dX12_tellOne_74 ?_
      have f6184 := IvM_s10_0 hIv
      refine g_iconst (v := 5) hk dX12_tellOne_75 (by decide) ?_
      refine g_icmp_ne (tgt := 84) (a := (A 10 0).toInt) (b := 5) hk dX12_tellOne_76 (by decide) rfl rfl (fun c6185 => ?_) (fun c6185 => ?_)
      · skip
        refine g_aload_n hk dX12_tellOne_84 rfl ?_
        refine gM_i6 (v := (I 6)) hk hin12 (List.mem_cons_of_mem _ (List.mem_append_left _ (List.mem_of_getElem? (i := 6) rfl))) dX12_tellOne_85 rfl ?_
        have f6186 := IvM_f6 hIv
        refine g_if_ne (tgt := 95) (a := (I 6).toInt) hk dX12_tellOne_88 (by decide) rfl (fun c6187 => ?_) (fun c6187 => ?_)
        · skip
          refine g_aload_n hk dX12_tellOne_95 rfl ?_
          refine gM_i6 (v := (I 6)) hk hin12 (List.mem_cons_of_mem _ (List.mem_append_left _ (List.mem_of_getElem? (i := 6) rfl))) dX12_tellOne_96 rfl ?_
          refine g_if_ne (tgt := 190) (a := (I 6).toInt) hk dX12_tellOne_99 (by decide) rfl (fun _ => ?_) (fun z9 => absurd (show (I 6).toInt ≠ 0 from by omega) z9)
          have f6188 := IvM_f8 hIv
          exact g_vret hk hR ⟨I, A, L, (show Md [4, 6, 7, 8, 9, 11, 12, 13, 17] I I from Md.rf), (show Md [8, 9, 10, 11, 12, 13, 14, 15, 16] A A from Md.rf), hIv, (by omega), (by omega), (by omega), (by omega), rfl, rfl⟩ dX12_tellOne_190
        · skip
          refine g_aload_n hk dX12_tellOne_91 rfl ?_
          refine g_callV (n := 0) hk (j127_X12_goesOn l D zt r g I A L  hIv) (SP.same _) (fun _ h => h) (gi_V (List.mem_cons_of_mem _ (List.mem_append_left _ (List.mem_of_getElem? (i := 2) rfl))) (List.mem_cons_of_mem _ (List.mem_append_left _ (List.mem_of_getElem? (i := 3) rfl))) (List.mem_cons_of_mem _ (List.mem_append_left _ (List.mem_of_getElem? (i := 4) rfl))) (List.mem_cons_of_mem _ (List.mem_append_left _ (List.mem_of_getElem? (i := 5) rfl))) (gi_sub (fun w h => (List.mem_cons_of_mem _ (List.mem_append_right _ (List.mem_append_right _ (List.mem_append_left _ h))))) zg_j127_X12_goesOn)) rfl rfl rfl (by decide +kernel) ⟨Nat.le_of_ble_eq_true rfl, Nat.le_of_ble_eq_true rfl⟩ 0 rfl rfl rfl rfl (Nat.le_of_ble_eq_true rfl) ⟨Nat.le_of_ble_eq_true rfl, Nat.le_of_ble_eq_true rfl⟩ dX12_tellOne_92 (fun v ty' w' hp hk' => ?_)
          obtain ⟨I6190, A6190, L6190, hI6190, hA6190, hV6190, r6191, r6192, r6193, r6194, rfl, rfl⟩ := hp
          have f6195 := IvM_f4 hV6190
          have f6196 := IvM_f6 hV6190
          have f6197 := IvM_f8 hIv
          rw [show (I6190 8) = (I 8) from (hI6190 8 rfl)] at r6193
          show GW κ 1 0 0 (wM r g I6190 A6190 L6190) 95 [(0, .ref (r 0))] []
          refine g_aload_n hk dX12_tellOne_95 rfl ?_
          refine gM_i6 (v := (I6190 6)) hk hin12 (List.mem_cons_of_mem _ (List.mem_append_left _ (List.mem_of_getElem? (i := 6) rfl))) dX12_tellOne_96 rfl ?_
          refine g_if_ne (tgt := 190) (a := (I6190 6).toInt) hk dX12_tellOne_99 (by decide) rfl (fun c6198 => ?_) (fun c6198 => ?_)
          · skip
            exact g_vret hk hR ⟨I6190, A6190, L6190, (show Md [4, 6, 7, 8, 9, 11, 12, 13, 17] I I6190 from (Md.tr Md.rf hI6190 rfl)), (show Md [8, 9, 10, 11, 12, 13, 14, 15, 16] A A6190 from (Md.tr Md.rf hA6190 rfl)), hV6190, (by omega), (by omega), (by rw [show (I6190 8) = (I 8) from (hI6190 8 rfl)] <;> omega), (by omega), rfl, rfl⟩ dX12_tellOne_190
          · skip
            refine g_aload_n hk dX12_tellOne_102 rfl ?_
            have f15340 := IvM_f15 hIv
            have f15341 := IvM_s10_1 hIv
            refine g_callV (n := 0) hk (j135_X12_tellQuery l D zt r g I6190 A6190 L6190  hV6190 (by first | (rw [show (I6190 15) = (I 15) from (hI6190 15 rfl), show (I6190 16) = (I 16) from (hI6190 16 rfl)] <;> omega) | omega) (by first | (rw [show (I6190 16) = (I 16) from (hI6190 16 rfl), show (A6190 10 0) = (A 10 0) from (congrFun (hA6190 10 rfl) _)] <;> omega) | omega) (by first | (rw [show (I6190 16) = (I 16) from (hI6190 16 rfl), show (A6190 10 1) = (A 10 1) from (congrFun (hA6190 10 rfl) _)] <;> omega) | omega)) (SP.same _) (fun _ h => h) (gi_V (List.mem_cons_of_mem _ (List.mem_append_left _ (List.mem_of_getElem? (i := 12) rfl))) (List.mem_cons_of_mem _ (List.mem_append_left _ (List.mem_of_getElem? (i := 13) rfl))) (List.mem_cons_of_mem _ (List.mem_append_left _ (List.mem_of_getElem? (i := 14) rfl))) (List.mem_cons_of_mem _ (List.mem_append_left _ (List.mem_of_getElem? (i := 5) rfl))) (gi_sub (fun w h => (List.mem_cons_of_mem _ (List.mem_append_right _ (List.mem_append_right _ (List.mem_append_right _ (List.mem_append_right _ (List.mem_append_left _ h))))))) zg_j135_X12_tellQuery)) rfl rfl rfl (by decide +kernel) ⟨Nat.le_of_ble_eq_true rfl, Nat.le_of_ble_eq_true rfl⟩ 0 rfl rfl rfl rfl (Nat.le_of_ble_eq_true rfl) ⟨Nat.le_of_ble_eq_true rfl, Nat.le_of_ble_eq_true rfl⟩ dX12_tellOne_103 (fun v ty' w' hp hk' => ?_)
            obtain ⟨I15343, A15343, L15343, hI15343, hA15343, hV15343, r15344, r15345, r15346, rfl, rfl⟩ := hp
            have f15347 := IvM_f4 hV15343
            have f15348 := IvM_f6 hV15343
            have f15349 := IvM_f8 hV15343
            rw [show (I6190 8) = (I 8) from (hI6190 8 rfl)] at r15346
            show GW κ 1 0 0 (wM r g I15343 A15343 L15343) 106 [(0, .ref (r 0))] []
            refine g_goto (tgt := 190) hk dX12_tellOne_106 (by decide) ?_
            exact g_vret hk hR ⟨I15343, A15343, L15343, (show Md [4, 6, 7, 8, 9, 11, 12, 13, 17] I I15343 from (Md.tr (Md.tr Md.rf hI6190 rfl) hI15343 rfl)), (show Md [8, 9, 10, 11, 12, 13, 14, 15, 16] A A15343 from (Md.tr (Md.tr Md.rf hA6190 rfl) hA15343 rfl)), hV15343, (by omega), (by omega), (by omega), (by omega), rfl, rfl⟩ dX12_tellOne_190
      · skip
        refine g_aload_n hk dX12_tellOne_79 rfl ?_
        refine g_iconst (v := 2) hk dX12_tellOne_80 (by decide) ?_
        have k15350 : (2 : Int32).toInt = 2 := rfl
        refine g_callV (n := 1) hk (j128_X12_fail l D zt r g I A L 2 hIv (by decide) (by decide)) (SP.same _) (fun _ h => h) (gi_V (List.mem_cons_of_mem _ (List.mem_append_left _ (List.mem_of_getElem? (i := 15) rfl))) (List.mem_cons_of_mem _ (List.mem_append_left _ (List.mem_of_getElem? (i := 16) rfl))) (List.mem_cons_of_mem _ (List.mem_append_left _ (List.mem_of_getElem? (i := 17) rfl))) (List.mem_cons_of_mem _ (List.mem_append_left _ (List.mem_of_getElem? (i := 5) rfl))) (gi_sub (fun w h => (List.mem_cons_of_mem _ (List.mem_append_right _ (List.mem_append_right _ (List.mem_append_right _ (List.mem_append_right _ (List.mem_append_right _ (List.mem_append_left _ h)))))))) zg_j128_X12_fail)) rfl rfl rfl (by decide +kernel) ⟨Nat.le_of_ble_eq_true rfl, Nat.le_of_ble_eq_true rfl⟩ 0 rfl rfl rfl rfl (Nat.le_of_ble_eq_true rfl) ⟨Nat.le_of_ble_eq_true rfl, Nat.le_of_ble_eq_true rfl⟩ dX12_tellOne_81 (fun v ty' w' hp hk' => ?_)
        obtain ⟨I15352, A15352, L15352, hI15352, hA15352, hV15352, r15353, r15354, r15355, rfl, rfl⟩ := hp
        have f15356 := IvM_f6 hIv
        have f15357 := IvM_f6 hV15352
        have f15358 := IvM_f8 hIv
        rw [show (I15352 8) = (I 8) from (hI15352 8 rfl)] at r15354
        show GW κ 1 0 0 (wM r g I15352 A15352 L15352) 84 [(0, .ref (r 0))] []
        refine g_aload_n hk dX12_tellOne_84 rfl ?_
        refine gM_i6 (v := (I15352 6)) hk hin12 (List.mem_cons_of_mem _ (List.mem_append_left _ (List.mem_of_getElem? (i := 6) rfl))) dX12_tellOne_85 rfl ?_
        refine g_if_ne (tgt := 95) (a := (I15352 6).toInt) hk dX12_tellOne_88 (by decide) rfl (fun c15359 => ?_) (fun c15359 => ?_)
        · skip
          refine g_aload_n hk dX12_tellOne_95 rfl ?_
          refine gM_i6 (v := (I15352 6)) hk hin12 (List.mem_cons_of_mem _ (List.mem_append_left _ (List.mem_of_getElem? (i := 6) rfl))) dX12_tellOne_96 rfl ?_
          refine g_if_ne (tgt := 190) (a := (I15352 6).toInt) hk dX12_tellOne_99 (by decide) rfl (fun _ => ?_) (fun z9 => absurd (show (I15352 6).toInt ≠ 0 from by omega) z9)
          exact g_vret hk hR ⟨I15352, A15352, L15352, (show Md [4, 6, 7, 8, 9, 11, 12, 13, 17] I I15352 from (Md.tr Md.rf hI15352 rfl)), (show Md [8, 9, 10, 11, 12, 13, 14, 15, 16] A A15352 from (Md.tr Md.rf hA15352 rfl)), hV15352, (by rw [show (I15352 4) = (I 4) from (hI15352 4 rfl)] <;> omega), (by omega), (by rw [show (I15352 8) = (I 8) from (hI15352 8 rfl)] <;> omega), (by rw [show (I15352 4) = (I 4) from (hI15352 4 rfl)] <;> omega), rfl, rfl⟩ dX12_tellOne_190
        · skip
          refine g_aload_n hk dX12_tellOne_91 rfl ?_
          refine g_callV (n := 0) hk (j127_X12_goesOn l D zt r g I15352 A15352 L15352  hV15352) (SP.same _) (fun _ h => h) (gi_V (List.mem_cons_of_mem _ (List.mem_append_left _ (List.mem_of_getElem? (i := 2) rfl))) (List.mem_cons_of_mem _ (List.mem_append_left _ (List.mem_of_getElem? (i := 3) rfl))) (List.mem_cons_of_mem _ (List.mem_append_left _ (List.mem_of_getElem? (i := 4) rfl))) (List.mem_cons_of_mem _ (List.mem_append_left _ (List.mem_of_getElem? (i := 5) rfl))) (gi_sub (fun w h => (List.mem_cons_of_mem _ (List.mem_append_right _ (List.mem_append_right _ (List.mem_append_left _ h))))) zg_j127_X12_goesOn)) rfl rfl rfl (by decide +kernel) ⟨Nat.le_of_ble_eq_true rfl, Nat.le_of_ble_eq_true rfl⟩ 0 rfl rfl rfl rfl (Nat.le_of_ble_eq_true rfl) ⟨Nat.le_of_ble_eq_true rfl, Nat.le_of_ble_eq_true rfl⟩ dX12_tellOne_92 (fun v ty' w' hp hk' => ?_)
          obtain ⟨I15361, A15361, L15361, hI15361, hA15361, hV15361, r15362, r15363, r15364, r15365, rfl, rfl⟩ := hp
          have f15366 := IvM_f4 hV15361
          rw [show (I15352 4) = (I 4) from (hI15352 4 rfl)] at r15362
          have f15367 := IvM_f6 hV15361
          rw [show (I15352 8) = (I 8) from (hI15352 8 rfl), show (I15361 8) = (I 8) from ((hI15361 8 rfl).trans (hI15352 8 rfl))] at r15364
          rw [show (I15352 4) = (I 4) from (hI15352 4 rfl)] at r15365
          show GW κ 1 0 0 (wM r g I15361 A15361 L15361) 95 [(0, .ref (r 0))] []
          refine g_aload_n hk dX12_tellOne_95 rfl ?_
          refine gM_i6 (v := (I15361 6)) hk hin12 (List.mem_cons_of_mem _ (List.mem_append_left _ (List.mem_of_getElem? (i := 6) rfl))) dX12_tellOne_96 rfl ?_
          refine g_if_ne (tgt := 190) (a := (I15361 6).toInt) hk dX12_tellOne_99 (by decide) rfl (fun c15368 => ?_) (fun c15368 => ?_)
          · skip
            exact g_vret hk hR ⟨I15361, A15361, L15361, (show Md [4, 6, 7, 8, 9, 11, 12, 13, 17] I I15361 from (Md.tr (Md.tr Md.rf hI15352 rfl) hI15361 rfl)), (show Md [8, 9, 10, 11, 12, 13, 14, 15, 16] A A15361 from (Md.tr (Md.tr Md.rf hA15352 rfl) hA15361 rfl)), hV15361, (by omega), (by omega), (by rw [show (I15361 8) = (I 8) from ((hI15361 8 rfl).trans (hI15352 8 rfl))] <;> omega), (by omega), rfl, rfl⟩ dX12_tellOne_190
          · skip
            refine g_aload_n hk dX12_tellOne_102 rfl ?_
            have f15369 := IvM_f15 hIv
            have f15370 := IvM_s10_1 hIv
            refine g_callV (n := 0) hk (j135_X12_tellQuery l D zt r g I15361 A15361 L15361  hV15361 (by first | (rw [show (I15361 15) = (I 15) from ((hI15361 15 rfl).trans (hI15352 15 rfl)), show (I15361 16) = (I 16) from ((hI15361 16 rfl).trans (hI15352 16 rfl))] <;> omega) | omega) (by first | (rw [show (I15361 16) = (I 16) from ((hI15361 16 rfl).trans (hI15352 16 rfl)), show (A15361 10 0) = (A 10 0) from ((congrFun (hA15361 10 rfl) _).trans (congrFun (hA15352 10 rfl) _))] <;> omega) | omega) (by first | (rw [show (I15361 16) = (I 16) from ((hI15361 16 rfl).trans (hI15352 16 rfl)), show (A15361 10 1) = (A 10 1) from ((congrFun (hA15361 10 rfl) _).trans (congrFun (hA15352 10 rfl) _))] <;> omega) | omega)) (SP.same _) (fun _ h => h) (gi_V (List.mem_cons_of_mem _ (List.mem_append_left _ (List.mem_of_getElem? (i := 12) rfl))) (List.mem_cons_of_mem _ (List.mem_append_left _ (List.mem_of_getElem? (i := 13) rfl))) (List.mem_cons_of_mem _ (List.mem_append_left _ (List.mem_of_getElem? (i := 14) rfl))) (List.mem_cons_of_mem _ (List.mem_append_left _ (List.mem_of_getElem? (i := 5) rfl))) (gi_sub (fun w h => (List.mem_cons_of_mem _ (List.mem_append_right _ (List.mem_append_right _ (List.mem_append_right _ (List.mem_append_right _ (List.mem_append_left _ h))))))) zg_j135_X12_tellQuery)) rfl rfl rfl (by decide +kernel) ⟨Nat.le_of_ble_eq_true rfl, Nat.le_of_ble_eq_true rfl⟩ 0 rfl rfl rfl rfl (Nat.le_of_ble_eq_true rfl) ⟨Nat.le_of_ble_eq_true rfl, Nat.le_of_ble_eq_true rfl⟩ dX12_tellOne_103 (fun v ty' w' hp hk' => ?_)
            obtain ⟨I15372, A15372, L15372, hI15372, hA15372, hV15372, r15373, r15374, r15375, rfl, rfl⟩ := hp
            have f15376 := IvM_f4 hV15372
            have f15377 := IvM_f6 hV15372
            have f15378 := IvM_f8 hV15372
            rw [show (I15361 8) = (I 8) from ((hI15361 8 rfl).trans (hI15352 8 rfl))] at r15375
            show GW κ 1 0 0 (wM r g I15372 A15372 L15372) 106 [(0, .ref (r 0))] []
            refine g_goto (tgt := 190) hk dX12_tellOne_106 (by decide) ?_
            exact g_vret hk hR ⟨I15372, A15372, L15372, (show Md [4, 6, 7, 8, 9, 11, 12, 13, 17] I I15372 from (Md.tr (Md.tr (Md.tr Md.rf hI15352 rfl) hI15361 rfl) hI15372 rfl)), (show Md [8, 9, 10, 11, 12, 13, 14, 15, 16] A A15372 from (Md.tr (Md.tr (Md.tr Md.rf hA15352 rfl) hA15361 rfl) hA15372 rfl)), hV15372, (by omega), (by omega), (by omega), (by omega), rfl, rfl⟩ dX12_tellOne_190
    by_cases c15379 : (I 16).toInt = 1
    · have ec15379 : (I 16) = 1 := Int32.toInt_inj.mp c15379
      rw [ec15379]
      show GW κ 1 0 0 (wM r g I A L) 74 [(0, .ref (r 0))] [.int 1, .ref (r 11)]
      refine lM_10 (v := (A 10 1)) hk (vp_in_iff.mpr ⟨by decide, by decide⟩) rfl dX12_tellOne_74 ?_
      have f15380 := IvM_s10_1 hIv
      refine g_iconst (v := 5) hk dX12_tellOne_75 (by decide) ?_
      refine g_icmp_ne (tgt := 84) (a := (A 10 1).toInt) (b := 5) hk dX12_tellOne_76 (by decide) rfl rfl (fun c15381 => ?_) (fun c15381 => ?_)
      · skip
        refine g_aload_n hk dX12_tellOne_84 rfl ?_
        refine gM_i6 (v := (I 6)) hk hin12 (List.mem_cons_of_mem _ (List.mem_append_left _ (List.mem_of_getElem? (i := 6) rfl))) dX12_tellOne_85 rfl ?_
        have f15382 := IvM_f6 hIv
        refine g_if_ne (tgt := 95) (a := (I 6).toInt) hk dX12_tellOne_88 (by decide) rfl (fun c15383 => ?_) (fun c15383 => ?_)
        · skip
          refine g_aload_n hk dX12_tellOne_95 rfl ?_
          refine gM_i6 (v := (I 6)) hk hin12 (List.mem_cons_of_mem _ (List.mem_append_left _ (List.mem_of_getElem? (i := 6) rfl))) dX12_tellOne_96 rfl ?_
          refine g_if_ne (tgt := 190) (a := (I 6).toInt) hk dX12_tellOne_99 (by decide) rfl (fun _ => ?_) (fun z9 => absurd (show (I 6).toInt ≠ 0 from by omega) z9)
          have f15384 := IvM_f8 hIv
          exact g_vret hk hR ⟨I, A, L, (show Md [4, 6, 7, 8, 9, 11, 12, 13, 17] I I from Md.rf), (show Md [8, 9, 10, 11, 12, 13, 14, 15, 16] A A from Md.rf), hIv, (by omega), (by omega), (by omega), (by omega), rfl, rfl⟩ dX12_tellOne_190
        · skip
          refine g_aload_n hk dX12_tellOne_91 rfl ?_
          refine g_callV (n := 0) hk (j127_X12_goesOn l D zt r g I A L  hIv) (SP.same _) (fun _ h => h) (gi_V (List.mem_cons_of_mem _ (List.mem_append_left _ (List.mem_of_getElem? (i := 2) rfl))) (List.mem_cons_of_mem _ (List.mem_append_left _ (List.mem_of_getElem? (i := 3) rfl))) (List.mem_cons_of_mem _ (List.mem_append_left _ (List.mem_of_getElem? (i := 4) rfl))) (List.mem_cons_of_mem _ (List.mem_append_left _ (List.mem_of_getElem? (i := 5) rfl))) (gi_sub (fun w h => (List.mem_cons_of_mem _ (List.mem_append_right _ (List.mem_append_right _ (List.mem_append_left _ h))))) zg_j127_X12_goesOn)) rfl rfl rfl (by decide +kernel) ⟨Nat.le_of_ble_eq_true rfl, Nat.le_of_ble_eq_true rfl⟩ 0 rfl rfl rfl rfl (Nat.le_of_ble_eq_true rfl) ⟨Nat.le_of_ble_eq_true rfl, Nat.le_of_ble_eq_true rfl⟩ dX12_tellOne_92 (fun v ty' w' hp hk' => ?_)
          obtain ⟨I15386, A15386, L15386, hI15386, hA15386, hV15386, r15387, r15388, r15389, r15390, rfl, rfl⟩ := hp
          have f15391 := IvM_f4 hV15386
          have f15392 := IvM_f6 hV15386
          have f15393 := IvM_f8 hIv
          rw [show (I15386 8) = (I 8) from (hI15386 8 rfl)] at r15389
          show GW κ 1 0 0 (wM r g I15386 A15386 L15386) 95 [(0, .ref (r 0))] []
          refine g_aload_n hk dX12_tellOne_95 rfl ?_
          refine gM_i6 (v := (I15386 6)) hk hin12 (List.mem_cons_of_mem _ (List.mem_append_left _ (List.mem_of_getElem? (i := 6) rfl))) dX12_tellOne_96 rfl ?_
          refine g_if_ne (tgt := 190) (a := (I15386 6).toInt) hk dX12_tellOne_99 (by decide) rfl (fun c15394 => ?_) (fun c15394 => ?_)
          · skip
            exact g_vret hk hR ⟨I15386, A15386, L15386, (show Md [4, 6, 7, 8, 9, 11, 12, 13, 17] I I15386 from (Md.tr Md.rf hI15386 rfl)), (show Md [8, 9, 10, 11, 12, 13, 14, 15, 16] A A15386 from (Md.tr Md.rf hA15386 rfl)), hV15386, (by omega), (by omega), (by rw [show (I15386 8) = (I 8) from (hI15386 8 rfl)] <;> omega), (by omega), rfl, rfl⟩ dX12_tellOne_190
          · skip
            refine g_aload_n hk dX12_tellOne_102 rfl ?_
            have f15395 := IvM_f15 hIv
            have f15396 := IvM_s10_0 hIv
            refine g_callV (n := 0) hk (j135_X12_tellQuery l D zt r g I15386 A15386 L15386  hV15386 (by first | (rw [show (I15386 15) = (I 15) from (hI15386 15 rfl), show (I15386 16) = (I 16) from (hI15386 16 rfl)] <;> omega) | omega) (by first | (rw [show (I15386 16) = (I 16) from (hI15386 16 rfl), show (A15386 10 0) = (A 10 0) from (congrFun (hA15386 10 rfl) _)] <;> omega) | omega) (by first | (rw [show (I15386 16) = (I 16) from (hI15386 16 rfl), show (A15386 10 1) = (A 10 1) from (congrFun (hA15386 10 rfl) _)] <;> omega) | omega)) (SP.same _) (fun _ h => h) (gi_V (List.mem_cons_of_mem _ (List.mem_append_left _ (List.mem_of_getElem? (i := 12) rfl))) (List.mem_cons_of_mem _ (List.mem_append_left _ (List.mem_of_getElem? (i := 13) rfl))) (List.mem_cons_of_mem _ (List.mem_append_left _ (List.mem_of_getElem? (i := 14) rfl))) (List.mem_cons_of_mem _ (List.mem_append_left _ (List.mem_of_getElem? (i := 5) rfl))) (gi_sub (fun w h => (List.mem_cons_of_mem _ (List.mem_append_right _ (List.mem_append_right _ (List.mem_append_right _ (List.mem_append_right _ (List.mem_append_left _ h))))))) zg_j135_X12_tellQuery)) rfl rfl rfl (by decide +kernel) ⟨Nat.le_of_ble_eq_true rfl, Nat.le_of_ble_eq_true rfl⟩ 0 rfl rfl rfl rfl (Nat.le_of_ble_eq_true rfl) ⟨Nat.le_of_ble_eq_true rfl, Nat.le_of_ble_eq_true rfl⟩ dX12_tellOne_103 (fun v ty' w' hp hk' => ?_)
            obtain ⟨I15398, A15398, L15398, hI15398, hA15398, hV15398, r15399, r15400, r15401, rfl, rfl⟩ := hp
            have f15402 := IvM_f4 hV15398
            have f15403 := IvM_f6 hV15398
            have f15404 := IvM_f8 hV15398
            rw [show (I15386 8) = (I 8) from (hI15386 8 rfl)] at r15401
            show GW κ 1 0 0 (wM r g I15398 A15398 L15398) 106 [(0, .ref (r 0))] []
            refine g_goto (tgt := 190) hk dX12_tellOne_106 (by decide) ?_
            exact g_vret hk hR ⟨I15398, A15398, L15398, (show Md [4, 6, 7, 8, 9, 11, 12, 13, 17] I I15398 from (Md.tr (Md.tr Md.rf hI15386 rfl) hI15398 rfl)), (show Md [8, 9, 10, 11, 12, 13, 14, 15, 16] A A15398 from (Md.tr (Md.tr Md.rf hA15386 rfl) hA15398 rfl)), hV15398, (by omega), (by omega), (by omega), (by omega), rfl, rfl⟩ dX12_tellOne_190
      · skip
        refine g_aload_n hk dX12_tellOne_79 rfl ?_
        refine g_iconst (v := 2) hk dX12_tellOne_80 (by decide) ?_
        have k15405 : (2 : Int32).toInt = 2 := rfl
        refine g_callV (n := 1) hk (j128_X12_fail l D zt r g I A L 2 hIv (by decide) (by decide)) (SP.same _) (fun _ h => h) (gi_V (List.mem_cons_of_mem _ (List.mem_append_left _ (List.mem_of_getElem? (i := 15) rfl))) (List.mem_cons_of_mem _ (List.mem_append_left _ (List.mem_of_getElem? (i := 16) rfl))) (List.mem_cons_of_mem _ (List.mem_append_left _ (List.mem_of_getElem? (i := 17) rfl))) (List.mem_cons_of_mem _ (List.mem_append_left _ (List.mem_of_getElem? (i := 5) rfl))) (gi_sub (fun w h => (List.mem_cons_of_mem _ (List.mem_append_right _ (List.mem_append_right _ (List.mem_append_right _ (List.mem_append_right _ (List.mem_append_right _ (List.mem_append_left _ h)))))))) zg_j128_X12_fail)) rfl rfl rfl (by decide +kernel) ⟨Nat.le_of_ble_eq_true rfl, Nat.le_of_ble_eq_true rfl⟩ 0 rfl rfl rfl rfl (Nat.le_of_ble_eq_true rfl) ⟨Nat.le_of_ble_eq_true rfl, Nat.le_of_ble_eq_true rfl⟩ dX12_tellOne_81 (fun v ty' w' hp hk' => ?_)
        obtain ⟨I15407, A15407, L15407, hI15407, hA15407, hV15407, r15408, r15409, r15410, rfl, rfl⟩ := hp
        have f15411 := IvM_f6 hIv
        have f15412 := IvM_f6 hV15407
        have f15413 := IvM_f8 hIv
        rw [show (I15407 8) = (I 8) from (hI15407 8 rfl)] at r15409
        show GW κ 1 0 0 (wM r g I15407 A15407 L15407) 84 [(0, .ref (r 0))] []
        refine g_aload_n hk dX12_tellOne_84 rfl ?_
        refine gM_i6 (v := (I15407 6)) hk hin12 (List.mem_cons_of_mem _ (List.mem_append_left _ (List.mem_of_getElem? (i := 6) rfl))) dX12_tellOne_85 rfl ?_
        refine g_if_ne (tgt := 95) (a := (I15407 6).toInt) hk dX12_tellOne_88 (by decide) rfl (fun c15414 => ?_) (fun c15414 => ?_)
        · skip
          refine g_aload_n hk dX12_tellOne_95 rfl ?_
          refine gM_i6 (v := (I15407 6)) hk hin12 (List.mem_cons_of_mem _ (List.mem_append_left _ (List.mem_of_getElem? (i := 6) rfl))) dX12_tellOne_96 rfl ?_
          refine g_if_ne (tgt := 190) (a := (I15407 6).toInt) hk dX12_tellOne_99 (by decide) rfl (fun _ => ?_) (fun z9 => absurd (show (I15407 6).toInt ≠ 0 from by omega) z9)
          exact g_vret hk hR ⟨I15407, A15407, L15407, (show Md [4, 6, 7, 8, 9, 11, 12, 13, 17] I I15407 from (Md.tr Md.rf hI15407 rfl)), (show Md [8, 9, 10, 11, 12, 13, 14, 15, 16] A A15407 from (Md.tr Md.rf hA15407 rfl)), hV15407, (by rw [show (I15407 4) = (I 4) from (hI15407 4 rfl)] <;> omega), (by omega), (by rw [show (I15407 8) = (I 8) from (hI15407 8 rfl)] <;> omega), (by rw [show (I15407 4) = (I 4) from (hI15407 4 rfl)] <;> omega), rfl, rfl⟩ dX12_tellOne_190
        · skip
          refine g_aload_n hk dX12_tellOne_91 rfl ?_
          refine g_callV (n := 0) hk (j127_X12_goesOn l D zt r g I15407 A15407 L15407  hV15407) (SP.same _) (fun _ h => h) (gi_V (List.mem_cons_of_mem _ (List.mem_append_left _ (List.mem_of_getElem? (i := 2) rfl))) (List.mem_cons_of_mem _ (List.mem_append_left _ (List.mem_of_getElem? (i := 3) rfl))) (List.mem_cons_of_mem _ (List.mem_append_left _ (List.mem_of_getElem? (i := 4) rfl))) (List.mem_cons_of_mem _ (List.mem_append_left _ (List.mem_of_getElem? (i := 5) rfl))) (gi_sub (fun w h => (List.mem_cons_of_mem _ (List.mem_append_right _ (List.mem_append_right _ (List.mem_append_left _ h))))) zg_j127_X12_goesOn)) rfl rfl rfl (by decide +kernel) ⟨Nat.le_of_ble_eq_true rfl, Nat.le_of_ble_eq_true rfl⟩ 0 rfl rfl rfl rfl (Nat.le_of_ble_eq_true rfl) ⟨Nat.le_of_ble_eq_true rfl, Nat.le_of_ble_eq_true rfl⟩ dX12_tellOne_92 (fun v ty' w' hp hk' => ?_)
          obtain ⟨I15416, A15416, L15416, hI15416, hA15416, hV15416, r15417, r15418, r15419, r15420, rfl, rfl⟩ := hp
          have f15421 := IvM_f4 hV15416
          rw [show (I15407 4) = (I 4) from (hI15407 4 rfl)] at r15417
          have f15422 := IvM_f6 hV15416
          rw [show (I15407 8) = (I 8) from (hI15407 8 rfl), show (I15416 8) = (I 8) from ((hI15416 8 rfl).trans (hI15407 8 rfl))] at r15419
          rw [show (I15407 4) = (I 4) from (hI15407 4 rfl)] at r15420
          show GW κ 1 0 0 (wM r g I15416 A15416 L15416) 95 [(0, .ref (r 0))] []
          refine g_aload_n hk dX12_tellOne_95 rfl ?_
          refine gM_i6 (v := (I15416 6)) hk hin12 (List.mem_cons_of_mem _ (List.mem_append_left _ (List.mem_of_getElem? (i := 6) rfl))) dX12_tellOne_96 rfl ?_
          refine g_if_ne (tgt := 190) (a := (I15416 6).toInt) hk dX12_tellOne_99 (by decide) rfl (fun c15423 => ?_) (fun c15423 => ?_)
          · skip
            exact g_vret hk hR ⟨I15416, A15416, L15416, (show Md [4, 6, 7, 8, 9, 11, 12, 13, 17] I I15416 from (Md.tr (Md.tr Md.rf hI15407 rfl) hI15416 rfl)), (show Md [8, 9, 10, 11, 12, 13, 14, 15, 16] A A15416 from (Md.tr (Md.tr Md.rf hA15407 rfl) hA15416 rfl)), hV15416, (by omega), (by omega), (by rw [show (I15416 8) = (I 8) from ((hI15416 8 rfl).trans (hI15407 8 rfl))] <;> omega), (by omega), rfl, rfl⟩ dX12_tellOne_190
          · skip
            refine g_aload_n hk dX12_tellOne_102 rfl ?_
            have f15424 := IvM_f15 hIv
            have f15425 := IvM_s10_0 hIv
            refine g_callV (n := 0) hk (j135_X12_tellQuery l D zt r g I15416 A15416 L15416  hV15416 (by first | (rw [show (I15416 15) = (I 15) from ((hI15416 15 rfl).trans (hI15407 15 rfl)), show (I15416 16) = (I 16) from ((hI15416 16 rfl).trans (hI15407 16 rfl))] <;> omega) | omega) (by first | (rw [show (I15416 16) = (I 16) from ((hI15416 16 rfl).trans (hI15407 16 rfl)), show (A15416 10 0) = (A 10 0) from ((congrFun (hA15416 10 rfl) _).trans (congrFun (hA15407 10 rfl) _))] <;> omega) | omega) (by first | (rw [show (I15416 16) = (I 16) from ((hI15416 16 rfl).trans (hI15407 16 rfl)), show (A15416 10 1) = (A 10 1) from ((congrFun (hA15416 10 rfl) _).trans (congrFun (hA15407 10 rfl) _))] <;> omega) | omega)) (SP.same _) (fun _ h => h) (gi_V (List.mem_cons_of_mem _ (List.mem_append_left _ (List.mem_of_getElem? (i := 12) rfl))) (List.mem_cons_of_mem _ (List.mem_append_left _ (List.mem_of_getElem? (i := 13) rfl))) (List.mem_cons_of_mem _ (List.mem_append_left _ (List.mem_of_getElem? (i := 14) rfl))) (List.mem_cons_of_mem _ (List.mem_append_left _ (List.mem_of_getElem? (i := 5) rfl))) (gi_sub (fun w h => (List.mem_cons_of_mem _ (List.mem_append_right _ (List.mem_append_right _ (List.mem_append_right _ (List.mem_append_right _ (List.mem_append_left _ h))))))) zg_j135_X12_tellQuery)) rfl rfl rfl (by decide +kernel) ⟨Nat.le_of_ble_eq_true rfl, Nat.le_of_ble_eq_true rfl⟩ 0 rfl rfl rfl rfl (Nat.le_of_ble_eq_true rfl) ⟨Nat.le_of_ble_eq_true rfl, Nat.le_of_ble_eq_true rfl⟩ dX12_tellOne_103 (fun v ty' w' hp hk' => ?_)
            obtain ⟨I15427, A15427, L15427, hI15427, hA15427, hV15427, r15428, r15429, r15430, rfl, rfl⟩ := hp
            have f15431 := IvM_f4 hV15427
            have f15432 := IvM_f6 hV15427
            have f15433 := IvM_f8 hV15427
            rw [show (I15416 8) = (I 8) from ((hI15416 8 rfl).trans (hI15407 8 rfl))] at r15430
            show GW κ 1 0 0 (wM r g I15427 A15427 L15427) 106 [(0, .ref (r 0))] []
            refine g_goto (tgt := 190) hk dX12_tellOne_106 (by decide) ?_
            exact g_vret hk hR ⟨I15427, A15427, L15427, (show Md [4, 6, 7, 8, 9, 11, 12, 13, 17] I I15427 from (Md.tr (Md.tr (Md.tr Md.rf hI15407 rfl) hI15416 rfl) hI15427 rfl)), (show Md [8, 9, 10, 11, 12, 13, 14, 15, 16] A A15427 from (Md.tr (Md.tr (Md.tr Md.rf hA15407 rfl) hA15416 rfl) hA15427 rfl)), hV15427, (by omega), (by omega), (by omega), (by omega), rfl, rfl⟩ dX12_tellOne_190
    exfalso; omega
  by_cases c15434 : (A 2 (I 4).toNatClampNeg).toInt = 22
  · refine g_tabIn (tgt := 109) (a := 22) hk dX12_tellOne_9 c15434 (by decide) (by decide) rfl (by decide) ?_
    refine g_aload_n hk dX12_tellOne_109 rfl ?_
    refine gM_r0_31 hk hin12 (List.mem_cons_of_mem _ (List.mem_append_left _ (List.mem_of_getElem? (i := 18) rfl))) dX12_tellOne_110 ?_
    refine g_aload_n hk dX12_tellOne_113 rfl ?_
    refine gM_i16 (v := (I 16)) hk hin12 (List.mem_cons_of_mem _ (List.mem_append_left _ (List.mem_of_getElem? (i := 11) rfl))) dX12_tellOne_114 rfl ?_
    have f15435 := IvM_f16 hIv
    by_cases c15436 : (I 16).toInt = 0
    · have ec15436 : (I 16) = 0 := Int32.toInt_inj.mp c15436
      rw [ec15436]
      show GW κ 1 0 0 (wM r g I A L) 117 [(0, .ref (r 0))] [.int 0, .ref (r 14)]
      refine g_aload_n hk dX12_tellOne_117 rfl ?_
      refine g_iconst (v := 0) hk dX12_tellOne_118 (by decide) ?_
      refine g_bipush (v := 15) hk dX12_tellOne_119 (by decide) ?_
      have k15470 : (0 : Int32).toInt = 0 := rfl
      have k15471 : (15 : Int32).toInt = 15 := rfl
      refine g_callV (n := 2) hk (j136_X12_toldInt l D zt r g I A L 0 15 hIv) (SP.same _) (fun _ h => h) (gi_V (List.mem_cons_of_mem _ (List.mem_append_left _ (List.mem_of_getElem? (i := 19) rfl))) (List.mem_cons_of_mem _ (List.mem_append_left _ (List.mem_of_getElem? (i := 20) rfl))) (List.mem_cons_of_mem _ (List.mem_append_left _ (List.mem_of_getElem? (i := 21) rfl))) (List.mem_cons_of_mem _ (List.mem_append_left _ (List.mem_of_getElem? (i := 5) rfl))) (gi_sub (fun w h => (List.mem_cons_of_mem _ (List.mem_append_right _ (List.mem_append_right _ (List.mem_append_right _ (List.mem_append_right _ (List.mem_append_right _ (List.mem_append_right _ (List.mem_append_left _ h))))))))) zg_j136_X12_toldInt)) rfl rfl rfl (by decide +kernel) ⟨Nat.le_of_ble_eq_true rfl, Nat.le_of_ble_eq_true rfl⟩ 0 rfl rfl rfl rfl (Nat.le_of_ble_eq_true rfl) ⟨Nat.le_of_ble_eq_true rfl, Nat.le_of_ble_eq_true rfl⟩ dX12_tellOne_121 (fun v ty' w' hp hk' => ?_)
      obtain ⟨I15473, A15473, L15473, hI15473, hA15473, hV15473, y15472, r15474, r15475, r15476, r15477, r15478, rfl, rfl⟩ := hp
      have f15479 := IvM_f4 hV15473
      have f15480 := IvM_f6 hIv
      have f15481 := IvM_f6 hV15473
      have f15482 := IvM_f8 hIv
      have f15483 := IvM_f8 hV15473
      have b15484l := Int32.le_toInt y15472
      have b15484h := Int32.toInt_lt y15472
      show GW κ 1 0 0 (wM r g I15473 A15473 L15473) 124 [(0, .ref (r 0))] [.int y15472, .int 0, .ref (r 14)]
      refine sM_13 (j := 0) hk (vp_in_iff.mpr ⟨by decide, by decide⟩) (by decide) dX12_tellOne_124 ?_
      refine g_goto (tgt := 190) hk dX12_tellOne_125 (by decide) ?_
      exact g_vret hk hR ⟨I15473, (up3 A15473 13 0 y15472), L15473, (show Md [4, 6, 7, 8, 9, 11, 12, 13, 17] I I15473 from (Md.tr Md.rf hI15473 rfl)), (show Md [8, 9, 10, 11, 12, 13, 14, 15, 16] A (up3 A15473 13 0 y15472) from (Md.up3 (Md.tr Md.rf hA15473 rfl) rfl)), ⟨(IvM_f1 (I := I15473) (A := A15473) hV15473), (IvM_f2 (I := I15473) (A := A15473) hV15473), (IvM_f3 (I := I15473) (A := A15473) hV15473), (IvM_f4 (I := I15473) (A := A15473) hV15473), (IvM_f6 (I := I15473) (A := A15473) hV15473), (IvM_f8 (I := I15473) (A := A15473) hV15473), (IvM_f15 (I := I15473) (A := A15473) hV15473), (IvM_f16 (I := I15473) (A := A15473) hV15473), (IvM_f17 (I := I15473) (A := A15473) hV15473), (IvM_f18 (I := I15473) (A := A15473) hV15473), (IvM_f22 (I := I15473) (A := A15473) hV15473), (IvM_f23 (I := I15473) (A := A15473) hV15473), (IvM_f24 (I := I15473) (A := A15473) hV15473), (IvM_a11 (I := I15473) (A := A15473) hV15473), (IvM_a26 (I := I15473) (A := A15473) hV15473), (IvM_s8_0 (I := I15473) (A := A15473) hV15473), (IvM_s8_1 (I := I15473) (A := A15473) hV15473), (IvM_s10_0 (I := I15473) (A := A15473) hV15473), (IvM_s10_1 (I := I15473) (A := A15473) hV15473), (IvM_s17_0 (I := I15473) (A := A15473) hV15473), (IvM_s17_164 (I := I15473) (A := A15473) hV15473), (IvM_lv (I := I15473) (A := A15473) hV15473), (IvM_sd (I := I15473) (A := A15473) hV15473), (IvM_nq (I := I15473) (A := A15473) hV15473), (IvM_hr (I := I15473) (A := A15473) hV15473), (IvM_hh (I := I15473) (A := A15473) hV15473), trivial⟩, (by omega), (by omega), (by omega), (by omega), rfl, rfl⟩ dX12_tellOne_190
    by_cases c15485 : (I 16).toInt = 1
    · have ec15485 : (I 16) = 1 := Int32.toInt_inj.mp c15485
      rw [ec15485]
      show GW κ 1 0 0 (wM r g I A L) 117 [(0, .ref (r 0))] [.int 1, .ref (r 14)]
      refine g_aload_n hk dX12_tellOne_117 rfl ?_
      refine g_iconst (v := 0) hk dX12_tellOne_118 (by decide) ?_
      refine g_bipush (v := 15) hk dX12_tellOne_119 (by decide) ?_
      have k15486 : (0 : Int32).toInt = 0 := rfl
      have k15487 : (15 : Int32).toInt = 15 := rfl
      refine g_callV (n := 2) hk (j136_X12_toldInt l D zt r g I A L 0 15 hIv) (SP.same _) (fun _ h => h) (gi_V (List.mem_cons_of_mem _ (List.mem_append_left _ (List.mem_of_getElem? (i := 19) rfl))) (List.mem_cons_of_mem _ (List.mem_append_left _ (List.mem_of_getElem? (i := 20) rfl))) (List.mem_cons_of_mem _ (List.mem_append_left _ (List.mem_of_getElem? (i := 21) rfl))) (List.mem_cons_of_mem _ (List.mem_append_left _ (List.mem_of_getElem? (i := 5) rfl))) (gi_sub (fun w h => (List.mem_cons_of_mem _ (List.mem_append_right _ (List.mem_append_right _ (List.mem_append_right _ (List.mem_append_right _ (List.mem_append_right _ (List.mem_append_right _ (List.mem_append_left _ h))))))))) zg_j136_X12_toldInt)) rfl rfl rfl (by decide +kernel) ⟨Nat.le_of_ble_eq_true rfl, Nat.le_of_ble_eq_true rfl⟩ 0 rfl rfl rfl rfl (Nat.le_of_ble_eq_true rfl) ⟨Nat.le_of_ble_eq_true rfl, Nat.le_of_ble_eq_true rfl⟩ dX12_tellOne_121 (fun v ty' w' hp hk' => ?_)
      obtain ⟨I15489, A15489, L15489, hI15489, hA15489, hV15489, y15488, r15490, r15491, r15492, r15493, r15494, rfl, rfl⟩ := hp
      have f15495 := IvM_f4 hV15489
      have f15496 := IvM_f6 hIv
      have f15497 := IvM_f6 hV15489
      have f15498 := IvM_f8 hIv
      have f15499 := IvM_f8 hV15489
      have b15500l := Int32.le_toInt y15488
      have b15500h := Int32.toInt_lt y15488
      show GW κ 1 0 0 (wM r g I15489 A15489 L15489) 124 [(0, .ref (r 0))] [.int y15488, .int 1, .ref (r 14)]
      refine sM_13 (j := 1) hk (vp_in_iff.mpr ⟨by decide, by decide⟩) (by decide) dX12_tellOne_124 ?_
      refine g_goto (tgt := 190) hk dX12_tellOne_125 (by decide) ?_
      exact g_vret hk hR ⟨I15489, (up3 A15489 13 1 y15488), L15489, (show Md [4, 6, 7, 8, 9, 11, 12, 13, 17] I I15489 from (Md.tr Md.rf hI15489 rfl)), (show Md [8, 9, 10, 11, 12, 13, 14, 15, 16] A (up3 A15489 13 1 y15488) from (Md.up3 (Md.tr Md.rf hA15489 rfl) rfl)), ⟨(IvM_f1 (I := I15489) (A := A15489) hV15489), (IvM_f2 (I := I15489) (A := A15489) hV15489), (IvM_f3 (I := I15489) (A := A15489) hV15489), (IvM_f4 (I := I15489) (A := A15489) hV15489), (IvM_f6 (I := I15489) (A := A15489) hV15489), (IvM_f8 (I := I15489) (A := A15489) hV15489), (IvM_f15 (I := I15489) (A := A15489) hV15489), (IvM_f16 (I := I15489) (A := A15489) hV15489), (IvM_f17 (I := I15489) (A := A15489) hV15489), (IvM_f18 (I := I15489) (A := A15489) hV15489), (IvM_f22 (I := I15489) (A := A15489) hV15489), (IvM_f23 (I := I15489) (A := A15489) hV15489), (IvM_f24 (I := I15489) (A := A15489) hV15489), (IvM_a11 (I := I15489) (A := A15489) hV15489), (IvM_a26 (I := I15489) (A := A15489) hV15489), (IvM_s8_0 (I := I15489) (A := A15489) hV15489), (IvM_s8_1 (I := I15489) (A := A15489) hV15489), (IvM_s10_0 (I := I15489) (A := A15489) hV15489), (IvM_s10_1 (I := I15489) (A := A15489) hV15489), (IvM_s17_0 (I := I15489) (A := A15489) hV15489), (IvM_s17_164 (I := I15489) (A := A15489) hV15489), (IvM_lv (I := I15489) (A := A15489) hV15489), (IvM_sd (I := I15489) (A := A15489) hV15489), (IvM_nq (I := I15489) (A := A15489) hV15489), (IvM_hr (I := I15489) (A := A15489) hV15489), (IvM_hh (I := I15489) (A := A15489) hV15489), trivial⟩, (by omega), (by omega), (by omega), (by omega), rfl, rfl⟩ dX12_tellOne_190
    exfalso; omega
  by_cases c15501 : (A 2 (I 4).toNatClampNeg).toInt = 23
  · refine g_tabIn (tgt := 128) (a := 23) hk dX12_tellOne_9 c15501 (by decide) (by decide) rfl (by decide) ?_
    refine g_aload_n hk dX12_tellOne_128 rfl ?_
    refine gM_r0_32 hk hin12 (List.mem_cons_of_mem _ (List.mem_append_left _ (List.mem_of_getElem? (i := 22) rfl))) dX12_tellOne_129 ?_
    refine g_aload_n hk dX12_tellOne_132 rfl ?_
    refine gM_i16 (v := (I 16)) hk hin12 (List.mem_cons_of_mem _ (List.mem_append_left _ (List.mem_of_getElem? (i := 11) rfl))) dX12_tellOne_133 rfl ?_
    have f15502 := IvM_f16 hIv
    by_cases c15503 : (I 16).toInt = 0
    · have ec15503 : (I 16) = 0 := Int32.toInt_inj.mp c15503
      rw [ec15503]
      show GW κ 1 0 0 (wM r g I A L) 136 [(0, .ref (r 0))] [.int 0, .ref (r 15)]
      refine g_aload_n hk dX12_tellOne_136 rfl ?_
      refine g_bipush (v := 27) hk dX12_tellOne_137 (by decide) ?_
      refine g_iconst (v := 4) hk dX12_tellOne_139 (by decide) ?_
      have k15649 : (27 : Int32).toInt = 27 := rfl
      have k15650 : (4 : Int32).toInt = 4 := rfl
      refine g_callV (n := 2) hk (j137_X12_toldWord l D zt r g I A L 27 4 hIv) (SP.same _) (fun _ h => h) (gi_V (List.mem_cons_of_mem _ (List.mem_append_left _ (List.mem_of_getElem? (i := 23) rfl))) (List.mem_cons_of_mem _ (List.mem_append_left _ (List.mem_of_getElem? (i := 24) rfl))) (List.mem_cons_of_mem _ (List.mem_append_left _ (List.mem_of_getElem? (i := 25) rfl))) (List.mem_cons_of_mem _ (List.mem_append_left _ (List.mem_of_getElem? (i := 5) rfl))) (gi_sub (fun w h => (List.mem_cons_of_mem _ (List.mem_append_right _ (List.mem_append_right _ (List.mem_append_right _ (List.mem_append_right _ (List.mem_append_right _ (List.mem_append_right _ (List.mem_append_right _ (List.mem_append_left _ h)))))))))) zg_j137_X12_toldWord)) rfl rfl rfl (by decide +kernel) ⟨Nat.le_of_ble_eq_true rfl, Nat.le_of_ble_eq_true rfl⟩ 0 rfl rfl rfl rfl (Nat.le_of_ble_eq_true rfl) ⟨Nat.le_of_ble_eq_true rfl, Nat.le_of_ble_eq_true rfl⟩ dX12_tellOne_140 (fun v ty' w' hp hk' => ?_)
      obtain ⟨I15652, A15652, L15652, hI15652, hA15652, hV15652, y15651, r15653, r15654, r15655, r15656, rfl, rfl⟩ := hp
      have f15657 := IvM_f4 hV15652
      have f15658 := IvM_f6 hIv
      have f15659 := IvM_f6 hV15652
      have f15660 := IvM_f8 hIv
      rw [show (I15652 8) = (I 8) from (hI15652 8 rfl)] at r15655
      show GW κ 1 0 0 (wM r g I15652 A15652 L15652) 143 [(0, .ref (r 0))] [.int y15651, .int 0, .ref (r 15)]
      refine sM_14 (j := 0) hk (vp_in_iff.mpr ⟨by decide, by decide⟩) (by decide) dX12_tellOne_143 ?_
      refine g_goto (tgt := 190) hk dX12_tellOne_144 (by decide) ?_
      exact g_vret hk hR ⟨I15652, (up3 A15652 14 0 y15651), L15652, (show Md [4, 6, 7, 8, 9, 11, 12, 13, 17] I I15652 from (Md.tr Md.rf hI15652 rfl)), (show Md [8, 9, 10, 11, 12, 13, 14, 15, 16] A (up3 A15652 14 0 y15651) from (Md.up3 (Md.tr Md.rf hA15652 rfl) rfl)), ⟨(IvM_f1 (I := I15652) (A := A15652) hV15652), (IvM_f2 (I := I15652) (A := A15652) hV15652), (IvM_f3 (I := I15652) (A := A15652) hV15652), (IvM_f4 (I := I15652) (A := A15652) hV15652), (IvM_f6 (I := I15652) (A := A15652) hV15652), (IvM_f8 (I := I15652) (A := A15652) hV15652), (IvM_f15 (I := I15652) (A := A15652) hV15652), (IvM_f16 (I := I15652) (A := A15652) hV15652), (IvM_f17 (I := I15652) (A := A15652) hV15652), (IvM_f18 (I := I15652) (A := A15652) hV15652), (IvM_f22 (I := I15652) (A := A15652) hV15652), (IvM_f23 (I := I15652) (A := A15652) hV15652), (IvM_f24 (I := I15652) (A := A15652) hV15652), (IvM_a11 (I := I15652) (A := A15652) hV15652), (IvM_a26 (I := I15652) (A := A15652) hV15652), (IvM_s8_0 (I := I15652) (A := A15652) hV15652), (IvM_s8_1 (I := I15652) (A := A15652) hV15652), (IvM_s10_0 (I := I15652) (A := A15652) hV15652), (IvM_s10_1 (I := I15652) (A := A15652) hV15652), (IvM_s17_0 (I := I15652) (A := A15652) hV15652), (IvM_s17_164 (I := I15652) (A := A15652) hV15652), (IvM_lv (I := I15652) (A := A15652) hV15652), (IvM_sd (I := I15652) (A := A15652) hV15652), (IvM_nq (I := I15652) (A := A15652) hV15652), (IvM_hr (I := I15652) (A := A15652) hV15652), (IvM_hh (I := I15652) (A := A15652) hV15652), trivial⟩, (by omega), (by omega), (by rw [show (I15652 8) = (I 8) from (hI15652 8 rfl)] <;> omega), (by omega), rfl, rfl⟩ dX12_tellOne_190
    by_cases c15661 : (I 16).toInt = 1
    · have ec15661 : (I 16) = 1 := Int32.toInt_inj.mp c15661
      rw [ec15661]
      show GW κ 1 0 0 (wM r g I A L) 136 [(0, .ref (r 0))] [.int 1, .ref (r 15)]
      refine g_aload_n hk dX12_tellOne_136 rfl ?_
      refine g_bipush (v := 27) hk dX12_tellOne_137 (by decide) ?_
      refine g_iconst (v := 4) hk dX12_tellOne_139 (by decide) ?_
      have k15662 : (27 : Int32).toInt = 27 := rfl
      have k15663 : (4 : Int32).toInt = 4 := rfl
      refine g_callV (n := 2) hk (j137_X12_toldWord l D zt r g I A L 27 4 hIv) (SP.same _) (fun _ h => h) (gi_V (List.mem_cons_of_mem _ (List.mem_append_left _ (List.mem_of_getElem? (i := 23) rfl))) (List.mem_cons_of_mem _ (List.mem_append_left _ (List.mem_of_getElem? (i := 24) rfl))) (List.mem_cons_of_mem _ (List.mem_append_left _ (List.mem_of_getElem? (i := 25) rfl))) (List.mem_cons_of_mem _ (List.mem_append_left _ (List.mem_of_getElem? (i := 5) rfl))) (gi_sub (fun w h => (List.mem_cons_of_mem _ (List.mem_append_right _ (List.mem_append_right _ (List.mem_append_right _ (List.mem_append_right _ (List.mem_append_right _ (List.mem_append_right _ (List.mem_append_right _ (List.mem_append_left _ h)))))))))) zg_j137_X12_toldWord)) rfl rfl rfl (by decide +kernel) ⟨Nat.le_of_ble_eq_true rfl, Nat.le_of_ble_eq_true rfl⟩ 0 rfl rfl rfl rfl (Nat.le_of_ble_eq_true rfl) ⟨Nat.le_of_ble_eq_true rfl, Nat.le_of_ble_eq_true rfl⟩ dX12_tellOne_140 (fun v ty' w' hp hk' => ?_)
      obtain ⟨I15665, A15665, L15665, hI15665, hA15665, hV15665, y15664, r15666, r15667, r15668, r15669, rfl, rfl⟩ := hp
      have f15670 := IvM_f4 hV15665
      have f15671 := IvM_f6 hIv
      have f15672 := IvM_f6 hV15665
      have f15673 := IvM_f8 hIv
      rw [show (I15665 8) = (I 8) from (hI15665 8 rfl)] at r15668
      show GW κ 1 0 0 (wM r g I15665 A15665 L15665) 143 [(0, .ref (r 0))] [.int y15664, .int 1, .ref (r 15)]
      refine sM_14 (j := 1) hk (vp_in_iff.mpr ⟨by decide, by decide⟩) (by decide) dX12_tellOne_143 ?_
      refine g_goto (tgt := 190) hk dX12_tellOne_144 (by decide) ?_
      exact g_vret hk hR ⟨I15665, (up3 A15665 14 1 y15664), L15665, (show Md [4, 6, 7, 8, 9, 11, 12, 13, 17] I I15665 from (Md.tr Md.rf hI15665 rfl)), (show Md [8, 9, 10, 11, 12, 13, 14, 15, 16] A (up3 A15665 14 1 y15664) from (Md.up3 (Md.tr Md.rf hA15665 rfl) rfl)), ⟨(IvM_f1 (I := I15665) (A := A15665) hV15665), (IvM_f2 (I := I15665) (A := A15665) hV15665), (IvM_f3 (I := I15665) (A := A15665) hV15665), (IvM_f4 (I := I15665) (A := A15665) hV15665), (IvM_f6 (I := I15665) (A := A15665) hV15665), (IvM_f8 (I := I15665) (A := A15665) hV15665), (IvM_f15 (I := I15665) (A := A15665) hV15665), (IvM_f16 (I := I15665) (A := A15665) hV15665), (IvM_f17 (I := I15665) (A := A15665) hV15665), (IvM_f18 (I := I15665) (A := A15665) hV15665), (IvM_f22 (I := I15665) (A := A15665) hV15665), (IvM_f23 (I := I15665) (A := A15665) hV15665), (IvM_f24 (I := I15665) (A := A15665) hV15665), (IvM_a11 (I := I15665) (A := A15665) hV15665), (IvM_a26 (I := I15665) (A := A15665) hV15665), (IvM_s8_0 (I := I15665) (A := A15665) hV15665), (IvM_s8_1 (I := I15665) (A := A15665) hV15665), (IvM_s10_0 (I := I15665) (A := A15665) hV15665), (IvM_s10_1 (I := I15665) (A := A15665) hV15665), (IvM_s17_0 (I := I15665) (A := A15665) hV15665), (IvM_s17_164 (I := I15665) (A := A15665) hV15665), (IvM_lv (I := I15665) (A := A15665) hV15665), (IvM_sd (I := I15665) (A := A15665) hV15665), (IvM_nq (I := I15665) (A := A15665) hV15665), (IvM_hr (I := I15665) (A := A15665) hV15665), (IvM_hh (I := I15665) (A := A15665) hV15665), trivial⟩, (by omega), (by omega), (by rw [show (I15665 8) = (I 8) from (hI15665 8 rfl)] <;> omega), (by omega), rfl, rfl⟩ dX12_tellOne_190
    exfalso; omega
  by_cases c15674 : (A 2 (I 4).toNatClampNeg).toInt = 24
  · refine g_tabIn (tgt := 147) (a := 24) hk dX12_tellOne_9 c15674 (by decide) (by decide) rfl (by decide) ?_
    refine g_aload_n hk dX12_tellOne_147 rfl ?_
    refine gM_r0_33 hk hin12 (List.mem_cons_of_mem _ (List.mem_append_left _ (List.mem_of_getElem? (i := 26) rfl))) dX12_tellOne_148 ?_
    refine g_aload_n hk dX12_tellOne_151 rfl ?_
    refine gM_i16 (v := (I 16)) hk hin12 (List.mem_cons_of_mem _ (List.mem_append_left _ (List.mem_of_getElem? (i := 11) rfl))) dX12_tellOne_152 rfl ?_
    have f15675 := IvM_f16 hIv
    by_cases c15676 : (I 16).toInt = 0
    · have ec15676 : (I 16) = 0 := Int32.toInt_inj.mp c15676
      rw [ec15676]
      show GW κ 1 0 0 (wM r g I A L) 155 [(0, .ref (r 0))] [.int 0, .ref (r 16)]
      refine g_aload_n hk dX12_tellOne_155 rfl ?_
      refine g_bipush (v := 31) hk dX12_tellOne_156 (by decide) ?_
      refine g_iconst (v := 2) hk dX12_tellOne_158 (by decide) ?_
      have k15677 : (31 : Int32).toInt = 31 := rfl
      have k15678 : (2 : Int32).toInt = 2 := rfl
      refine g_callV (n := 2) hk (j137_X12_toldWord l D zt r g I A L 31 2 hIv) (SP.same _) (fun _ h => h) (gi_V (List.mem_cons_of_mem _ (List.mem_append_left _ (List.mem_of_getElem? (i := 23) rfl))) (List.mem_cons_of_mem _ (List.mem_append_left _ (List.mem_of_getElem? (i := 24) rfl))) (List.mem_cons_of_mem _ (List.mem_append_left _ (List.mem_of_getElem? (i := 25) rfl))) (List.mem_cons_of_mem _ (List.mem_append_left _ (List.mem_of_getElem? (i := 5) rfl))) (gi_sub (fun w h => (List.mem_cons_of_mem _ (List.mem_append_right _ (List.mem_append_right _ (List.mem_append_right _ (List.mem_append_right _ (List.mem_append_right _ (List.mem_append_right _ (List.mem_append_right _ (List.mem_append_left _ h)))))))))) zg_j137_X12_toldWord)) rfl rfl rfl (by decide +kernel) ⟨Nat.le_of_ble_eq_true rfl, Nat.le_of_ble_eq_true rfl⟩ 0 rfl rfl rfl rfl (Nat.le_of_ble_eq_true rfl) ⟨Nat.le_of_ble_eq_true rfl, Nat.le_of_ble_eq_true rfl⟩ dX12_tellOne_159 (fun v ty' w' hp hk' => ?_)
      obtain ⟨I15680, A15680, L15680, hI15680, hA15680, hV15680, y15679, r15681, r15682, r15683, r15684, rfl, rfl⟩ := hp
      have f15685 := IvM_f4 hV15680
      have f15686 := IvM_f6 hIv
      have f15687 := IvM_f6 hV15680
      have f15688 := IvM_f8 hIv
      rw [show (I15680 8) = (I 8) from (hI15680 8 rfl)] at r15683
      show GW κ 1 0 0 (wM r g I15680 A15680 L15680) 162 [(0, .ref (r 0))] [.int y15679, .int 0, .ref (r 16)]
      refine sM_15 (j := 0) hk (vp_in_iff.mpr ⟨by decide, by decide⟩) (by decide) dX12_tellOne_162 ?_
      refine g_goto (tgt := 190) hk dX12_tellOne_163 (by decide) ?_
      exact g_vret hk hR ⟨I15680, (up3 A15680 15 0 y15679), L15680, (show Md [4, 6, 7, 8, 9, 11, 12, 13, 17] I I15680 from (Md.tr Md.rf hI15680 rfl)), (show Md [8, 9, 10, 11, 12, 13, 14, 15, 16] A (up3 A15680 15 0 y15679) from (Md.up3 (Md.tr Md.rf hA15680 rfl) rfl)), ⟨(IvM_f1 (I := I15680) (A := A15680) hV15680), (IvM_f2 (I := I15680) (A := A15680) hV15680), (IvM_f3 (I := I15680) (A := A15680) hV15680), (IvM_f4 (I := I15680) (A := A15680) hV15680), (IvM_f6 (I := I15680) (A := A15680) hV15680), (IvM_f8 (I := I15680) (A := A15680) hV15680), (IvM_f15 (I := I15680) (A := A15680) hV15680), (IvM_f16 (I := I15680) (A := A15680) hV15680), (IvM_f17 (I := I15680) (A := A15680) hV15680), (IvM_f18 (I := I15680) (A := A15680) hV15680), (IvM_f22 (I := I15680) (A := A15680) hV15680), (IvM_f23 (I := I15680) (A := A15680) hV15680), (IvM_f24 (I := I15680) (A := A15680) hV15680), (IvM_a11 (I := I15680) (A := A15680) hV15680), (IvM_a26 (I := I15680) (A := A15680) hV15680), (IvM_s8_0 (I := I15680) (A := A15680) hV15680), (IvM_s8_1 (I := I15680) (A := A15680) hV15680), (IvM_s10_0 (I := I15680) (A := A15680) hV15680), (IvM_s10_1 (I := I15680) (A := A15680) hV15680), (IvM_s17_0 (I := I15680) (A := A15680) hV15680), (IvM_s17_164 (I := I15680) (A := A15680) hV15680), (IvM_lv (I := I15680) (A := A15680) hV15680), (IvM_sd (I := I15680) (A := A15680) hV15680), (IvM_nq (I := I15680) (A := A15680) hV15680), (IvM_hr (I := I15680) (A := A15680) hV15680), (IvM_hh (I := I15680) (A := A15680) hV15680), trivial⟩, (by omega), (by omega), (by rw [show (I15680 8) = (I 8) from (hI15680 8 rfl)] <;> omega), (by omega), rfl, rfl⟩ dX12_tellOne_190
    by_cases c15689 : (I 16).toInt = 1
    · have ec15689 : (I 16) = 1 := Int32.toInt_inj.mp c15689
      rw [ec15689]
      show GW κ 1 0 0 (wM r g I A L) 155 [(0, .ref (r 0))] [.int 1, .ref (r 16)]
      refine g_aload_n hk dX12_tellOne_155 rfl ?_
      refine g_bipush (v := 31) hk dX12_tellOne_156 (by decide) ?_
      refine g_iconst (v := 2) hk dX12_tellOne_158 (by decide) ?_
      have k15690 : (31 : Int32).toInt = 31 := rfl
      have k15691 : (2 : Int32).toInt = 2 := rfl
      refine g_callV (n := 2) hk (j137_X12_toldWord l D zt r g I A L 31 2 hIv) (SP.same _) (fun _ h => h) (gi_V (List.mem_cons_of_mem _ (List.mem_append_left _ (List.mem_of_getElem? (i := 23) rfl))) (List.mem_cons_of_mem _ (List.mem_append_left _ (List.mem_of_getElem? (i := 24) rfl))) (List.mem_cons_of_mem _ (List.mem_append_left _ (List.mem_of_getElem? (i := 25) rfl))) (List.mem_cons_of_mem _ (List.mem_append_left _ (List.mem_of_getElem? (i := 5) rfl))) (gi_sub (fun w h => (List.mem_cons_of_mem _ (List.mem_append_right _ (List.mem_append_right _ (List.mem_append_right _ (List.mem_append_right _ (List.mem_append_right _ (List.mem_append_right _ (List.mem_append_right _ (List.mem_append_left _ h)))))))))) zg_j137_X12_toldWord)) rfl rfl rfl (by decide +kernel) ⟨Nat.le_of_ble_eq_true rfl, Nat.le_of_ble_eq_true rfl⟩ 0 rfl rfl rfl rfl (Nat.le_of_ble_eq_true rfl) ⟨Nat.le_of_ble_eq_true rfl, Nat.le_of_ble_eq_true rfl⟩ dX12_tellOne_159 (fun v ty' w' hp hk' => ?_)
      obtain ⟨I15693, A15693, L15693, hI15693, hA15693, hV15693, y15692, r15694, r15695, r15696, r15697, rfl, rfl⟩ := hp
      have f15698 := IvM_f4 hV15693
      have f15699 := IvM_f6 hIv
      have f15700 := IvM_f6 hV15693
      have f15701 := IvM_f8 hIv
      rw [show (I15693 8) = (I 8) from (hI15693 8 rfl)] at r15696
      show GW κ 1 0 0 (wM r g I15693 A15693 L15693) 162 [(0, .ref (r 0))] [.int y15692, .int 1, .ref (r 16)]
      refine sM_15 (j := 1) hk (vp_in_iff.mpr ⟨by decide, by decide⟩) (by decide) dX12_tellOne_162 ?_
      refine g_goto (tgt := 190) hk dX12_tellOne_163 (by decide) ?_
      exact g_vret hk hR ⟨I15693, (up3 A15693 15 1 y15692), L15693, (show Md [4, 6, 7, 8, 9, 11, 12, 13, 17] I I15693 from (Md.tr Md.rf hI15693 rfl)), (show Md [8, 9, 10, 11, 12, 13, 14, 15, 16] A (up3 A15693 15 1 y15692) from (Md.up3 (Md.tr Md.rf hA15693 rfl) rfl)), ⟨(IvM_f1 (I := I15693) (A := A15693) hV15693), (IvM_f2 (I := I15693) (A := A15693) hV15693), (IvM_f3 (I := I15693) (A := A15693) hV15693), (IvM_f4 (I := I15693) (A := A15693) hV15693), (IvM_f6 (I := I15693) (A := A15693) hV15693), (IvM_f8 (I := I15693) (A := A15693) hV15693), (IvM_f15 (I := I15693) (A := A15693) hV15693), (IvM_f16 (I := I15693) (A := A15693) hV15693), (IvM_f17 (I := I15693) (A := A15693) hV15693), (IvM_f18 (I := I15693) (A := A15693) hV15693), (IvM_f22 (I := I15693) (A := A15693) hV15693), (IvM_f23 (I := I15693) (A := A15693) hV15693), (IvM_f24 (I := I15693) (A := A15693) hV15693), (IvM_a11 (I := I15693) (A := A15693) hV15693), (IvM_a26 (I := I15693) (A := A15693) hV15693), (IvM_s8_0 (I := I15693) (A := A15693) hV15693), (IvM_s8_1 (I := I15693) (A := A15693) hV15693), (IvM_s10_0 (I := I15693) (A := A15693) hV15693), (IvM_s10_1 (I := I15693) (A := A15693) hV15693), (IvM_s17_0 (I := I15693) (A := A15693) hV15693), (IvM_s17_164 (I := I15693) (A := A15693) hV15693), (IvM_lv (I := I15693) (A := A15693) hV15693), (IvM_sd (I := I15693) (A := A15693) hV15693), (IvM_nq (I := I15693) (A := A15693) hV15693), (IvM_hr (I := I15693) (A := A15693) hV15693), (IvM_hh (I := I15693) (A := A15693) hV15693), trivial⟩, (by omega), (by omega), (by rw [show (I15693 8) = (I 8) from (hI15693 8 rfl)] <;> omega), (by omega), rfl, rfl⟩ dX12_tellOne_190
    exfalso; omega
  by_cases c15702 : (A 2 (I 4).toNatClampNeg).toInt = 25
  · refine g_tabIn (tgt := 166) (a := 25) hk dX12_tellOne_9 c15702 (by decide) (by decide) rfl (by decide) ?_
    refine g_aload_n hk dX12_tellOne_166 rfl ?_
    refine gM_r0_34 hk hin12 (List.mem_cons_of_mem _ (List.mem_append_left _ (List.mem_of_getElem? (i := 27) rfl))) dX12_tellOne_167 ?_
    refine g_aload_n hk dX12_tellOne_170 rfl ?_
    refine gM_i16 (v := (I 16)) hk hin12 (List.mem_cons_of_mem _ (List.mem_append_left _ (List.mem_of_getElem? (i := 11) rfl))) dX12_tellOne_171 rfl ?_
    have f15703 := IvM_f16 hIv
    by_cases c15704 : (I 16).toInt = 0
    · have ec15704 : (I 16) = 0 := Int32.toInt_inj.mp c15704
      rw [ec15704]
      show GW κ 1 0 0 (wM r g I A L) 174 [(0, .ref (r 0))] [.int 0, .ref (r 17)]
      refine g_aload_n hk dX12_tellOne_174 rfl ?_
      refine g_iconst (v := 1) hk dX12_tellOne_175 (by decide) ?_
      refine g_bipush (v := 99) hk dX12_tellOne_176 (by decide) ?_
      have k15705 : (1 : Int32).toInt = 1 := rfl
      have k15706 : (99 : Int32).toInt = 99 := rfl
      refine g_callV (n := 2) hk (j136_X12_toldInt l D zt r g I A L 1 99 hIv) (SP.same _) (fun _ h => h) (gi_V (List.mem_cons_of_mem _ (List.mem_append_left _ (List.mem_of_getElem? (i := 19) rfl))) (List.mem_cons_of_mem _ (List.mem_append_left _ (List.mem_of_getElem? (i := 20) rfl))) (List.mem_cons_of_mem _ (List.mem_append_left _ (List.mem_of_getElem? (i := 21) rfl))) (List.mem_cons_of_mem _ (List.mem_append_left _ (List.mem_of_getElem? (i := 5) rfl))) (gi_sub (fun w h => (List.mem_cons_of_mem _ (List.mem_append_right _ (List.mem_append_right _ (List.mem_append_right _ (List.mem_append_right _ (List.mem_append_right _ (List.mem_append_right _ (List.mem_append_left _ h))))))))) zg_j136_X12_toldInt)) rfl rfl rfl (by decide +kernel) ⟨Nat.le_of_ble_eq_true rfl, Nat.le_of_ble_eq_true rfl⟩ 0 rfl rfl rfl rfl (Nat.le_of_ble_eq_true rfl) ⟨Nat.le_of_ble_eq_true rfl, Nat.le_of_ble_eq_true rfl⟩ dX12_tellOne_178 (fun v ty' w' hp hk' => ?_)
      obtain ⟨I15708, A15708, L15708, hI15708, hA15708, hV15708, y15707, r15709, r15710, r15711, r15712, r15713, rfl, rfl⟩ := hp
      have f15714 := IvM_f4 hV15708
      have f15715 := IvM_f6 hIv
      have f15716 := IvM_f6 hV15708
      have f15717 := IvM_f8 hIv
      have f15718 := IvM_f8 hV15708
      have b15719l := Int32.le_toInt y15707
      have b15719h := Int32.toInt_lt y15707
      show GW κ 1 0 0 (wM r g I15708 A15708 L15708) 181 [(0, .ref (r 0))] [.int y15707, .int 0, .ref (r 17)]
      refine sM_16 (j := 0) hk (vp_in_iff.mpr ⟨by decide, by decide⟩) (by decide) dX12_tellOne_181 ?_
      refine g_goto (tgt := 190) hk dX12_tellOne_182 (by decide) ?_
      have g15720 : (I15708 15).toInt = (I 15).toInt := by rw [show (I15708 15) = (I 15) from (hI15708 15 rfl)]
      have g15721 : (I15708 16).toInt = (I 16).toInt := by rw [show (I15708 16) = (I 16) from (hI15708 16 rfl)]
      have g15722 := IvM_s10_0 (I := I15708) (A := A15708) hV15708
      have g15723 := IvM_s10_1 (I := I15708) (A := A15708) hV15708
      exact g_vret hk hR ⟨I15708, (up3 A15708 16 0 y15707), L15708, (show Md [4, 6, 7, 8, 9, 11, 12, 13, 17] I I15708 from (Md.tr Md.rf hI15708 rfl)), (show Md [8, 9, 10, 11, 12, 13, 14, 15, 16] A (up3 A15708 16 0 y15707) from (Md.up3 (Md.tr Md.rf hA15708 rfl) rfl)), ⟨(IvM_f1 (I := I15708) (A := A15708) hV15708), (IvM_f2 (I := I15708) (A := A15708) hV15708), (IvM_f3 (I := I15708) (A := A15708) hV15708), (IvM_f4 (I := I15708) (A := A15708) hV15708), (IvM_f6 (I := I15708) (A := A15708) hV15708), (IvM_f8 (I := I15708) (A := A15708) hV15708), (IvM_f15 (I := I15708) (A := A15708) hV15708), (IvM_f16 (I := I15708) (A := A15708) hV15708), (IvM_f17 (I := I15708) (A := A15708) hV15708), (IvM_f18 (I := I15708) (A := A15708) hV15708), (IvM_f22 (I := I15708) (A := A15708) hV15708), (IvM_f23 (I := I15708) (A := A15708) hV15708), (IvM_f24 (I := I15708) (A := A15708) hV15708), (IvM_a11 (I := I15708) (A := A15708) hV15708), (IvM_a26 (I := I15708) (A := A15708) hV15708), (IvM_s8_0 (I := I15708) (A := A15708) hV15708), (IvM_s8_1 (I := I15708) (A := A15708) hV15708), (IvM_s10_0 (I := I15708) (A := A15708) hV15708), (IvM_s10_1 (I := I15708) (A := A15708) hV15708), (IvM_s17_0 (I := I15708) (A := A15708) hV15708), (IvM_s17_164 (I := I15708) (A := A15708) hV15708), ⟨fun e => by have e : (I15708 15).toInt = 0 := e; first | exact (IvM_lv (I := I15708) (A := A15708) hV15708).1 e | (exfalso; omega), fun e => by have e : (I15708 15).toInt = 1 := e; first | exact (IvM_lv (I := I15708) (A := A15708) hV15708).2 e | (exfalso; omega)⟩, (by by_cases g6 : (I15708 6).toInt ≠ 0; exact Or.inl g6; by_cases g8 : (I15708 8).toInt ≠ 0; exact Or.inr (Or.inl g8); rcases (IvM_sd (I := I15708) (A := A15708) hV15708) with h9 | h9 | h9; exact absurd h9 g6; exact absurd h9 g8; exact Or.inr (Or.inr ⟨fun e => by have e : (I15708 16).toInt = 0 := e; first | exact ghf_a (a2 := y15707) (h9.1 e) (by omega) | (exfalso; omega), fun e => by have e : (I15708 16).toInt = 1 := e; first | exact ghf_a (a2 := (A15708 16 1)) (h9.2 e) (by omega) | (exfalso; omega)⟩)), (IvM_nq (I := I15708) (A := A15708) hV15708), (IvM_hr (I := I15708) (A := A15708) hV15708), (IvM_hh (I := I15708) (A := A15708) hV15708), trivial⟩, (by omega), (by omega), (by omega), (by omega), rfl, rfl⟩ dX12_tellOne_190
    by_cases c15724 : (I 16).toInt = 1
    · have ec15724 : (I 16) = 1 := Int32.toInt_inj.mp c15724
      rw [ec15724]
      show GW κ 1 0 0 (wM r g I A L) 174 [(0, .ref (r 0))] [.int 1, .ref (r 17)]
      refine g_aload_n hk dX12_tellOne_174 rfl ?_
      refine g_iconst (v := 1) hk dX12_tellOne_175 (by decide) ?_
      refine g_bipush (v := 99) hk dX12_tellOne_176 (by decide) ?_
      have k15725 : (1 : Int32).toInt = 1 := rfl
      have k15726 : (99 : Int32).toInt = 99 := rfl
      refine g_callV (n := 2) hk (j136_X12_toldInt l D zt r g I A L 1 99 hIv) (SP.same _) (fun _ h => h) (gi_V (List.mem_cons_of_mem _ (List.mem_append_left _ (List.mem_of_getElem? (i := 19) rfl))) (List.mem_cons_of_mem _ (List.mem_append_left _ (List.mem_of_getElem? (i := 20) rfl))) (List.mem_cons_of_mem _ (List.mem_append_left _ (List.mem_of_getElem? (i := 21) rfl))) (List.mem_cons_of_mem _ (List.mem_append_left _ (List.mem_of_getElem? (i := 5) rfl))) (gi_sub (fun w h => (List.mem_cons_of_mem _ (List.mem_append_right _ (List.mem_append_right _ (List.mem_append_right _ (List.mem_append_right _ (List.mem_append_right _ (List.mem_append_right _ (List.mem_append_left _ h))))))))) zg_j136_X12_toldInt)) rfl rfl rfl (by decide +kernel) ⟨Nat.le_of_ble_eq_true rfl, Nat.le_of_ble_eq_true rfl⟩ 0 rfl rfl rfl rfl (Nat.le_of_ble_eq_true rfl) ⟨Nat.le_of_ble_eq_true rfl, Nat.le_of_ble_eq_true rfl⟩ dX12_tellOne_178 (fun v ty' w' hp hk' => ?_)
      obtain ⟨I15728, A15728, L15728, hI15728, hA15728, hV15728, y15727, r15729, r15730, r15731, r15732, r15733, rfl, rfl⟩ := hp
      have f15734 := IvM_f4 hV15728
      have f15735 := IvM_f6 hIv
      have f15736 := IvM_f6 hV15728
      have f15737 := IvM_f8 hIv
      have f15738 := IvM_f8 hV15728
      have b15739l := Int32.le_toInt y15727
      have b15739h := Int32.toInt_lt y15727
      show GW κ 1 0 0 (wM r g I15728 A15728 L15728) 181 [(0, .ref (r 0))] [.int y15727, .int 1, .ref (r 17)]
      refine sM_16 (j := 1) hk (vp_in_iff.mpr ⟨by decide, by decide⟩) (by decide) dX12_tellOne_181 ?_
      refine g_goto (tgt := 190) hk dX12_tellOne_182 (by decide) ?_
      have g15740 : (I15728 15).toInt = (I 15).toInt := by rw [show (I15728 15) = (I 15) from (hI15728 15 rfl)]
      have g15741 : (I15728 16).toInt = (I 16).toInt := by rw [show (I15728 16) = (I 16) from (hI15728 16 rfl)]
      have g15742 := IvM_s10_0 (I := I15728) (A := A15728) hV15728
      have g15743 := IvM_s10_1 (I := I15728) (A := A15728) hV15728
      exact g_vret hk hR ⟨I15728, (up3 A15728 16 1 y15727), L15728, (show Md [4, 6, 7, 8, 9, 11, 12, 13, 17] I I15728 from (Md.tr Md.rf hI15728 rfl)), (show Md [8, 9, 10, 11, 12, 13, 14, 15, 16] A (up3 A15728 16 1 y15727) from (Md.up3 (Md.tr Md.rf hA15728 rfl) rfl)), ⟨(IvM_f1 (I := I15728) (A := A15728) hV15728), (IvM_f2 (I := I15728) (A := A15728) hV15728), (IvM_f3 (I := I15728) (A := A15728) hV15728), (IvM_f4 (I := I15728) (A := A15728) hV15728), (IvM_f6 (I := I15728) (A := A15728) hV15728), (IvM_f8 (I := I15728) (A := A15728) hV15728), (IvM_f15 (I := I15728) (A := A15728) hV15728), (IvM_f16 (I := I15728) (A := A15728) hV15728), (IvM_f17 (I := I15728) (A := A15728) hV15728), (IvM_f18 (I := I15728) (A := A15728) hV15728), (IvM_f22 (I := I15728) (A := A15728) hV15728), (IvM_f23 (I := I15728) (A := A15728) hV15728), (IvM_f24 (I := I15728) (A := A15728) hV15728), (IvM_a11 (I := I15728) (A := A15728) hV15728), (IvM_a26 (I := I15728) (A := A15728) hV15728), (IvM_s8_0 (I := I15728) (A := A15728) hV15728), (IvM_s8_1 (I := I15728) (A := A15728) hV15728), (IvM_s10_0 (I := I15728) (A := A15728) hV15728), (IvM_s10_1 (I := I15728) (A := A15728) hV15728), (IvM_s17_0 (I := I15728) (A := A15728) hV15728), (IvM_s17_164 (I := I15728) (A := A15728) hV15728), ⟨fun e => by have e : (I15728 15).toInt = 0 := e; first | exact (IvM_lv (I := I15728) (A := A15728) hV15728).1 e | (exfalso; omega), fun e => by have e : (I15728 15).toInt = 1 := e; first | exact (IvM_lv (I := I15728) (A := A15728) hV15728).2 e | (exfalso; omega)⟩, (by by_cases g6 : (I15728 6).toInt ≠ 0; exact Or.inl g6; by_cases g8 : (I15728 8).toInt ≠ 0; exact Or.inr (Or.inl g8); rcases (IvM_sd (I := I15728) (A := A15728) hV15728) with h9 | h9 | h9; exact absurd h9 g6; exact absurd h9 g8; exact Or.inr (Or.inr ⟨fun e => by have e : (I15728 16).toInt = 0 := e; first | exact ghf_a (a2 := (A15728 16 0)) (h9.1 e) (by omega) | (exfalso; omega), fun e => by have e : (I15728 16).toInt = 1 := e; first | exact ghf_a (a2 := y15727) (h9.2 e) (by omega) | (exfalso; omega)⟩)), (IvM_nq (I := I15728) (A := A15728) hV15728), (IvM_hr (I := I15728) (A := A15728) hV15728), (IvM_hh (I := I15728) (A := A15728) hV15728), trivial⟩, (by omega), (by omega), (by omega), (by omega), rfl, rfl⟩ dX12_tellOne_190
    exfalso; omega
  refine g_tabOut (tgt := 185) (a := (A 2 (I 4).toNatClampNeg).toInt) hk dX12_tellOne_9 rfl (by omega) (by decide) ?_
  refine g_aload_n hk dX12_tellOne_185 rfl ?_
  refine g_iconst (v := 1) hk dX12_tellOne_186 (by decide) ?_
  have k15744 : (1 : Int32).toInt = 1 := rfl
  refine g_callV (n := 1) hk (j128_X12_fail l D zt r g I A L 1 hIv (by decide) (by decide)) (SP.same _) (fun _ h => h) (gi_V (List.mem_cons_of_mem _ (List.mem_append_left _ (List.mem_of_getElem? (i := 15) rfl))) (List.mem_cons_of_mem _ (List.mem_append_left _ (List.mem_of_getElem? (i := 16) rfl))) (List.mem_cons_of_mem _ (List.mem_append_left _ (List.mem_of_getElem? (i := 17) rfl))) (List.mem_cons_of_mem _ (List.mem_append_left _ (List.mem_of_getElem? (i := 5) rfl))) (gi_sub (fun w h => (List.mem_cons_of_mem _ (List.mem_append_right _ (List.mem_append_right _ (List.mem_append_right _ (List.mem_append_right _ (List.mem_append_right _ (List.mem_append_left _ h)))))))) zg_j128_X12_fail)) rfl rfl rfl (by decide +kernel) ⟨Nat.le_of_ble_eq_true rfl, Nat.le_of_ble_eq_true rfl⟩ 0 rfl rfl rfl rfl (Nat.le_of_ble_eq_true rfl) ⟨Nat.le_of_ble_eq_true rfl, Nat.le_of_ble_eq_true rfl⟩ dX12_tellOne_187 (fun v ty' w' hp hk' => ?_)
  obtain ⟨I15746, A15746, L15746, hI15746, hA15746, hV15746, r15747, r15748, r15749, rfl, rfl⟩ := hp
  have f15750 := IvM_f6 hIv
  have f15751 := IvM_f6 hV15746
  have f15752 := IvM_f8 hIv
  rw [show (I15746 8) = (I 8) from (hI15746 8 rfl)] at r15748
  show GW κ 1 0 0 (wM r g I15746 A15746 L15746) 190 [(0, .ref (r 0))] []
  exact g_vret hk hR ⟨I15746, A15746, L15746, (show Md [4, 6, 7, 8, 9, 11, 12, 13, 17] I I15746 from (Md.tr Md.rf hI15746 rfl)), (show Md [8, 9, 10, 11, 12, 13, 14, 15, 16] A A15746 from (Md.tr Md.rf hA15746 rfl)), hV15746, (by rw [show (I15746 4) = (I 4) from (hI15746 4 rfl)] <;> omega), (by omega), (by rw [show (I15746 8) = (I 8) from (hI15746 8 rfl)] <;> omega), (by rw [show (I15746 4) = (I 4) from (hI15746 4 rfl)] <;> omega), rfl, rfl⟩ dX12_tellOne_190
def wo_j138_X12_begins : List Cond := [Cond.fieldLink RX12 73 "WarpDeskModel" "row" "[I", Cond.fieldLink RX12 43 "WarpDeskModel" "placesTold" "[I", Cond.fieldLink RX12 197 "WarpDeskModel" "live" "I", Cond.fieldLink RX12 58 "WarpDeskModel" "bandTold" "[I", Cond.fieldLink RX12 61 "WarpDeskModel" "levelTold" "[I", Cond.fieldLink RX12 64 "WarpDeskModel" "costTold" "[I", Cond.fieldLink RX12 67 "WarpDeskModel" "apartTold" "[I", Cond.fieldLink RX12 46 "WarpDeskModel" "seriesTold" "[I"]
def wz_j138_X12_begins : List Cond := .code yX12_begins cX12_begins 2 none :: (wo_j138_X12_begins ++ (wsX120 ++ ([] : List Cond)))
theorem zg_j138_X12_begins : ∀ w ∈ wz_j138_X12_begins, goodWord w = true := zg_cons rfl (zg_app (by decide +kernel) (zg_app zgU_wsX120 zg_nil))
theorem zi_j138_X12_begins : ∀ w ∈ wz_j138_X12_begins, w ∈ lw_tbl := zi_cons zw_1375 (zi_app (zi_cons zw_1414 (zi_cons zw_1404 (zi_cons zw_1400 (zi_cons zw_1409 (zi_cons zw_1410 (zi_cons zw_1411 (zi_cons zw_1412 (zi_cons zw_1405 zi_nil)))))))) (zi_app inX12 zi_nil))
set_option maxHeartbeats 4000000 in
set_option maxRecDepth 100000 in
theorem j138_X12_begins (l : Launch) (D : va_G) (zt : Nat × Nat × Nat × (Nat → Nat) × (Nat → Nat)) (r : Nat → Nat) (g : Nat → ClassId) (I : Nat → Int32) (A : Nat → Nat → Int32) (L : Nat → Nat → Int64) (hIv : IvM I A) : GM l D zt (tyM g) yX12_begins wz_j138_X12_begins ({ frames := 0, cells := 0, slots := 0, locals := 0 } : Room) [.ref (r 0)] (wM r g I A L) (fun v _ w' => ∃ (I' : Nat → Int32) (A' : Nat → Nat → Int32) (L' : Nat → Nat → Int64), Md [] I I' ∧ Md [18] A A' ∧ IvM I' A' ∧ (0 ≤ (A' 18 0).toInt) ∧ ((A' 18 0).toInt ≤ 160) ∧ (1 ≤ (A' 18 164).toInt) ∧ v = none ∧ w' = wM r g I' A' L') 0 0 := by
  refine GM.of (cc := cX12_begins) (maxL := 2) (ret := none) (own := RX12) (lv := [(0, .ref (r 0))]) (by decide) rfl rfl (Nat.le_of_ble_eq_true rfl) rfl (fun κ sz hk hR hN => ?_)
  have hin12 : ∀ w ∈ u_ws RX12 TX12 55, w ∈ wz_j138_X12_begins := fun w h => (List.mem_cons_of_mem _ (List.mem_append_right _ (List.mem_append_left _ h)))
  refine g_iconst (v := 0) hk dX12_begins_0 (by decide) ?_
  refine g_istore_n (lv' := [(1, .int 0), (0, .ref (r 0))]) hk dX12_begins_1 (by decide) rfl ?_
  have lp15762 : ∀ (n15764 k15763 : Nat), k15763 + n15764 = 165 → GW κ 2 0 0 (wM r g I (up2 A 18 (cpo (fun _ => 0) (A 18) 0 k15763)) L) 2 [(1, .int (nI k15763)), (0, .ref (r 0))] [] := by
    intro n15764
    induction n15764 with
    | zero =>
      intro k15763 hk15763
      obtain rfl : k15763 = 165 := by omega
      show GW κ 2 0 0 (wM r g I (up2 A 18 (cpo (fun _ => 0) (A 18) 0 165)) L) 2 [(1, .int 165), (0, .ref (r 0))] []
      refine g_iload_n hk dX12_begins_2 rfl ?_
      refine g_sipush (v := 165) hk dX12_begins_3 (by decide) ?_
      refine g_icmp_ge (tgt := 22) (a := 165) (b := 165) hk dX12_begins_6 (by decide) rfl rfl (fun _ => ?_) (fun z9 => absurd (show (165 : Int) ≤ (165 : Int) from by decide) z9)
      refine g_aload_n hk dX12_begins_22 rfl ?_
      refine gM_r0_36 hk hin12 (List.mem_cons_of_mem _ (List.mem_append_left _ (List.mem_of_getElem? (i := 0) rfl))) dX12_begins_23 ?_
      refine g_iconst (v := 0) hk dX12_begins_26 (by decide) ?_
      refine g_aload_n hk dX12_begins_27 rfl ?_
      refine gM_r0_26 hk hin12 (List.mem_cons_of_mem _ (List.mem_append_left _ (List.mem_of_getElem? (i := 1) rfl))) dX12_begins_28 ?_
      refine g_aload_n hk dX12_begins_31 rfl ?_
      refine gM_i15 (v := (I 15)) hk hin12 (List.mem_cons_of_mem _ (List.mem_append_left _ (List.mem_of_getElem? (i := 2) rfl))) dX12_begins_32 rfl ?_
      have f15767 := IvM_f15 hIv
      by_cases c15768 : (I 15).toInt = 0
      · have ec15768 : (I 15) = 0 := Int32.toInt_inj.mp c15768
        rw [ec15768]
        show GW κ 2 0 0 (wM r g I (up2 A 18 (cpo (fun _ => 0) (A 18) 0 165)) L) 35 [(1, .int 165), (0, .ref (r 0))] [.int 0, .ref (r 9), .int 0, .ref (r 19)]
        refine lM_8 (v := (A 8 0)) hk (vp_in_iff.mpr ⟨by decide, by decide⟩) rfl dX12_begins_35 ?_
        have f15769 := IvM_s8_0 hIv
        refine sM_18 (j := 0) hk (vp_in_iff.mpr ⟨by decide, by decide⟩) (by decide) dX12_begins_36 ?_
        refine g_iconst (v := 0) hk dX12_begins_37 (by decide) ?_
        refine g_istore_n (lv' := [(1, .int 0), (0, .ref (r 0))]) hk dX12_begins_38 (by decide) rfl ?_
        have lp15799 : ∀ (n15800 : Nat) (x15770 : Int32) (I15772 : Nat → Int32) (A15772 : Nat → Nat → Int32) (L15772 : Nat → Nat → Int64), (Md [] I I15772) → (Md [18] (up3 (up2 A 18 (cpo (fun _ => 0) (A 18) 0 165)) 18 0 (A 8 0)) A15772) → (IvM I15772 A15772) → (0 ≤ x15770.toInt) → (x15770.toInt ≤ 160) → (0 ≤ (A15772 18 0).toInt) → ((A15772 18 0).toInt ≤ 160) → (161 - x15770.toInt < (n15800 : Int)) → (0 < n15800) → GW κ 2 0 0 (wM r g I15772 A15772 L15772) 39 [(1, .int x15770), (0, .ref (r 0))] [] := by
          intro n15800
          induction n15800 with
          | zero =>
            intro x15770 I15772 A15772 L15772 hI15772 hA15772 hV15772 h15795 h15796 h15797 h15798 m15801 m15801z
            exact absurd m15801z (Nat.lt_irrefl 0)
          | succ n15800 ih15802 =>
            intro x15770 I15772 A15772 L15772 hI15772 hA15772 hV15772 h15795 h15796 h15797 h15798 m15801 m15801z
            refine g_iload_n hk dX12_begins_39 rfl ?_
            refine g_aload_n hk dX12_begins_40 rfl ?_
            refine gM_r0_36 hk hin12 (List.mem_cons_of_mem _ (List.mem_append_left _ (List.mem_of_getElem? (i := 0) rfl))) dX12_begins_41 ?_
            refine g_iconst (v := 0) hk dX12_begins_44 (by decide) ?_
            refine lM_18 (v := (A15772 18 0)) hk (vp_in_iff.mpr ⟨by decide, by decide⟩) rfl dX12_begins_45 ?_
            refine g_icmp_ge (tgt := 78) (a := x15770.toInt) (b := (A15772 18 0).toInt) hk dX12_begins_46 (by decide) rfl rfl (fun c15803 => ?_) (fun c15803 => ?_)
            · skip
              refine g_aload_n hk dX12_begins_78 rfl ?_
              refine gM_r0_36 hk hin12 (List.mem_cons_of_mem _ (List.mem_append_left _ (List.mem_of_getElem? (i := 0) rfl))) dX12_begins_79 ?_
              refine g_sipush (v := 161) hk dX12_begins_82 (by decide) ?_
              refine g_aload_n hk dX12_begins_85 rfl ?_
              refine gM_r0_31 hk hin12 (List.mem_cons_of_mem _ (List.mem_append_left _ (List.mem_of_getElem? (i := 3) rfl))) dX12_begins_86 ?_
              refine g_aload_n hk dX12_begins_89 rfl ?_
              refine gM_i15 (v := (I 15)) hk hin12 (List.mem_cons_of_mem _ (List.mem_append_left _ (List.mem_of_getElem? (i := 2) rfl))) dX12_begins_90 (hI15772 15 rfl) ?_
              by_cases c15804 : (I 15).toInt = 0
              · have ec15804 : (I 15) = 0 := Int32.toInt_inj.mp c15804
                rw [ec15804]
                show GW κ 2 0 0 (wM r g I15772 A15772 L15772) 93 [(1, .int x15770), (0, .ref (r 0))] [.int 0, .ref (r 14), .int 161, .ref (r 19)]
                refine lM_13 (v := (A 13 0)) hk (vp_in_iff.mpr ⟨by decide, by decide⟩) (congrFun (hA15772 13 rfl) _) dX12_begins_93 ?_
                refine sM_18 (j := 161) hk (vp_in_iff.mpr ⟨by decide, by decide⟩) (by decide) dX12_begins_94 ?_
                refine g_aload_n hk dX12_begins_95 rfl ?_
                refine gM_r0_36 hk hin12 (List.mem_cons_of_mem _ (List.mem_append_left _ (List.mem_of_getElem? (i := 0) rfl))) dX12_begins_96 ?_
                refine g_sipush (v := 162) hk dX12_begins_99 (by decide) ?_
                refine g_aload_n hk dX12_begins_102 rfl ?_
                refine gM_r0_32 hk hin12 (List.mem_cons_of_mem _ (List.mem_append_left _ (List.mem_of_getElem? (i := 4) rfl))) dX12_begins_103 ?_
                refine g_aload_n hk dX12_begins_106 rfl ?_
                refine gM_i15 (v := (I 15)) hk hin12 (List.mem_cons_of_mem _ (List.mem_append_left _ (List.mem_of_getElem? (i := 2) rfl))) dX12_begins_107 (hI15772 15 rfl) ?_
                by_cases c15805 : (I 15).toInt = 0
                · have ec15805 : (I 15) = 0 := Int32.toInt_inj.mp c15805
                  rw [ec15805]
                  show GW κ 2 0 0 (wM r g I15772 (up3 A15772 18 161 (A 13 0)) L15772) 110 [(1, .int x15770), (0, .ref (r 0))] [.int 0, .ref (r 15), .int 162, .ref (r 19)]
                  refine lM_14 (v := (A 14 0)) hk (vp_in_iff.mpr ⟨by decide, by decide⟩) (congrFun (hA15772 14 rfl) _) dX12_begins_110 ?_
                  refine sM_18 (j := 162) hk (vp_in_iff.mpr ⟨by decide, by decide⟩) (by decide) dX12_begins_111 ?_
                  refine g_aload_n hk dX12_begins_112 rfl ?_
                  refine gM_r0_36 hk hin12 (List.mem_cons_of_mem _ (List.mem_append_left _ (List.mem_of_getElem? (i := 0) rfl))) dX12_begins_113 ?_
                  refine g_sipush (v := 163) hk dX12_begins_116 (by decide) ?_
                  refine g_aload_n hk dX12_begins_119 rfl ?_
                  refine gM_r0_33 hk hin12 (List.mem_cons_of_mem _ (List.mem_append_left _ (List.mem_of_getElem? (i := 5) rfl))) dX12_begins_120 ?_
                  refine g_aload_n hk dX12_begins_123 rfl ?_
                  refine gM_i15 (v := (I 15)) hk hin12 (List.mem_cons_of_mem _ (List.mem_append_left _ (List.mem_of_getElem? (i := 2) rfl))) dX12_begins_124 (hI15772 15 rfl) ?_
                  by_cases c15806 : (I 15).toInt = 0
                  · have ec15806 : (I 15) = 0 := Int32.toInt_inj.mp c15806
                    rw [ec15806]
                    show GW κ 2 0 0 (wM r g I15772 (up3 (up3 A15772 18 161 (A 13 0)) 18 162 (A 14 0)) L15772) 127 [(1, .int x15770), (0, .ref (r 0))] [.int 0, .ref (r 16), .int 163, .ref (r 19)]
                    refine lM_15 (v := (A 15 0)) hk (vp_in_iff.mpr ⟨by decide, by decide⟩) (congrFun (hA15772 15 rfl) _) dX12_begins_127 ?_
                    refine sM_18 (j := 163) hk (vp_in_iff.mpr ⟨by decide, by decide⟩) (by decide) dX12_begins_128 ?_
                    refine g_aload_n hk dX12_begins_129 rfl ?_
                    refine gM_r0_36 hk hin12 (List.mem_cons_of_mem _ (List.mem_append_left _ (List.mem_of_getElem? (i := 0) rfl))) dX12_begins_130 ?_
                    refine g_sipush (v := 164) hk dX12_begins_133 (by decide) ?_
                    refine g_aload_n hk dX12_begins_136 rfl ?_
                    refine gM_r0_34 hk hin12 (List.mem_cons_of_mem _ (List.mem_append_left _ (List.mem_of_getElem? (i := 6) rfl))) dX12_begins_137 ?_
                    refine g_aload_n hk dX12_begins_140 rfl ?_
                    refine gM_i15 (v := (I 15)) hk hin12 (List.mem_cons_of_mem _ (List.mem_append_left _ (List.mem_of_getElem? (i := 2) rfl))) dX12_begins_141 (hI15772 15 rfl) ?_
                    by_cases c15807 : (I 15).toInt = 0
                    · have ec15807 : (I 15) = 0 := Int32.toInt_inj.mp c15807
                      rw [ec15807]
                      show GW κ 2 0 0 (wM r g I15772 (up3 (up3 (up3 A15772 18 161 (A 13 0)) 18 162 (A 14 0)) 18 163 (A 15 0)) L15772) 144 [(1, .int x15770), (0, .ref (r 0))] [.int 0, .ref (r 17), .int 164, .ref (r 19)]
                      refine lM_16 (v := (A 16 0)) hk (vp_in_iff.mpr ⟨by decide, by decide⟩) (congrFun (hA15772 16 rfl) _) dX12_begins_144 ?_
                      refine sM_18 (j := 164) hk (vp_in_iff.mpr ⟨by decide, by decide⟩) (by decide) dX12_begins_145 ?_
                      have g15808 : 1 ≤ (A 16 0).toInt := ((IvM_lv (I := I) (A := A) hIv).1 (by omega)).1
                      exact g_vret hk hR ⟨I15772, (up3 (up3 (up3 (up3 A15772 18 161 (A 13 0)) 18 162 (A 14 0)) 18 163 (A 15 0)) 18 164 (A 16 0)), L15772, (show Md [] I I15772 from (Md.tr Md.rf hI15772 rfl)), (show Md [18] A (up3 (up3 (up3 (up3 A15772 18 161 (A 13 0)) 18 162 (A 14 0)) 18 163 (A 15 0)) 18 164 (A 16 0)) from (Md.up3 (Md.up3 (Md.up3 (Md.up3 (Md.tr (Md.up3 (Md.up2 Md.rf rfl) rfl) hA15772 rfl) rfl) rfl) rfl) rfl)), ⟨(IvM_f1 (I := I15772) (A := A15772) hV15772), (IvM_f2 (I := I15772) (A := A15772) hV15772), (IvM_f3 (I := I15772) (A := A15772) hV15772), (IvM_f4 (I := I15772) (A := A15772) hV15772), (IvM_f6 (I := I15772) (A := A15772) hV15772), (IvM_f8 (I := I15772) (A := A15772) hV15772), (IvM_f15 (I := I15772) (A := A15772) hV15772), (IvM_f16 (I := I15772) (A := A15772) hV15772), (IvM_f17 (I := I15772) (A := A15772) hV15772), (IvM_f18 (I := I15772) (A := A15772) hV15772), (IvM_f22 (I := I15772) (A := A15772) hV15772), (IvM_f23 (I := I15772) (A := A15772) hV15772), (IvM_f24 (I := I15772) (A := A15772) hV15772), (IvM_a11 (I := I15772) (A := A15772) hV15772), (IvM_a26 (I := I15772) (A := A15772) hV15772), (IvM_s8_0 (I := I15772) (A := A15772) hV15772), (IvM_s8_1 (I := I15772) (A := A15772) hV15772), (IvM_s10_0 (I := I15772) (A := A15772) hV15772), (IvM_s10_1 (I := I15772) (A := A15772) hV15772), (IvM_s17_0 (I := I15772) (A := A15772) hV15772), (IvM_s17_164 (I := I15772) (A := A15772) hV15772), (IvM_lv (I := I15772) (A := A15772) hV15772), (IvM_sd (I := I15772) (A := A15772) hV15772), (IvM_nq (I := I15772) (A := A15772) hV15772), (IvM_hr (I := I15772) (A := A15772) hV15772), (IvM_hh (I := I15772) (A := A15772) hV15772), trivial⟩, (by rw [show ((up3 (up3 (up3 (up3 A15772 18 161 (A 13 0)) 18 162 (A 14 0)) 18 163 (A 15 0)) 18 164 (A 16 0)) 18 0) = (A15772 18 0) from rfl] <;> omega), (by rw [show ((up3 (up3 (up3 (up3 A15772 18 161 (A 13 0)) 18 162 (A 14 0)) 18 163 (A 15 0)) 18 164 (A 16 0)) 18 0) = (A15772 18 0) from rfl] <;> omega), (by rw [show ((up3 (up3 (up3 (up3 A15772 18 161 (A 13 0)) 18 162 (A 14 0)) 18 163 (A 15 0)) 18 164 (A 16 0)) 18 164) = (A 16 0) from rfl] <;> omega), rfl, rfl⟩ dX12_begins_146
                    exfalso; omega
                  exfalso; omega
                exfalso; omega
              exfalso; omega
            · skip
              refine g_aload_n hk dX12_begins_49 rfl ?_
              refine gM_r0_36 hk hin12 (List.mem_cons_of_mem _ (List.mem_append_left _ (List.mem_of_getElem? (i := 0) rfl))) dX12_begins_50 ?_
              refine g_iconst (v := 1) hk dX12_begins_53 (by decide) ?_
              refine g_iload_n hk dX12_begins_54 rfl ?_
              refine g_iadd hk dX12_begins_55 ?_
              refine g_topi (fun y15809 ey15809 => ?_)
              have hy15809 : y15809.toInt = 1 + x15770.toInt := i32_add ey15809 rfl rfl (by omega) (by omega)
              refine g_aload_n hk dX12_begins_56 rfl ?_
              refine gM_r0_27 hk hin12 (List.mem_cons_of_mem _ (List.mem_append_left _ (List.mem_of_getElem? (i := 7) rfl))) dX12_begins_57 ?_
              refine g_sipush (v := 160) hk dX12_begins_60 (by decide) ?_
              refine g_aload_n hk dX12_begins_63 rfl ?_
              refine gM_i15 (v := (I 15)) hk hin12 (List.mem_cons_of_mem _ (List.mem_append_left _ (List.mem_of_getElem? (i := 2) rfl))) dX12_begins_64 (hI15772 15 rfl) ?_
              by_cases c15810 : (I 15).toInt = 0
              · have ec15810 : (I 15) = 0 := Int32.toInt_inj.mp c15810
                rw [ec15810]
                show GW κ 2 0 0 (wM r g I15772 A15772 L15772) 67 [(1, .int x15770), (0, .ref (r 0))] [.int 0, .int 160, .ref (r 10), .int y15809, .ref (r 19)]
                refine g_imul hk dX12_begins_67 ?_
                refine g_norm (v := 0) (by decide) ?_
                refine g_iload_n hk dX12_begins_68 rfl ?_
                refine g_iadd hk dX12_begins_69 ?_
                refine g_topi (fun y15811 ey15811 => ?_)
                have hy15811 : y15811.toInt = 0 + x15770.toInt := i32_add ey15811 rfl rfl (by omega) (by omega)
                refine lM_9 (v := (A 9 y15811.toNatClampNeg)) hk (vp_in_iff.mpr ⟨by omega, by omega⟩) (congrFun (hA15772 9 rfl) _) dX12_begins_70 ?_
                refine sM_18 (j := y15809.toNatClampNeg) hk (vp_in_iff.mpr ⟨by omega, by omega⟩) rfl dX12_begins_71 ?_
                have hS15812 : (up3 A15772 18 (y15809.toNatClampNeg) (A 9 y15811.toNatClampNeg)) 18 0 = (A15772 18 0) := (up3_ne (by have := cl_int (y := y15809) (by omega); omega)).trans (show A15772 18 0 = (A15772 18 0) from rfl)
                have hS15813 : (up3 A15772 18 (y15809.toNatClampNeg) (A 9 y15811.toNatClampNeg)) 18 164 = (A15772 18 164) := (up3_ne (by have := cl_int (y := y15809) (by omega); omega)).trans (show A15772 18 164 = (A15772 18 164) from rfl)
                obtain ⟨y15814, ey15814⟩ : ∃ y : Int32, y = x15770 + Int32.ofInt 1 := ⟨_, rfl⟩
                have hy15814 : y15814.toInt = x15770.toInt + 1 := i32_add ey15814 rfl (by decide) (by omega) (by omega)
                refine g_iinc (v := y15814) (lv' := [(1, .int y15814), (0, .ref (r 0))]) hk 0 dX12_begins_72 rfl ey15814.symm (by decide) rfl ?_
                refine g_goto (tgt := 39) hk dX12_begins_75 (by decide) ?_
                exact g_lv (List.forall_mem_cons.mpr ⟨List.mem_of_getElem? (i := 0) rfl, (List.forall_mem_cons.mpr ⟨List.mem_of_getElem? (i := 1) rfl, (fun _ h => absurd h List.not_mem_nil)⟩)⟩) (ih15802 y15814 I15772 (up3 A15772 18 (y15809.toNatClampNeg) (A 9 y15811.toNatClampNeg)) L15772 (show Md [] I I15772 from Md.tr hI15772 (show Md [] I15772 I15772 from Md.rf) rfl) (show Md [18] (up3 (up2 A 18 (cpo (fun _ => 0) (A 18) 0 165)) 18 0 (A 8 0)) (up3 A15772 18 (y15809.toNatClampNeg) (A 9 y15811.toNatClampNeg)) from Md.tr hA15772 (show Md [18] A15772 (up3 A15772 18 (y15809.toNatClampNeg) (A 9 y15811.toNatClampNeg)) from (Md.up3 Md.rf rfl)) rfl) ⟨(IvM_f1 (I := I15772) (A := A15772) hV15772), (IvM_f2 (I := I15772) (A := A15772) hV15772), (IvM_f3 (I := I15772) (A := A15772) hV15772), (IvM_f4 (I := I15772) (A := A15772) hV15772), (IvM_f6 (I := I15772) (A := A15772) hV15772), (IvM_f8 (I := I15772) (A := A15772) hV15772), (IvM_f15 (I := I15772) (A := A15772) hV15772), (IvM_f16 (I := I15772) (A := A15772) hV15772), (IvM_f17 (I := I15772) (A := A15772) hV15772), (IvM_f18 (I := I15772) (A := A15772) hV15772), (IvM_f22 (I := I15772) (A := A15772) hV15772), (IvM_f23 (I := I15772) (A := A15772) hV15772), (IvM_f24 (I := I15772) (A := A15772) hV15772), (IvM_a11 (I := I15772) (A := A15772) hV15772), (IvM_a26 (I := I15772) (A := A15772) hV15772), (IvM_s8_0 (I := I15772) (A := A15772) hV15772), (IvM_s8_1 (I := I15772) (A := A15772) hV15772), (IvM_s10_0 (I := I15772) (A := A15772) hV15772), (IvM_s10_1 (I := I15772) (A := A15772) hV15772), (IvM_s17_0 (I := I15772) (A := A15772) hV15772), (IvM_s17_164 (I := I15772) (A := A15772) hV15772), (IvM_lv (I := I15772) (A := A15772) hV15772), (IvM_sd (I := I15772) (A := A15772) hV15772), (IvM_nq (I := I15772) (A := A15772) hV15772), (IvM_hr (I := I15772) (A := A15772) hV15772), (IvM_hh (I := I15772) (A := A15772) hV15772), trivial⟩ (by omega) (by omega) (by first | (rw [show ((up3 A15772 18 (y15809.toNatClampNeg) (A 9 y15811.toNatClampNeg)) 18 0) = (A15772 18 0) from hS15812] <;> omega) | omega) (by first | (rw [show ((up3 A15772 18 (y15809.toNatClampNeg) (A 9 y15811.toNatClampNeg)) 18 0) = (A15772 18 0) from hS15812] <;> omega) | omega) (by omega) (by omega))
              exfalso; omega
        have k15815 : (0 : Int32).toInt = 0 := rfl
        obtain ⟨n15816, n15816a, n15816b⟩ : ∃ n : Nat, 161 - (0 : Int32).toInt < (n : Int) ∧ 0 < n := ⟨((161 - (0 : Int32).toInt : Int)).toNat + 1, by omega, by omega⟩
        exact lp15799 n15816 0 I (up3 (up2 A 18 (cpo (fun _ => 0) (A 18) 0 165)) 18 0 (A 8 0)) L Md.rf Md.rf ⟨(IvM_f1 (I := I) (A := A) hIv), (IvM_f2 (I := I) (A := A) hIv), (IvM_f3 (I := I) (A := A) hIv), (IvM_f4 (I := I) (A := A) hIv), (IvM_f6 (I := I) (A := A) hIv), (IvM_f8 (I := I) (A := A) hIv), (IvM_f15 (I := I) (A := A) hIv), (IvM_f16 (I := I) (A := A) hIv), (IvM_f17 (I := I) (A := A) hIv), (IvM_f18 (I := I) (A := A) hIv), (IvM_f22 (I := I) (A := A) hIv), (IvM_f23 (I := I) (A := A) hIv), (IvM_f24 (I := I) (A := A) hIv), (IvM_a11 (I := I) (A := A) hIv), (IvM_a26 (I := I) (A := A) hIv), (IvM_s8_0 (I := I) (A := A) hIv), (IvM_s8_1 (I := I) (A := A) hIv), (IvM_s10_0 (I := I) (A := A) hIv), (IvM_s10_1 (I := I) (A := A) hIv), (IvM_s17_0 (I := I) (A := A) hIv), (IvM_s17_164 (I := I) (A := A) hIv), (IvM_lv (I := I) (A := A) hIv), (IvM_sd (I := I) (A := A) hIv), (IvM_nq (I := I) (A := A) hIv), (IvM_hr (I := I) (A := A) hIv), (IvM_hh (I := I) (A := A) hIv), trivial⟩ (by omega) (by omega) (by first | (rw [show ((up3 (up2 A 18 (cpo (fun _ => 0) (A 18) 0 165)) 18 0 (A 8 0)) 18 0) = (A 8 0) from rfl] <;> omega) | omega) (by first | (rw [show ((up3 (up2 A 18 (cpo (fun _ => 0) (A 18) 0 165)) 18 0 (A 8 0)) 18 0) = (A 8 0) from rfl] <;> omega) | omega) n15816a n15816b
      by_cases c15817 : (I 15).toInt = 1
      · have ec15817 : (I 15) = 1 := Int32.toInt_inj.mp c15817
        rw [ec15817]
        show GW κ 2 0 0 (wM r g I (up2 A 18 (cpo (fun _ => 0) (A 18) 0 165)) L) 35 [(1, .int 165), (0, .ref (r 0))] [.int 1, .ref (r 9), .int 0, .ref (r 19)]
        refine lM_8 (v := (A 8 1)) hk (vp_in_iff.mpr ⟨by decide, by decide⟩) rfl dX12_begins_35 ?_
        have f15818 := IvM_s8_1 hIv
        refine sM_18 (j := 0) hk (vp_in_iff.mpr ⟨by decide, by decide⟩) (by decide) dX12_begins_36 ?_
        refine g_iconst (v := 0) hk dX12_begins_37 (by decide) ?_
        refine g_istore_n (lv' := [(1, .int 0), (0, .ref (r 0))]) hk dX12_begins_38 (by decide) rfl ?_
        have lp15848 : ∀ (n15849 : Nat) (x15819 : Int32) (I15821 : Nat → Int32) (A15821 : Nat → Nat → Int32) (L15821 : Nat → Nat → Int64), (Md [] I I15821) → (Md [18] (up3 (up2 A 18 (cpo (fun _ => 0) (A 18) 0 165)) 18 0 (A 8 1)) A15821) → (IvM I15821 A15821) → (0 ≤ x15819.toInt) → (x15819.toInt ≤ 160) → (0 ≤ (A15821 18 0).toInt) → ((A15821 18 0).toInt ≤ 160) → (161 - x15819.toInt < (n15849 : Int)) → (0 < n15849) → GW κ 2 0 0 (wM r g I15821 A15821 L15821) 39 [(1, .int x15819), (0, .ref (r 0))] [] := by
          intro n15849
          induction n15849 with
          | zero =>
            intro x15819 I15821 A15821 L15821 hI15821 hA15821 hV15821 h15844 h15845 h15846 h15847 m15850 m15850z
            exact absurd m15850z (Nat.lt_irrefl 0)
          | succ n15849 ih15851 =>
            intro x15819 I15821 A15821 L15821 hI15821 hA15821 hV15821 h15844 h15845 h15846 h15847 m15850 m15850z
            refine g_iload_n hk dX12_begins_39 rfl ?_
            refine g_aload_n hk dX12_begins_40 rfl ?_
            refine gM_r0_36 hk hin12 (List.mem_cons_of_mem _ (List.mem_append_left _ (List.mem_of_getElem? (i := 0) rfl))) dX12_begins_41 ?_
            refine g_iconst (v := 0) hk dX12_begins_44 (by decide) ?_
            refine lM_18 (v := (A15821 18 0)) hk (vp_in_iff.mpr ⟨by decide, by decide⟩) rfl dX12_begins_45 ?_
            refine g_icmp_ge (tgt := 78) (a := x15819.toInt) (b := (A15821 18 0).toInt) hk dX12_begins_46 (by decide) rfl rfl (fun c15852 => ?_) (fun c15852 => ?_)
            · skip
              refine g_aload_n hk dX12_begins_78 rfl ?_
              refine gM_r0_36 hk hin12 (List.mem_cons_of_mem _ (List.mem_append_left _ (List.mem_of_getElem? (i := 0) rfl))) dX12_begins_79 ?_
              refine g_sipush (v := 161) hk dX12_begins_82 (by decide) ?_
              refine g_aload_n hk dX12_begins_85 rfl ?_
              refine gM_r0_31 hk hin12 (List.mem_cons_of_mem _ (List.mem_append_left _ (List.mem_of_getElem? (i := 3) rfl))) dX12_begins_86 ?_
              refine g_aload_n hk dX12_begins_89 rfl ?_
              refine gM_i15 (v := (I 15)) hk hin12 (List.mem_cons_of_mem _ (List.mem_append_left _ (List.mem_of_getElem? (i := 2) rfl))) dX12_begins_90 (hI15821 15 rfl) ?_
              by_cases c15853 : (I 15).toInt = 1
              · have ec15853 : (I 15) = 1 := Int32.toInt_inj.mp c15853
                rw [ec15853]
                show GW κ 2 0 0 (wM r g I15821 A15821 L15821) 93 [(1, .int x15819), (0, .ref (r 0))] [.int 1, .ref (r 14), .int 161, .ref (r 19)]
                refine lM_13 (v := (A 13 1)) hk (vp_in_iff.mpr ⟨by decide, by decide⟩) (congrFun (hA15821 13 rfl) _) dX12_begins_93 ?_
                refine sM_18 (j := 161) hk (vp_in_iff.mpr ⟨by decide, by decide⟩) (by decide) dX12_begins_94 ?_
                refine g_aload_n hk dX12_begins_95 rfl ?_
                refine gM_r0_36 hk hin12 (List.mem_cons_of_mem _ (List.mem_append_left _ (List.mem_of_getElem? (i := 0) rfl))) dX12_begins_96 ?_
                refine g_sipush (v := 162) hk dX12_begins_99 (by decide) ?_
                refine g_aload_n hk dX12_begins_102 rfl ?_
                refine gM_r0_32 hk hin12 (List.mem_cons_of_mem _ (List.mem_append_left _ (List.mem_of_getElem? (i := 4) rfl))) dX12_begins_103 ?_
                refine g_aload_n hk dX12_begins_106 rfl ?_
                refine gM_i15 (v := (I 15)) hk hin12 (List.mem_cons_of_mem _ (List.mem_append_left _ (List.mem_of_getElem? (i := 2) rfl))) dX12_begins_107 (hI15821 15 rfl) ?_
                by_cases c15854 : (I 15).toInt = 1
                · have ec15854 : (I 15) = 1 := Int32.toInt_inj.mp c15854
                  rw [ec15854]
                  show GW κ 2 0 0 (wM r g I15821 (up3 A15821 18 161 (A 13 1)) L15821) 110 [(1, .int x15819), (0, .ref (r 0))] [.int 1, .ref (r 15), .int 162, .ref (r 19)]
                  refine lM_14 (v := (A 14 1)) hk (vp_in_iff.mpr ⟨by decide, by decide⟩) (congrFun (hA15821 14 rfl) _) dX12_begins_110 ?_
                  refine sM_18 (j := 162) hk (vp_in_iff.mpr ⟨by decide, by decide⟩) (by decide) dX12_begins_111 ?_
                  refine g_aload_n hk dX12_begins_112 rfl ?_
                  refine gM_r0_36 hk hin12 (List.mem_cons_of_mem _ (List.mem_append_left _ (List.mem_of_getElem? (i := 0) rfl))) dX12_begins_113 ?_
                  refine g_sipush (v := 163) hk dX12_begins_116 (by decide) ?_
                  refine g_aload_n hk dX12_begins_119 rfl ?_
                  refine gM_r0_33 hk hin12 (List.mem_cons_of_mem _ (List.mem_append_left _ (List.mem_of_getElem? (i := 5) rfl))) dX12_begins_120 ?_
                  refine g_aload_n hk dX12_begins_123 rfl ?_
                  refine gM_i15 (v := (I 15)) hk hin12 (List.mem_cons_of_mem _ (List.mem_append_left _ (List.mem_of_getElem? (i := 2) rfl))) dX12_begins_124 (hI15821 15 rfl) ?_
                  by_cases c15855 : (I 15).toInt = 1
                  · have ec15855 : (I 15) = 1 := Int32.toInt_inj.mp c15855
                    rw [ec15855]
                    show GW κ 2 0 0 (wM r g I15821 (up3 (up3 A15821 18 161 (A 13 1)) 18 162 (A 14 1)) L15821) 127 [(1, .int x15819), (0, .ref (r 0))] [.int 1, .ref (r 16), .int 163, .ref (r 19)]
                    refine lM_15 (v := (A 15 1)) hk (vp_in_iff.mpr ⟨by decide, by decide⟩) (congrFun (hA15821 15 rfl) _) dX12_begins_127 ?_
                    refine sM_18 (j := 163) hk (vp_in_iff.mpr ⟨by decide, by decide⟩) (by decide) dX12_begins_128 ?_
                    refine g_aload_n hk dX12_begins_129 rfl ?_
                    refine gM_r0_36 hk hin12 (List.mem_cons_of_mem _ (List.mem_append_left _ (List.mem_of_getElem? (i := 0) rfl))) dX12_begins_130 ?_
                    refine g_sipush (v := 164) hk dX12_begins_133 (by decide) ?_
                    refine g_aload_n hk dX12_begins_136 rfl ?_
                    refine gM_r0_34 hk hin12 (List.mem_cons_of_mem _ (List.mem_append_left _ (List.mem_of_getElem? (i := 6) rfl))) dX12_begins_137 ?_
                    refine g_aload_n hk dX12_begins_140 rfl ?_
                    refine gM_i15 (v := (I 15)) hk hin12 (List.mem_cons_of_mem _ (List.mem_append_left _ (List.mem_of_getElem? (i := 2) rfl))) dX12_begins_141 (hI15821 15 rfl) ?_
                    by_cases c15856 : (I 15).toInt = 1
                    · have ec15856 : (I 15) = 1 := Int32.toInt_inj.mp c15856
                      rw [ec15856]
                      show GW κ 2 0 0 (wM r g I15821 (up3 (up3 (up3 A15821 18 161 (A 13 1)) 18 162 (A 14 1)) 18 163 (A 15 1)) L15821) 144 [(1, .int x15819), (0, .ref (r 0))] [.int 1, .ref (r 17), .int 164, .ref (r 19)]
                      refine lM_16 (v := (A 16 1)) hk (vp_in_iff.mpr ⟨by decide, by decide⟩) (congrFun (hA15821 16 rfl) _) dX12_begins_144 ?_
                      refine sM_18 (j := 164) hk (vp_in_iff.mpr ⟨by decide, by decide⟩) (by decide) dX12_begins_145 ?_
                      have g15857 : 1 ≤ (A 16 1).toInt := ((IvM_lv (I := I) (A := A) hIv).2 (by omega)).1
                      exact g_vret hk hR ⟨I15821, (up3 (up3 (up3 (up3 A15821 18 161 (A 13 1)) 18 162 (A 14 1)) 18 163 (A 15 1)) 18 164 (A 16 1)), L15821, (show Md [] I I15821 from (Md.tr Md.rf hI15821 rfl)), (show Md [18] A (up3 (up3 (up3 (up3 A15821 18 161 (A 13 1)) 18 162 (A 14 1)) 18 163 (A 15 1)) 18 164 (A 16 1)) from (Md.up3 (Md.up3 (Md.up3 (Md.up3 (Md.tr (Md.up3 (Md.up2 Md.rf rfl) rfl) hA15821 rfl) rfl) rfl) rfl) rfl)), ⟨(IvM_f1 (I := I15821) (A := A15821) hV15821), (IvM_f2 (I := I15821) (A := A15821) hV15821), (IvM_f3 (I := I15821) (A := A15821) hV15821), (IvM_f4 (I := I15821) (A := A15821) hV15821), (IvM_f6 (I := I15821) (A := A15821) hV15821), (IvM_f8 (I := I15821) (A := A15821) hV15821), (IvM_f15 (I := I15821) (A := A15821) hV15821), (IvM_f16 (I := I15821) (A := A15821) hV15821), (IvM_f17 (I := I15821) (A := A15821) hV15821), (IvM_f18 (I := I15821) (A := A15821) hV15821), (IvM_f22 (I := I15821) (A := A15821) hV15821), (IvM_f23 (I := I15821) (A := A15821) hV15821), (IvM_f24 (I := I15821) (A := A15821) hV15821), (IvM_a11 (I := I15821) (A := A15821) hV15821), (IvM_a26 (I := I15821) (A := A15821) hV15821), (IvM_s8_0 (I := I15821) (A := A15821) hV15821), (IvM_s8_1 (I := I15821) (A := A15821) hV15821), (IvM_s10_0 (I := I15821) (A := A15821) hV15821), (IvM_s10_1 (I := I15821) (A := A15821) hV15821), (IvM_s17_0 (I := I15821) (A := A15821) hV15821), (IvM_s17_164 (I := I15821) (A := A15821) hV15821), (IvM_lv (I := I15821) (A := A15821) hV15821), (IvM_sd (I := I15821) (A := A15821) hV15821), (IvM_nq (I := I15821) (A := A15821) hV15821), (IvM_hr (I := I15821) (A := A15821) hV15821), (IvM_hh (I := I15821) (A := A15821) hV15821), trivial⟩, (by rw [show ((up3 (up3 (up3 (up3 A15821 18 161 (A 13 1)) 18 162 (A 14 1)) 18 163 (A 15 1)) 18 164 (A 16 1)) 18 0) = (A15821 18 0) from rfl] <;> omega), (by rw [show ((up3 (up3 (up3 (up3 A15821 18 161 (A 13 1)) 18 162 (A 14 1)) 18 163 (A 15 1)) 18 164 (A 16 1)) 18 0) = (A15821 18 0) from rfl] <;> omega), (by rw [show ((up3 (up3 (up3 (up3 A15821 18 161 (A 13 1)) 18 162 (A 14 1)) 18 163 (A 15 1)) 18 164 (A 16 1)) 18 164) = (A 16 1) from rfl] <;> omega), rfl, rfl⟩ dX12_begins_146
                    exfalso; omega
                  exfalso; omega
                exfalso; omega
              exfalso; omega
            · skip
              refine g_aload_n hk dX12_begins_49 rfl ?_
              refine gM_r0_36 hk hin12 (List.mem_cons_of_mem _ (List.mem_append_left _ (List.mem_of_getElem? (i := 0) rfl))) dX12_begins_50 ?_
              refine g_iconst (v := 1) hk dX12_begins_53 (by decide) ?_
              refine g_iload_n hk dX12_begins_54 rfl ?_
              refine g_iadd hk dX12_begins_55 ?_
              refine g_topi (fun y15858 ey15858 => ?_)
              have hy15858 : y15858.toInt = 1 + x15819.toInt := i32_add ey15858 rfl rfl (by omega) (by omega)
              refine g_aload_n hk dX12_begins_56 rfl ?_
              refine gM_r0_27 hk hin12 (List.mem_cons_of_mem _ (List.mem_append_left _ (List.mem_of_getElem? (i := 7) rfl))) dX12_begins_57 ?_
              refine g_sipush (v := 160) hk dX12_begins_60 (by decide) ?_
              refine g_aload_n hk dX12_begins_63 rfl ?_
              refine gM_i15 (v := (I 15)) hk hin12 (List.mem_cons_of_mem _ (List.mem_append_left _ (List.mem_of_getElem? (i := 2) rfl))) dX12_begins_64 (hI15821 15 rfl) ?_
              by_cases c15859 : (I 15).toInt = 1
              · have ec15859 : (I 15) = 1 := Int32.toInt_inj.mp c15859
                rw [ec15859]
                show GW κ 2 0 0 (wM r g I15821 A15821 L15821) 67 [(1, .int x15819), (0, .ref (r 0))] [.int 1, .int 160, .ref (r 10), .int y15858, .ref (r 19)]
                refine g_imul hk dX12_begins_67 ?_
                refine g_norm (v := 160) (by decide) ?_
                refine g_iload_n hk dX12_begins_68 rfl ?_
                refine g_iadd hk dX12_begins_69 ?_
                refine g_topi (fun y15860 ey15860 => ?_)
                have hy15860 : y15860.toInt = 160 + x15819.toInt := i32_add ey15860 rfl rfl (by omega) (by omega)
                refine lM_9 (v := (A 9 y15860.toNatClampNeg)) hk (vp_in_iff.mpr ⟨by omega, by omega⟩) (congrFun (hA15821 9 rfl) _) dX12_begins_70 ?_
                refine sM_18 (j := y15858.toNatClampNeg) hk (vp_in_iff.mpr ⟨by omega, by omega⟩) rfl dX12_begins_71 ?_
                have hS15861 : (up3 A15821 18 (y15858.toNatClampNeg) (A 9 y15860.toNatClampNeg)) 18 0 = (A15821 18 0) := (up3_ne (by have := cl_int (y := y15858) (by omega); omega)).trans (show A15821 18 0 = (A15821 18 0) from rfl)
                have hS15862 : (up3 A15821 18 (y15858.toNatClampNeg) (A 9 y15860.toNatClampNeg)) 18 164 = (A15821 18 164) := (up3_ne (by have := cl_int (y := y15858) (by omega); omega)).trans (show A15821 18 164 = (A15821 18 164) from rfl)
                obtain ⟨y15863, ey15863⟩ : ∃ y : Int32, y = x15819 + Int32.ofInt 1 := ⟨_, rfl⟩
                have hy15863 : y15863.toInt = x15819.toInt + 1 := i32_add ey15863 rfl (by decide) (by omega) (by omega)
                refine g_iinc (v := y15863) (lv' := [(1, .int y15863), (0, .ref (r 0))]) hk 0 dX12_begins_72 rfl ey15863.symm (by decide) rfl ?_
                refine g_goto (tgt := 39) hk dX12_begins_75 (by decide) ?_
                exact g_lv (List.forall_mem_cons.mpr ⟨List.mem_of_getElem? (i := 0) rfl, (List.forall_mem_cons.mpr ⟨List.mem_of_getElem? (i := 1) rfl, (fun _ h => absurd h List.not_mem_nil)⟩)⟩) (ih15851 y15863 I15821 (up3 A15821 18 (y15858.toNatClampNeg) (A 9 y15860.toNatClampNeg)) L15821 (show Md [] I I15821 from Md.tr hI15821 (show Md [] I15821 I15821 from Md.rf) rfl) (show Md [18] (up3 (up2 A 18 (cpo (fun _ => 0) (A 18) 0 165)) 18 0 (A 8 1)) (up3 A15821 18 (y15858.toNatClampNeg) (A 9 y15860.toNatClampNeg)) from Md.tr hA15821 (show Md [18] A15821 (up3 A15821 18 (y15858.toNatClampNeg) (A 9 y15860.toNatClampNeg)) from (Md.up3 Md.rf rfl)) rfl) ⟨(IvM_f1 (I := I15821) (A := A15821) hV15821), (IvM_f2 (I := I15821) (A := A15821) hV15821), (IvM_f3 (I := I15821) (A := A15821) hV15821), (IvM_f4 (I := I15821) (A := A15821) hV15821), (IvM_f6 (I := I15821) (A := A15821) hV15821), (IvM_f8 (I := I15821) (A := A15821) hV15821), (IvM_f15 (I := I15821) (A := A15821) hV15821), (IvM_f16 (I := I15821) (A := A15821) hV15821), (IvM_f17 (I := I15821) (A := A15821) hV15821), (IvM_f18 (I := I15821) (A := A15821) hV15821), (IvM_f22 (I := I15821) (A := A15821) hV15821), (IvM_f23 (I := I15821) (A := A15821) hV15821), (IvM_f24 (I := I15821) (A := A15821) hV15821), (IvM_a11 (I := I15821) (A := A15821) hV15821), (IvM_a26 (I := I15821) (A := A15821) hV15821), (IvM_s8_0 (I := I15821) (A := A15821) hV15821), (IvM_s8_1 (I := I15821) (A := A15821) hV15821), (IvM_s10_0 (I := I15821) (A := A15821) hV15821), (IvM_s10_1 (I := I15821) (A := A15821) hV15821), (IvM_s17_0 (I := I15821) (A := A15821) hV15821), (IvM_s17_164 (I := I15821) (A := A15821) hV15821), (IvM_lv (I := I15821) (A := A15821) hV15821), (IvM_sd (I := I15821) (A := A15821) hV15821), (IvM_nq (I := I15821) (A := A15821) hV15821), (IvM_hr (I := I15821) (A := A15821) hV15821), (IvM_hh (I := I15821) (A := A15821) hV15821), trivial⟩ (by omega) (by omega) (by first | (rw [show ((up3 A15821 18 (y15858.toNatClampNeg) (A 9 y15860.toNatClampNeg)) 18 0) = (A15821 18 0) from hS15861] <;> omega) | omega) (by first | (rw [show ((up3 A15821 18 (y15858.toNatClampNeg) (A 9 y15860.toNatClampNeg)) 18 0) = (A15821 18 0) from hS15861] <;> omega) | omega) (by omega) (by omega))
              exfalso; omega
        have k15864 : (0 : Int32).toInt = 0 := rfl
        obtain ⟨n15865, n15865a, n15865b⟩ : ∃ n : Nat, 161 - (0 : Int32).toInt < (n : Int) ∧ 0 < n := ⟨((161 - (0 : Int32).toInt : Int)).toNat + 1, by omega, by omega⟩
        exact lp15848 n15865 0 I (up3 (up2 A 18 (cpo (fun _ => 0) (A 18) 0 165)) 18 0 (A 8 1)) L Md.rf Md.rf ⟨(IvM_f1 (I := I) (A := A) hIv), (IvM_f2 (I := I) (A := A) hIv), (IvM_f3 (I := I) (A := A) hIv), (IvM_f4 (I := I) (A := A) hIv), (IvM_f6 (I := I) (A := A) hIv), (IvM_f8 (I := I) (A := A) hIv), (IvM_f15 (I := I) (A := A) hIv), (IvM_f16 (I := I) (A := A) hIv), (IvM_f17 (I := I) (A := A) hIv), (IvM_f18 (I := I) (A := A) hIv), (IvM_f22 (I := I) (A := A) hIv), (IvM_f23 (I := I) (A := A) hIv), (IvM_f24 (I := I) (A := A) hIv), (IvM_a11 (I := I) (A := A) hIv), (IvM_a26 (I := I) (A := A) hIv), (IvM_s8_0 (I := I) (A := A) hIv), (IvM_s8_1 (I := I) (A := A) hIv), (IvM_s10_0 (I := I) (A := A) hIv), (IvM_s10_1 (I := I) (A := A) hIv), (IvM_s17_0 (I := I) (A := A) hIv), (IvM_s17_164 (I := I) (A := A) hIv), (IvM_lv (I := I) (A := A) hIv), (IvM_sd (I := I) (A := A) hIv), (IvM_nq (I := I) (A := A) hIv), (IvM_hr (I := I) (A := A) hIv), (IvM_hh (I := I) (A := A) hIv), trivial⟩ (by omega) (by omega) (by first | (rw [show ((up3 (up2 A 18 (cpo (fun _ => 0) (A 18) 0 165)) 18 0 (A 8 1)) 18 0) = (A 8 1) from rfl] <;> omega) | omega) (by first | (rw [show ((up3 (up2 A 18 (cpo (fun _ => 0) (A 18) 0 165)) 18 0 (A 8 1)) 18 0) = (A 8 1) from rfl] <;> omega) | omega) n15865a n15865b
      exfalso; omega
    | succ n15764 ih15766 =>
      intro k15763 hk15763
      obtain ⟨x15765, ex15765⟩ : ∃ x : Int32, x = nI k15763 := ⟨_, rfl⟩
      have hx15765 : x15765.toInt = (k15763 : Int) := by rw [ex15765]; exact nI_toInt (by omega)
      have cx15765 : x15765.toNatClampNeg = k15763 := cl_nat hx15765
      rw [← ex15765]
      refine g_iload_n hk dX12_begins_2 rfl ?_
      refine g_sipush (v := 165) hk dX12_begins_3 (by decide) ?_
      refine g_icmp_ge (tgt := 22) (a := x15765.toInt) (b := 165) hk dX12_begins_6 (by decide) rfl rfl (fun z9 => absurd z9 (show ¬ (165 ≤ x15765.toInt) from by omega)) (fun _ => ?_)
      refine g_aload_n hk dX12_begins_9 rfl ?_
      refine gM_r0_36 hk hin12 (List.mem_cons_of_mem _ (List.mem_append_left _ (List.mem_of_getElem? (i := 0) rfl))) dX12_begins_10 ?_
      refine g_iload_n hk dX12_begins_13 rfl ?_
      refine g_iconst (v := 0) hk dX12_begins_14 (by decide) ?_
      have k15866 : (0 : Int32).toInt = 0 := rfl
      refine sM_18 (j := x15765.toNatClampNeg) hk (vp_in_iff.mpr ⟨by omega, by omega⟩) rfl dX12_begins_15 ?_
      obtain ⟨y15867, ey15867⟩ : ∃ y : Int32, y = x15765 + Int32.ofInt 1 := ⟨_, rfl⟩
      have hy15867 : y15867.toInt = x15765.toInt + 1 := i32_add ey15867 rfl (by decide) (by omega) (by omega)
      refine g_iinc (v := y15867) (lv' := [(1, .int y15867), (0, .ref (r 0))]) hk 0 dX12_begins_16 rfl ey15867.symm (by decide) rfl ?_
      refine g_goto (tgt := 2) hk dX12_begins_19 (by decide) ?_
      have q15868 := cl_int (y := x15765) (by omega)
      have eW : (up3 (up2 A 18 (cpo (fun _ => 0) (A 18) 0 k15763)) 18 (x15765.toNatClampNeg) 0) = (up2 A 18 (cpo (fun _ => 0) (A 18) 0 (k15763 + 1))) := cpo_st (by omega) rfl
      have fy : y15867 = nI (k15763 + 1) := nI_of_toInt (by omega) (by omega)
      rw [eW, fy]
      exact g_lv (List.forall_mem_cons.mpr ⟨List.mem_of_getElem? (i := 0) rfl, (List.forall_mem_cons.mpr ⟨List.mem_of_getElem? (i := 1) rfl, (fun _ h => absurd h List.not_mem_nil)⟩)⟩) (ih15766 (k15763 + 1) (by omega))
  have lp15762e := lp15762 165 0 (by omega)
  rw [cpo_0] at lp15762e
  exact lp15762e
def wo_j139_X12_keepsRow : List Cond := [Cond.fieldLink RX12 70 "WarpDeskModel" "now" "[I", Cond.fieldLink RX12 73 "WarpDeskModel" "row" "[I"]
def wz_j139_X12_keepsRow : List Cond := .code yX12_keepsRow cX12_keepsRow 2 none :: (wo_j139_X12_keepsRow ++ (wsX120 ++ ([] : List Cond)))
theorem zg_j139_X12_keepsRow : ∀ w ∈ wz_j139_X12_keepsRow, goodWord w = true := zg_cons rfl (zg_app (by decide +kernel) (zg_app zgU_wsX120 zg_nil))
theorem zi_j139_X12_keepsRow : ∀ w ∈ wz_j139_X12_keepsRow, w ∈ lw_tbl := zi_cons zw_1379 (zi_app (zi_cons zw_1413 (zi_cons zw_1414 zi_nil)) (zi_app inX12 zi_nil))
set_option maxHeartbeats 4000000 in
set_option maxRecDepth 100000 in
theorem j139_X12_keepsRow (l : Launch) (D : va_G) (zt : Nat × Nat × Nat × (Nat → Nat) × (Nat → Nat)) (r : Nat → Nat) (g : Nat → ClassId) (I : Nat → Int32) (A : Nat → Nat → Int32) (L : Nat → Nat → Int64) (hIv : IvM I A) (hp0 : 0 ≤ (A 18 0).toInt) (hp1 : (A 18 0).toInt ≤ 160) (hp2 : 1 ≤ (A 18 164).toInt) : GM l D zt (tyM g) yX12_keepsRow wz_j139_X12_keepsRow ({ frames := 0, cells := 0, slots := 0, locals := 0 } : Room) [.ref (r 0)] (wM r g I A L) (fun v _ w' => ∃ (I' : Nat → Int32) (A' : Nat → Nat → Int32) (L' : Nat → Nat → Int64), Md [] I I' ∧ Md [17] A A' ∧ IvM I' A' ∧ v = none ∧ w' = wM r g I' A' L') 0 0 := by
  refine GM.of (cc := cX12_keepsRow) (maxL := 2) (ret := none) (own := RX12) (lv := [(0, .ref (r 0))]) (by decide) rfl rfl (Nat.le_of_ble_eq_true rfl) rfl (fun κ sz hk hR hN => ?_)
  have hin12 : ∀ w ∈ u_ws RX12 TX12 55, w ∈ wz_j139_X12_keepsRow := fun w h => (List.mem_cons_of_mem _ (List.mem_append_right _ (List.mem_append_left _ h)))
  refine g_iconst (v := 0) hk dX12_keepsRow_0 (by decide) ?_
  refine g_istore_n (lv' := [(1, .int 0), (0, .ref (r 0))]) hk dX12_keepsRow_1 (by decide) rfl ?_
  have lp15876 : ∀ (n15878 k15877 : Nat), k15877 + n15878 = 165 → GW κ 2 0 0 (wM r g I (up2 A 17 (cpo (A 18) (A 17) 0 k15877)) L) 2 [(1, .int (nI k15877)), (0, .ref (r 0))] [] := by
    intro n15878
    induction n15878 with
    | zero =>
      intro k15877 hk15877
      obtain rfl : k15877 = 165 := by omega
      show GW κ 2 0 0 (wM r g I (up2 A 17 (cpo (A 18) (A 17) 0 165)) L) 2 [(1, .int 165), (0, .ref (r 0))] []
      refine g_iload_n hk dX12_keepsRow_2 rfl ?_
      refine g_sipush (v := 165) hk dX12_keepsRow_3 (by decide) ?_
      refine g_icmp_ge (tgt := 27) (a := 165) (b := 165) hk dX12_keepsRow_6 (by decide) rfl rfl (fun _ => ?_) (fun z9 => absurd (show (165 : Int) ≤ (165 : Int) from by decide) z9)
      have g15881 := Int32.toInt_lt (A 18 164)
      exact g_vret hk hR ⟨I, (up2 A 17 (cpo (A 18) (A 17) 0 165)), L, (show Md [] I I from Md.rf), (show Md [17] A (up2 A 17 (cpo (A 18) (A 17) 0 165)) from (Md.up2 Md.rf rfl)), ⟨(IvM_f1 (I := I) (A := A) hIv), (IvM_f2 (I := I) (A := A) hIv), (IvM_f3 (I := I) (A := A) hIv), (IvM_f4 (I := I) (A := A) hIv), (IvM_f6 (I := I) (A := A) hIv), (IvM_f8 (I := I) (A := A) hIv), (IvM_f15 (I := I) (A := A) hIv), (IvM_f16 (I := I) (A := A) hIv), (IvM_f17 (I := I) (A := A) hIv), (IvM_f18 (I := I) (A := A) hIv), (IvM_f22 (I := I) (A := A) hIv), (IvM_f23 (I := I) (A := A) hIv), (IvM_f24 (I := I) (A := A) hIv), (IvM_a11 (I := I) (A := A) hIv), (IvM_a26 (I := I) (A := A) hIv), (IvM_s8_0 (I := I) (A := A) hIv), (IvM_s8_1 (I := I) (A := A) hIv), (IvM_s10_0 (I := I) (A := A) hIv), (IvM_s10_1 (I := I) (A := A) hIv), (show 0 ≤ ((up2 A 17 (cpo (A 18) (A 17) 0 165)) 17 0).toInt ∧ ((up2 A 17 (cpo (A 18) (A 17) 0 165)) 17 0).toInt ≤ 160 from by rw [show (up2 A 17 (cpo (A 18) (A 17) 0 165)) 17 0 = (A 18 0) from rfl]; exact ⟨by omega, by omega⟩), (show 1 ≤ ((up2 A 17 (cpo (A 18) (A 17) 0 165)) 17 164).toInt ∧ ((up2 A 17 (cpo (A 18) (A 17) 0 165)) 17 164).toInt ≤ 2147483647 from by rw [show (up2 A 17 (cpo (A 18) (A 17) 0 165)) 17 164 = (A 18 164) from rfl]; exact ⟨by omega, by omega⟩), (IvM_lv (I := I) (A := A) hIv), (IvM_sd (I := I) (A := A) hIv), (IvM_nq (I := I) (A := A) hIv), (IvM_hr (I := I) (A := A) hIv), (IvM_hh (I := I) (A := A) hIv), trivial⟩, rfl, rfl⟩ dX12_keepsRow_27
    | succ n15878 ih15880 =>
      intro k15877 hk15877
      obtain ⟨x15879, ex15879⟩ : ∃ x : Int32, x = nI k15877 := ⟨_, rfl⟩
      have hx15879 : x15879.toInt = (k15877 : Int) := by rw [ex15879]; exact nI_toInt (by omega)
      have cx15879 : x15879.toNatClampNeg = k15877 := cl_nat hx15879
      rw [← ex15879]
      refine g_iload_n hk dX12_keepsRow_2 rfl ?_
      refine g_sipush (v := 165) hk dX12_keepsRow_3 (by decide) ?_
      refine g_icmp_ge (tgt := 27) (a := x15879.toInt) (b := 165) hk dX12_keepsRow_6 (by decide) rfl rfl (fun z9 => absurd z9 (show ¬ (165 ≤ x15879.toInt) from by omega)) (fun _ => ?_)
      refine g_aload_n hk dX12_keepsRow_9 rfl ?_
      refine gM_r0_35 hk hin12 (List.mem_cons_of_mem _ (List.mem_append_left _ (List.mem_of_getElem? (i := 0) rfl))) dX12_keepsRow_10 ?_
      refine g_iload_n hk dX12_keepsRow_13 rfl ?_
      refine g_aload_n hk dX12_keepsRow_14 rfl ?_
      refine gM_r0_36 hk hin12 (List.mem_cons_of_mem _ (List.mem_append_left _ (List.mem_of_getElem? (i := 1) rfl))) dX12_keepsRow_15 ?_
      refine g_iload_n hk dX12_keepsRow_18 rfl ?_
      refine lM_18 (v := (A 18 x15879.toNatClampNeg)) hk (vp_in_iff.mpr ⟨by omega, by omega⟩) rfl dX12_keepsRow_19 ?_
      refine sM_17 (j := x15879.toNatClampNeg) hk (vp_in_iff.mpr ⟨by omega, by omega⟩) rfl dX12_keepsRow_20 ?_
      obtain ⟨y15882, ey15882⟩ : ∃ y : Int32, y = x15879 + Int32.ofInt 1 := ⟨_, rfl⟩
      have hy15882 : y15882.toInt = x15879.toInt + 1 := i32_add ey15882 rfl (by decide) (by omega) (by omega)
      refine g_iinc (v := y15882) (lv' := [(1, .int y15882), (0, .ref (r 0))]) hk 0 dX12_keepsRow_21 rfl ey15882.symm (by decide) rfl ?_
      refine g_goto (tgt := 2) hk dX12_keepsRow_24 (by decide) ?_
      have q15883 := cl_int (y := x15879) (by omega)
      have q15884 := cl_int (y := x15879) (by omega)
      have eW : (up3 (up2 A 17 (cpo (A 18) (A 17) 0 k15877)) 17 (x15879.toNatClampNeg) (A 18 x15879.toNatClampNeg)) = (up2 A 17 (cpo (A 18) (A 17) 0 (k15877 + 1))) := cpo_st (by omega) (show (A 18 x15879.toNatClampNeg) = (A 18 k15877) from by rw [show x15879.toNatClampNeg = k15877 from by omega])
      have fy : y15882 = nI (k15877 + 1) := nI_of_toInt (by omega) (by omega)
      rw [eW, fy]
      exact g_lv (List.forall_mem_cons.mpr ⟨List.mem_of_getElem? (i := 0) rfl, (List.forall_mem_cons.mpr ⟨List.mem_of_getElem? (i := 1) rfl, (fun _ h => absurd h List.not_mem_nil)⟩)⟩) (ih15880 (k15877 + 1) (by omega))
  have lp15876e := lp15876 165 0 (by omega)
  rw [cpo_0] at lp15876e
  exact lp15876e
def wo_j116_X12_read : List Cond := [Cond.fieldLink RX12 124 "WarpDeskModel" "taped" "I", Cond.fieldLink RX12 130 "WarpDeskModel" "size" "I", Cond.methodLink RX12 194 yX12_cut, Cond.instanceMethod yX12_cut, Cond.selects RX12 yX12_cut yX12_cut, Cond.initialized RX12, Cond.fieldLink RX12 164 "WarpDeskModel" "t" "I", Cond.fieldLink RX12 161 "WarpDeskModel" "fault" "I", Cond.fieldLink RX12 176 "WarpDeskModel" "worst" "I", Cond.fieldLink RX12 170 "WarpDeskModel" "here" "I", Cond.fieldLink RX12 197 "WarpDeskModel" "live" "I", Cond.fieldLink RX12 200 "WarpDeskModel" "side" "I", Cond.fieldLink RX12 203 "WarpDeskModel" "names" "I", Cond.methodLink RX12 107 yX12_plain, Cond.instanceMethod yX12_plain, Cond.selects RX12 yX12_plain yX12_plain, Cond.methodLink RX12 188 yX12_is, Cond.instanceMethod yX12_is, Cond.selects RX12 yX12_is yX12_is, Cond.methodLink RX12 206 yX12_tellOne, Cond.instanceMethod yX12_tellOne, Cond.selects RX12 yX12_tellOne yX12_tellOne, Cond.fieldLink RX12 37 "WarpDeskModel" "place" "I", Cond.fieldLink RX12 111 "WarpDeskModel" "cause" "I", Cond.methodLink RX12 118 yX12_begins, Cond.instanceMethod yX12_begins, Cond.selects RX12 yX12_begins yX12_begins, Cond.methodLink RX12 121 yX12_keepsRow, Cond.instanceMethod yX12_keepsRow, Cond.selects RX12 yX12_keepsRow yX12_keepsRow, Cond.fieldLink RX12 209 "WarpDeskModel" "undos" "I", Cond.fieldLink RX12 100 "WarpDeskModel" "isHeld" "[Z", Cond.fieldLink RX12 167 "WarpDeskModel" "faultPlace" "I", Cond.fieldLink RX12 173 "WarpDeskModel" "faultCause" "I", Cond.fieldLink RX12 179 "WarpDeskModel" "worstPlace" "I", Cond.fieldLink RX12 182 "WarpDeskModel" "worstCause" "I", Cond.fieldLink RX12 17 "WarpDeskModel" "text" "[B", Cond.fieldLink RX12 13 "WarpDeskModel" "tape" "[B"]
def wz_j116_X12_read : List Cond := .code yX12_read cX12_read 2 (some .int) :: (wo_j116_X12_read ++ (wsX120 ++ (wz_j117_X12_cut ++ (wz_j124_X12_plain ++ (wz_j125_X12_is ++ (wz_j126_X12_tellOne ++ (wz_j138_X12_begins ++ (wz_j139_X12_keepsRow ++ ([] : List Cond)))))))))
theorem zg_j116_X12_read : ∀ w ∈ wz_j116_X12_read, goodWord w = true := zg_cons rfl (zg_app (by decide +kernel) (zg_app zgU_wsX120 (zg_app zg_j117_X12_cut (zg_app zg_j124_X12_plain (zg_app zg_j125_X12_is (zg_app zg_j126_X12_tellOne (zg_app zg_j138_X12_begins (zg_app zg_j139_X12_keepsRow zg_nil))))))))
theorem zi_j116_X12_read : ∀ w ∈ wz_j116_X12_read, w ∈ lw_tbl := zi_cons zw_1560 (zi_app (zi_cons zw_1381 (zi_cons zw_1383 (zi_cons zw_1561 (zi_cons zw_1563 (zi_cons zw_48 (zi_cons zw_115 (zi_cons zw_1390 (zi_cons zw_1391 (zi_cons zw_1393 (zi_cons zw_1396 (zi_cons zw_1400 (zi_cons zw_1401 (zi_cons zw_1402 (zi_cons zw_1361 (zi_cons zw_1363 (zi_cons zw_44 (zi_cons zw_1583 (zi_cons zw_1585 (zi_cons zw_52 (zi_cons zw_1587 (zi_cons zw_1589 (zi_cons zw_53 (zi_cons zw_1395 (zi_cons zw_1399 (zi_cons zw_1372 (zi_cons zw_1374 (zi_cons zw_45 (zi_cons zw_1376 (zi_cons zw_1378 (zi_cons zw_46 (zi_cons zw_1422 (zi_cons zw_1431 (zi_cons zw_1392 (zi_cons zw_1397 (zi_cons zw_1394 (zi_cons zw_1398 (zi_cons zw_1382 (zi_cons zw_1380 zi_nil)))))))))))))))))))))))))))))))))))))) (zi_app inX12 (zi_app zi_j117_X12_cut (zi_app zi_j124_X12_plain (zi_app zi_j125_X12_is (zi_app zi_j126_X12_tellOne (zi_app zi_j138_X12_begins (zi_app zi_j139_X12_keepsRow zi_nil))))))))
set_option maxHeartbeats 4000000 in
set_option maxRecDepth 100000 in
theorem j116_X12_read (l : Launch) (D : va_G) (zt : Nat × Nat × Nat × (Nat → Nat) × (Nat → Nat)) (r : Nat → Nat) (g : Nat → ClassId) (I : Nat → Int32) (A : Nat → Nat → Int32) (L : Nat → Nat → Int64) (hIv : IvM I A) : GM l D zt (tyM g) yX12_read wz_j116_X12_read ({ frames := 6, cells := 0, slots := 0, locals := 129 } : Room) [.ref (r 0)] (wM r g I A L) (fun v _ w' => ∃ (I' : Nat → Int32) (A' : Nat → Nat → Int32) (L' : Nat → Nat → Int64), Md [1, 2, 3, 4, 6, 7, 8, 9, 10, 11, 12, 13, 14, 15, 16, 17, 22] I I' ∧ Md [1, 2, 3, 4, 8, 9, 10, 11, 12, 13, 14, 15, 16, 17, 18, 27] A A' ∧ IvM I' A' ∧ ∃ y0 : Int32, ((I' 1).toInt = 0) ∧ (0 ≤ y0.toInt) ∧ (y0.toInt ≤ 9) ∧ v = some (.int y0) ∧ w' = wM r g I' A' L') 0 0 := by
  refine GM.of (cc := cX12_read) (maxL := 2) (ret := (some .int)) (own := RX12) (lv := [(0, .ref (r 0))]) (by decide) rfl rfl (Nat.le_of_ble_eq_true rfl) rfl (fun κ sz hk hR hN => ?_)
  have hin12 : ∀ w ∈ u_ws RX12 TX12 55, w ∈ wz_j116_X12_read := fun w h => (List.mem_cons_of_mem _ (List.mem_append_right _ (List.mem_append_left _ h)))
  refine g_aload_n hk dX12_read_0 rfl ?_
  refine g_aload_n hk dX12_read_1 rfl ?_
  refine gM_i1 (v := (I 1)) hk hin12 (List.mem_cons_of_mem _ (List.mem_append_left _ (List.mem_of_getElem? (i := 0) rfl))) dX12_read_2 rfl ?_
  have f321 := IvM_f1 hIv
  refine pM_i2 hk hin12 (List.mem_cons_of_mem _ (List.mem_append_left _ (List.mem_of_getElem? (i := 1) rfl))) dX12_read_5 ?_
  refine g_iconst (v := 0) hk dX12_read_8 (by decide) ?_
  refine g_istore_n (lv' := [(1, .int 0), (0, .ref (r 0))]) hk dX12_read_9 (by decide) rfl ?_
  have lp17073 : ∀ (n17074 : Nat) (x322 : Int32) (I324 : Nat → Int32) (A324 : Nat → Nat → Int32) (L324 : Nat → Nat → Int64), (Md [] (upd I 2 (I 1)) I324) → (Md [1] A A324) → (IvM I324 A324) → (0 ≤ x322.toInt) → (x322.toInt ≤ 2000) → (2001 - x322.toInt < (n17074 : Int)) → (0 < n17074) → GW κ 2 0 0 (wM r g I324 A324 L324) 10 [(1, .int x322), (0, .ref (r 0))] [] := by
    intro n17074
    induction n17074 with
    | zero =>
      intro x322 I324 A324 L324 hI324 hA324 hV324 h17071 h17072 m17075 m17075z
      exact absurd m17075z (Nat.lt_irrefl 0)
    | succ n17074 ih17076 =>
      intro x322 I324 A324 L324 hI324 hA324 hV324 h17071 h17072 m17075 m17075z
      refine g_iload_n hk dX12_read_10 rfl ?_
      refine g_aload_n hk dX12_read_11 rfl ?_
      refine gM_i2 (v := (I 1)) hk hin12 (List.mem_cons_of_mem _ (List.mem_append_left _ (List.mem_of_getElem? (i := 1) rfl))) dX12_read_12 (hI324 2 rfl) ?_
      refine g_icmp_ge (tgt := 36) (a := x322.toInt) (b := (I 1).toInt) hk dX12_read_15 (by decide) rfl rfl (fun c17077 => ?_) (fun c17077 => ?_)
      · skip
        refine g_aload_n hk dX12_read_36 rfl ?_
        refine g_iconst (v := 0) hk dX12_read_37 (by decide) ?_
        refine pM_i1 hk hin12 (List.mem_cons_of_mem _ (List.mem_append_left _ (List.mem_of_getElem? (i := 0) rfl))) dX12_read_38 ?_
        refine g_aload_n hk dX12_read_41 rfl ?_
        refine g_callV (n := 0) hk (j117_X12_cut l D zt r g (upd I324 1 0) A324 L324  ⟨(show 0 ≤ (0 : Int32).toInt ∧ (0 : Int32).toInt ≤ 2000 from ⟨by decide, by decide⟩), (IvM_f2 (I := I324) (A := A324) hV324), (IvM_f3 (I := I324) (A := A324) hV324), (IvM_f4 (I := I324) (A := A324) hV324), (IvM_f6 (I := I324) (A := A324) hV324), (IvM_f8 (I := I324) (A := A324) hV324), (IvM_f15 (I := I324) (A := A324) hV324), (IvM_f16 (I := I324) (A := A324) hV324), (IvM_f17 (I := I324) (A := A324) hV324), (IvM_f18 (I := I324) (A := A324) hV324), (IvM_f22 (I := I324) (A := A324) hV324), (IvM_f23 (I := I324) (A := A324) hV324), (IvM_f24 (I := I324) (A := A324) hV324), (IvM_a11 (I := I324) (A := A324) hV324), (IvM_a26 (I := I324) (A := A324) hV324), (IvM_s8_0 (I := I324) (A := A324) hV324), (IvM_s8_1 (I := I324) (A := A324) hV324), (IvM_s10_0 (I := I324) (A := A324) hV324), (IvM_s10_1 (I := I324) (A := A324) hV324), (IvM_s17_0 (I := I324) (A := A324) hV324), (IvM_s17_164 (I := I324) (A := A324) hV324), (IvM_lv (I := I324) (A := A324) hV324), (IvM_sd (I := I324) (A := A324) hV324), (IvM_nq (I := I324) (A := A324) hV324), (IvM_hr (I := I324) (A := A324) hV324), (IvM_hh (I := I324) (A := A324) hV324), trivial⟩) (SP.same _) (fun _ h => h) (gi_V (List.mem_cons_of_mem _ (List.mem_append_left _ (List.mem_of_getElem? (i := 2) rfl))) (List.mem_cons_of_mem _ (List.mem_append_left _ (List.mem_of_getElem? (i := 3) rfl))) (List.mem_cons_of_mem _ (List.mem_append_left _ (List.mem_of_getElem? (i := 4) rfl))) (List.mem_cons_of_mem _ (List.mem_append_left _ (List.mem_of_getElem? (i := 5) rfl))) (gi_sub (fun w h => (List.mem_cons_of_mem _ (List.mem_append_right _ (List.mem_append_right _ (List.mem_append_left _ h))))) zg_j117_X12_cut)) rfl rfl rfl (by decide +kernel) ⟨Nat.le_of_ble_eq_true rfl, Nat.le_of_ble_eq_true rfl⟩ 0 rfl rfl rfl rfl (Nat.le_of_ble_eq_true rfl) ⟨Nat.le_of_ble_eq_true rfl, Nat.le_of_ble_eq_true rfl⟩ dX12_read_42 (fun v ty' w' hp hk' => ?_)
        obtain ⟨I17079, A17079, L17079, hI17079, hA17079, hV17079, rfl, rfl⟩ := hp
        show GW κ 2 0 0 (wM r g I17079 A17079 L17079) 45 [(1, .int x322), (0, .ref (r 0))] []
        refine g_aload_n hk dX12_read_45 rfl ?_
        refine g_iconst (v := 0) hk dX12_read_46 (by decide) ?_
        refine pM_i4 hk hin12 (List.mem_cons_of_mem _ (List.mem_append_left _ (List.mem_of_getElem? (i := 6) rfl))) dX12_read_47 ?_
        refine g_aload_n hk dX12_read_50 rfl ?_
        refine g_iconst (v := 0) hk dX12_read_51 (by decide) ?_
        refine pM_i6 hk hin12 (List.mem_cons_of_mem _ (List.mem_append_left _ (List.mem_of_getElem? (i := 7) rfl))) dX12_read_52 ?_
        refine g_aload_n hk dX12_read_55 rfl ?_
        refine g_iconst (v := 0) hk dX12_read_56 (by decide) ?_
        refine pM_i8 hk hin12 (List.mem_cons_of_mem _ (List.mem_append_left _ (List.mem_of_getElem? (i := 8) rfl))) dX12_read_57 ?_
        refine g_aload_n hk dX12_read_60 rfl ?_
        refine g_bipush (v := (-2)) hk dX12_read_61 (by decide) ?_
        refine pM_i11 hk hin12 (List.mem_cons_of_mem _ (List.mem_append_left _ (List.mem_of_getElem? (i := 9) rfl))) dX12_read_63 ?_
        refine g_aload_n hk dX12_read_66 rfl ?_
        refine g_iconst (v := 1) hk dX12_read_67 (by decide) ?_
        refine g_aload_n hk dX12_read_68 rfl ?_
        refine gM_i15 (v := (I 15)) hk hin12 (List.mem_cons_of_mem _ (List.mem_append_left _ (List.mem_of_getElem? (i := 10) rfl))) dX12_read_69 ((hI17079 15 rfl).trans (hI324 15 rfl)) ?_
        have f17080 := IvM_f15 hIv
        by_cases c17081 : (I 15).toInt = 0
        · have ec17081 : (I 15) = 0 := Int32.toInt_inj.mp c17081
          rw [ec17081]
          show GW κ 2 0 0 (wM r g (upd (upd (upd (upd I17079 4 0) 6 0) 8 0) 11 (-2)) A17079 L17079) 72 [(1, .int x322), (0, .ref (r 0))] [.int 0, .int 1, .ref (r 0)]
          refine g_isub hk dX12_read_72 ?_
          refine g_norm (v := 1) (by decide) ?_
          refine pM_i16 hk hin12 (List.mem_cons_of_mem _ (List.mem_append_left _ (List.mem_of_getElem? (i := 11) rfl))) dX12_read_73 ?_
          refine g_aload_n hk dX12_read_76 rfl ?_
          refine g_iconst (v := 0) hk dX12_read_77 (by decide) ?_
          refine pM_i17 hk hin12 (List.mem_cons_of_mem _ (List.mem_append_left _ (List.mem_of_getElem? (i := 12) rfl))) dX12_read_78 ?_
          refine g_aload_n hk dX12_read_81 rfl ?_
          refine g_aload_n hk dX12_read_82 rfl ?_
          refine gM_i16 (v := 1) hk hin12 (List.mem_cons_of_mem _ (List.mem_append_left _ (List.mem_of_getElem? (i := 11) rfl))) dX12_read_83 rfl ?_
          have k17082 : (1 : Int32).toInt = 1 := rfl
          refine g_callV (n := 1) hk (j124_X12_plain l D zt r g (upd (upd (upd (upd (upd (upd I17079 4 0) 6 0) 8 0) 11 (-2)) 16 1) 17 0) A17079 L17079 1  (by decide) (by decide)) (SP.same _) (fun _ h => h) (gi_V (List.mem_cons_of_mem _ (List.mem_append_left _ (List.mem_of_getElem? (i := 13) rfl))) (List.mem_cons_of_mem _ (List.mem_append_left _ (List.mem_of_getElem? (i := 14) rfl))) (List.mem_cons_of_mem _ (List.mem_append_left _ (List.mem_of_getElem? (i := 15) rfl))) (List.mem_cons_of_mem _ (List.mem_append_left _ (List.mem_of_getElem? (i := 5) rfl))) (gi_sub (fun w h => (List.mem_cons_of_mem _ (List.mem_append_right _ (List.mem_append_right _ (List.mem_append_right _ (List.mem_append_left _ h)))))) zg_j124_X12_plain)) rfl rfl rfl (by decide +kernel) ⟨Nat.le_of_ble_eq_true rfl, Nat.le_of_ble_eq_true rfl⟩ 0 rfl rfl rfl rfl (Nat.le_of_ble_eq_true rfl) ⟨Nat.le_of_ble_eq_true rfl, Nat.le_of_ble_eq_true rfl⟩ dX12_read_86 (fun v ty' w' hp hk' => ?_)
          obtain ⟨rfl, rfl⟩ := hp
          show GW κ 2 0 0 (wM r g (upd (upd (upd (upd (upd (upd I17079 4 0) 6 0) 8 0) 11 (-2)) 16 1) 17 0) (up3 (up3 (up3 (up3 (up3 (up3 A17079 8 1 0) 10 1 0) 13 1 2) 14 1 0) 15 1 0) 16 1 8) L17079) 89 [(1, .int x322), (0, .ref (r 0))] []
          have lp17177 : ∀ (n17178 : Nat) (I17085 : Nat → Int32) (A17085 : Nat → Nat → Int32) (L17085 : Nat → Nat → Int64), (Md [4, 6, 7, 8, 9, 11, 12, 13, 17] (upd (upd (upd (upd (upd (upd I17079 4 0) 6 0) 8 0) 11 (-2)) 16 1) 17 0) I17085) → (Md [8, 9, 10, 11, 12, 13, 14, 15, 16] (up3 (up3 (up3 (up3 (up3 (up3 A17079 8 1 0) 10 1 0) 13 1 2) 14 1 0) 15 1 0) 16 1 8) A17085) → (IvM I17085 A17085) → (10 * (401 - (I17085 4).toInt) + (10 - (I17085 6).toInt) < (n17178 : Int)) → (0 < n17178) → GW κ 2 0 0 (wM r g I17085 A17085 L17085) 89 [(1, .int x322), (0, .ref (r 0))] [] := by
            intro n17178
            induction n17178 with
            | zero =>
              intro I17085 A17085 L17085 hI17085 hA17085 hV17085 m17179 m17179z
              exact absurd m17179z (Nat.lt_irrefl 0)
            | succ n17178 ih17180 =>
              intro I17085 A17085 L17085 hI17085 hA17085 hV17085 m17179 m17179z
              have f17181 := IvM_f4 hV17085
              have f17182 := IvM_f6 hV17085
              refine g_aload_n hk dX12_read_89 rfl ?_
              refine gM_i6 (v := (I17085 6)) hk hin12 (List.mem_cons_of_mem _ (List.mem_append_left _ (List.mem_of_getElem? (i := 7) rfl))) dX12_read_90 rfl ?_
              refine g_if_ne (tgt := 111) (a := (I17085 6).toInt) hk dX12_read_93 (by decide) rfl (fun c17183 => ?_) (fun c17183 => ?_)
              · skip
                refine g_aload_n hk dX12_read_111 rfl ?_
                refine g_aload_n hk dX12_read_112 rfl ?_
                refine gM_i6 (v := (I17085 6)) hk hin12 (List.mem_cons_of_mem _ (List.mem_append_left _ (List.mem_of_getElem? (i := 7) rfl))) dX12_read_113 rfl ?_
                refine g_if_le (tgt := 126) (a := (I17085 6).toInt) hk dX12_read_116 (by decide) rfl (fun z9 => absurd z9 (show ¬ ((I17085 6).toInt ≤ 0) from by omega)) (fun _ => ?_)
                refine g_aload_n hk dX12_read_119 rfl ?_
                refine gM_i7 (v := (I17085 7)) hk hin12 (List.mem_cons_of_mem _ (List.mem_append_left _ (List.mem_of_getElem? (i := 32) rfl))) dX12_read_120 rfl ?_
                refine g_goto (tgt := 141) hk dX12_read_123 (by decide) ?_
                refine pM_i10 hk hin12 (List.mem_cons_of_mem _ (List.mem_append_left _ (List.mem_of_getElem? (i := 22) rfl))) dX12_read_141 ?_
                refine g_aload_n hk dX12_read_144 rfl ?_
                refine g_aload_n hk dX12_read_145 rfl ?_
                refine gM_i6 (v := (I17085 6)) hk hin12 (List.mem_cons_of_mem _ (List.mem_append_left _ (List.mem_of_getElem? (i := 7) rfl))) dX12_read_146 rfl ?_
                refine g_if_le (tgt := 159) (a := (I17085 6).toInt) hk dX12_read_149 (by decide) rfl (fun z9 => absurd z9 (show ¬ ((I17085 6).toInt ≤ 0) from by omega)) (fun _ => ?_)
                refine g_aload_n hk dX12_read_152 rfl ?_
                refine gM_i12 (v := (I17085 12)) hk hin12 (List.mem_cons_of_mem _ (List.mem_append_left _ (List.mem_of_getElem? (i := 33) rfl))) dX12_read_153 rfl ?_
                refine g_goto (tgt := 174) hk dX12_read_156 (by decide) ?_
                refine pM_i14 hk hin12 (List.mem_cons_of_mem _ (List.mem_append_left _ (List.mem_of_getElem? (i := 23) rfl))) dX12_read_174 ?_
                refine g_aload_n hk dX12_read_177 rfl ?_
                refine gM_i6 (v := (I17085 6)) hk hin12 (List.mem_cons_of_mem _ (List.mem_append_left _ (List.mem_of_getElem? (i := 7) rfl))) dX12_read_178 rfl ?_
                refine g_if_le (tgt := 189) (a := (I17085 6).toInt) hk dX12_read_181 (by decide) rfl (fun z9 => absurd z9 (show ¬ ((I17085 6).toInt ≤ 0) from by omega)) (fun _ => ?_)
                refine g_aload_n hk dX12_read_184 rfl ?_
                refine gM_i6 (v := (I17085 6)) hk hin12 (List.mem_cons_of_mem _ (List.mem_append_left _ (List.mem_of_getElem? (i := 7) rfl))) dX12_read_185 rfl ?_
                have k17184 : (0 : Int32).toInt = 0 := rfl
                exact g_iret hk hR rfl ⟨(upd (upd I17085 10 (I17085 7)) 14 (I17085 12)), A17085, L17085, (show Md [1, 2, 3, 4, 6, 7, 8, 9, 10, 11, 12, 13, 14, 15, 16, 17, 22] I (upd (upd I17085 10 (I17085 7)) 14 (I17085 12)) from (Md.up (Md.up (Md.tr (Md.up (Md.up (Md.up (Md.up (Md.up (Md.up (Md.tr (Md.up (Md.tr (Md.up Md.rf rfl) hI324 rfl) rfl) hI17079 rfl) rfl) rfl) rfl) rfl) rfl) rfl) hI17085 rfl) rfl) rfl)), (show Md [1, 2, 3, 4, 8, 9, 10, 11, 12, 13, 14, 15, 16, 17, 18, 27] A A17085 from (Md.tr (Md.up3 (Md.up3 (Md.up3 (Md.up3 (Md.up3 (Md.up3 (Md.tr (Md.tr Md.rf hA324 rfl) hA17079 rfl) rfl) rfl) rfl) rfl) rfl) rfl) hA17085 rfl)), ⟨(IvM_f1 (I := I17085) (A := A17085) hV17085), (IvM_f2 (I := I17085) (A := A17085) hV17085), (IvM_f3 (I := I17085) (A := A17085) hV17085), (IvM_f4 (I := I17085) (A := A17085) hV17085), (IvM_f6 (I := I17085) (A := A17085) hV17085), (IvM_f8 (I := I17085) (A := A17085) hV17085), (IvM_f15 (I := I17085) (A := A17085) hV17085), (IvM_f16 (I := I17085) (A := A17085) hV17085), (IvM_f17 (I := I17085) (A := A17085) hV17085), (IvM_f18 (I := I17085) (A := A17085) hV17085), (IvM_f22 (I := I17085) (A := A17085) hV17085), (IvM_f23 (I := I17085) (A := A17085) hV17085), (IvM_f24 (I := I17085) (A := A17085) hV17085), (IvM_a11 (I := I17085) (A := A17085) hV17085), (IvM_a26 (I := I17085) (A := A17085) hV17085), (IvM_s8_0 (I := I17085) (A := A17085) hV17085), (IvM_s8_1 (I := I17085) (A := A17085) hV17085), (IvM_s10_0 (I := I17085) (A := A17085) hV17085), (IvM_s10_1 (I := I17085) (A := A17085) hV17085), (IvM_s17_0 (I := I17085) (A := A17085) hV17085), (IvM_s17_164 (I := I17085) (A := A17085) hV17085), (IvM_lv (I := I17085) (A := A17085) hV17085), (IvM_sd (I := I17085) (A := A17085) hV17085), (IvM_nq (I := I17085) (A := A17085) hV17085), (IvM_hr (I := I17085) (A := A17085) hV17085), (IvM_hh (I := I17085) (A := A17085) hV17085), trivial⟩, (I17085 6), (by rw [show (upd (upd I17085 10 (I17085 7)) 14 (I17085 12)) 1 = 0 from ((hI17085 1 rfl).trans (hI17079 1 rfl))]; omega), (by omega), (by omega), rfl, rfl⟩ dX12_read_188
              · skip
                refine g_aload_n hk dX12_read_96 rfl ?_
                refine g_iconst (v := 0) hk dX12_read_97 (by decide) ?_
                have k17185 : (0 : Int32).toInt = 0 := rfl
                refine g_callV (n := 1) hk (j125_X12_is l D zt r g I17085 A17085 L17085 0 hV17085) (SP.same _) (fun _ h => h) (gi_V (List.mem_cons_of_mem _ (List.mem_append_left _ (List.mem_of_getElem? (i := 16) rfl))) (List.mem_cons_of_mem _ (List.mem_append_left _ (List.mem_of_getElem? (i := 17) rfl))) (List.mem_cons_of_mem _ (List.mem_append_left _ (List.mem_of_getElem? (i := 18) rfl))) (List.mem_cons_of_mem _ (List.mem_append_left _ (List.mem_of_getElem? (i := 5) rfl))) (gi_sub (fun w h => (List.mem_cons_of_mem _ (List.mem_append_right _ (List.mem_append_right _ (List.mem_append_right _ (List.mem_append_right _ (List.mem_append_left _ h))))))) zg_j125_X12_is)) rfl rfl rfl (by decide +kernel) ⟨Nat.le_of_ble_eq_true rfl, Nat.le_of_ble_eq_true rfl⟩ 0 rfl rfl rfl rfl (Nat.le_of_ble_eq_true rfl) ⟨Nat.le_of_ble_eq_true rfl, Nat.le_of_ble_eq_true rfl⟩ dX12_read_98 (fun v ty' w' hp hk' => ?_)
                rcases hp with ⟨c17186, rfl, rfl⟩ | ⟨c17188, rfl, rfl⟩
                · skip
                  rw [show (A17085 2 (I17085 4).toNatClampNeg) = (A17079 2 (I17085 4).toNatClampNeg) from (congrFun (hA17085 2 rfl) _)] at c17186
                  show GW κ 2 0 0 (wM r g I17085 A17085 L17085) 101 [(1, .int x322), (0, .ref (r 0))] [.int 0]
                  refine g_if_ne (tgt := 111) (a := 0) hk dX12_read_101 (by decide) rfl (fun z9 => absurd z9 (show ¬ ((0 : Int) ≠ (0 : Int)) from by decide)) (fun _ => ?_)
                  refine g_aload_n hk dX12_read_104 rfl ?_
                  refine g_callV (n := 0) hk (j126_X12_tellOne l D zt r g I17085 A17085 L17085  hV17085 (by first | (rw [show (I17085 15) = (I 15) from ((hI17085 15 rfl).trans ((hI17079 15 rfl).trans (hI324 15 rfl))), show (I17085 16) = (1 : Int32) from (hI17085 16 rfl)] <;> omega) | omega)) (SP.same _) (fun _ h => h) (gi_V (List.mem_cons_of_mem _ (List.mem_append_left _ (List.mem_of_getElem? (i := 19) rfl))) (List.mem_cons_of_mem _ (List.mem_append_left _ (List.mem_of_getElem? (i := 20) rfl))) (List.mem_cons_of_mem _ (List.mem_append_left _ (List.mem_of_getElem? (i := 21) rfl))) (List.mem_cons_of_mem _ (List.mem_append_left _ (List.mem_of_getElem? (i := 5) rfl))) (gi_sub (fun w h => (List.mem_cons_of_mem _ (List.mem_append_right _ (List.mem_append_right _ (List.mem_append_right _ (List.mem_append_right _ (List.mem_append_right _ (List.mem_append_left _ h)))))))) zg_j126_X12_tellOne)) rfl rfl rfl (by decide +kernel) ⟨Nat.le_of_ble_eq_true rfl, Nat.le_of_ble_eq_true rfl⟩ 0 rfl rfl rfl rfl (Nat.le_of_ble_eq_true rfl) ⟨Nat.le_of_ble_eq_true rfl, Nat.le_of_ble_eq_true rfl⟩ dX12_read_105 (fun v ty' w' hp hk' => ?_)
                  obtain ⟨I17191, A17191, L17191, hI17191, hA17191, hV17191, r17192, r17193, r17194, r17195, rfl, rfl⟩ := hp
                  have f17196 := IvM_f4 hV17191
                  have f17197 := IvM_f6 hV17191
                  have f17198 := IvM_f8 hV17085
                  have f17199 := IvM_f8 hV17191
                  show GW κ 2 0 0 (wM r g I17191 A17191 L17191) 108 [(1, .int x322), (0, .ref (r 0))] []
                  refine g_goto (tgt := 89) hk dX12_read_108 (by decide) ?_
                  exact g_lv (List.forall_mem_cons.mpr ⟨List.mem_of_getElem? (i := 0) rfl, (List.forall_mem_cons.mpr ⟨List.mem_of_getElem? (i := 1) rfl, (fun _ h => absurd h List.not_mem_nil)⟩)⟩) (ih17180 I17191 A17191 L17191 (show Md [4, 6, 7, 8, 9, 11, 12, 13, 17] (upd (upd (upd (upd (upd (upd I17079 4 0) 6 0) 8 0) 11 (-2)) 16 1) 17 0) I17191 from Md.tr hI17085 (show Md [4, 6, 7, 8, 9, 11, 12, 13, 17] I17085 I17191 from (Md.tr Md.rf hI17191 rfl)) rfl) (show Md [8, 9, 10, 11, 12, 13, 14, 15, 16] (up3 (up3 (up3 (up3 (up3 (up3 A17079 8 1 0) 10 1 0) 13 1 2) 14 1 0) 15 1 0) 16 1 8) A17191 from Md.tr hA17085 (show Md [8, 9, 10, 11, 12, 13, 14, 15, 16] A17085 A17191 from (Md.tr Md.rf hA17191 rfl)) rfl) hV17191 (by omega) (by omega))
                · skip
                  rw [show (A17085 2 (I17085 4).toNatClampNeg) = (A17079 2 (I17085 4).toNatClampNeg) from (congrFun (hA17085 2 rfl) _)] at c17188
                  show GW κ 2 0 0 (wM r g I17085 A17085 L17085) 101 [(1, .int x322), (0, .ref (r 0))] [.int 1]
                  refine g_if_ne (tgt := 111) (a := 1) hk dX12_read_101 (by decide) rfl (fun _ => ?_) (fun z9 => absurd (show (1 : Int) ≠ (0 : Int) from by decide) z9)
                  refine g_aload_n hk dX12_read_111 rfl ?_
                  refine g_aload_n hk dX12_read_112 rfl ?_
                  refine gM_i6 (v := (I17085 6)) hk hin12 (List.mem_cons_of_mem _ (List.mem_append_left _ (List.mem_of_getElem? (i := 7) rfl))) dX12_read_113 rfl ?_
                  refine g_if_le (tgt := 126) (a := (I17085 6).toInt) hk dX12_read_116 (by decide) rfl (fun _ => ?_) (fun z9 => absurd (show (I17085 6).toInt ≤ 0 from by omega) z9)
                  refine g_aload_n hk dX12_read_126 rfl ?_
                  refine gM_i8 (v := (I17085 8)) hk hin12 (List.mem_cons_of_mem _ (List.mem_append_left _ (List.mem_of_getElem? (i := 8) rfl))) dX12_read_127 rfl ?_
                  have f17200 := IvM_f8 hV17085
                  refine g_if_le (tgt := 140) (a := (I17085 8).toInt) hk dX12_read_130 (by decide) rfl (fun c17201 => ?_) (fun c17201 => ?_)
                  · skip
                    refine g_iconst (v := (-1)) hk dX12_read_140 (by decide) ?_
                    refine pM_i10 hk hin12 (List.mem_cons_of_mem _ (List.mem_append_left _ (List.mem_of_getElem? (i := 22) rfl))) dX12_read_141 ?_
                    refine g_aload_n hk dX12_read_144 rfl ?_
                    refine g_aload_n hk dX12_read_145 rfl ?_
                    refine gM_i6 (v := (I17085 6)) hk hin12 (List.mem_cons_of_mem _ (List.mem_append_left _ (List.mem_of_getElem? (i := 7) rfl))) dX12_read_146 rfl ?_
                    refine g_if_le (tgt := 159) (a := (I17085 6).toInt) hk dX12_read_149 (by decide) rfl (fun _ => ?_) (fun z9 => absurd (show (I17085 6).toInt ≤ 0 from by omega) z9)
                    refine g_aload_n hk dX12_read_159 rfl ?_
                    refine gM_i8 (v := (I17085 8)) hk hin12 (List.mem_cons_of_mem _ (List.mem_append_left _ (List.mem_of_getElem? (i := 8) rfl))) dX12_read_160 rfl ?_
                    refine g_if_le (tgt := 173) (a := (I17085 8).toInt) hk dX12_read_163 (by decide) rfl (fun _ => ?_) (fun z9 => absurd (show (I17085 8).toInt ≤ 0 from by omega) z9)
                    refine g_iconst (v := (-1)) hk dX12_read_173 (by decide) ?_
                    refine pM_i14 hk hin12 (List.mem_cons_of_mem _ (List.mem_append_left _ (List.mem_of_getElem? (i := 23) rfl))) dX12_read_174 ?_
                    refine g_aload_n hk dX12_read_177 rfl ?_
                    refine gM_i6 (v := (I17085 6)) hk hin12 (List.mem_cons_of_mem _ (List.mem_append_left _ (List.mem_of_getElem? (i := 7) rfl))) dX12_read_178 rfl ?_
                    refine g_if_le (tgt := 189) (a := (I17085 6).toInt) hk dX12_read_181 (by decide) rfl (fun _ => ?_) (fun z9 => absurd (show (I17085 6).toInt ≤ 0 from by omega) z9)
                    refine g_aload_n hk dX12_read_189 rfl ?_
                    refine gM_i8 (v := (I17085 8)) hk hin12 (List.mem_cons_of_mem _ (List.mem_append_left _ (List.mem_of_getElem? (i := 8) rfl))) dX12_read_190 rfl ?_
                    refine g_if_le (tgt := 201) (a := (I17085 8).toInt) hk dX12_read_193 (by decide) rfl (fun _ => ?_) (fun z9 => absurd (show (I17085 8).toInt ≤ 0 from by omega) z9)
                    refine g_aload_n hk dX12_read_201 rfl ?_
                    refine g_aload_n hk dX12_read_202 rfl ?_
                    refine gM_i16 (v := 1) hk hin12 (List.mem_cons_of_mem _ (List.mem_append_left _ (List.mem_of_getElem? (i := 11) rfl))) dX12_read_203 (hI17085 16 rfl) ?_
                    refine pM_i15 hk hin12 (List.mem_cons_of_mem _ (List.mem_append_left _ (List.mem_of_getElem? (i := 10) rfl))) dX12_read_206 ?_
                    refine g_aload_n hk dX12_read_209 rfl ?_
                    have g17202 : (I17085 16).toInt = (1 : Int32).toInt := by rw [show (I17085 16) = 1 from (hI17085 16 rfl)]
                    refine g_callV (n := 0) hk (j138_X12_begins l D zt r g (upd (upd (upd I17085 10 (-1)) 14 (-1)) 15 1) A17085 L17085  ⟨(IvM_f1 (I := I17085) (A := A17085) hV17085), (IvM_f2 (I := I17085) (A := A17085) hV17085), (IvM_f3 (I := I17085) (A := A17085) hV17085), (IvM_f4 (I := I17085) (A := A17085) hV17085), (IvM_f6 (I := I17085) (A := A17085) hV17085), (IvM_f8 (I := I17085) (A := A17085) hV17085), (show 0 ≤ (1 : Int32).toInt ∧ (1 : Int32).toInt ≤ 1 from ⟨by decide, by decide⟩), (IvM_f16 (I := I17085) (A := A17085) hV17085), (IvM_f17 (I := I17085) (A := A17085) hV17085), (IvM_f18 (I := I17085) (A := A17085) hV17085), (IvM_f22 (I := I17085) (A := A17085) hV17085), (IvM_f23 (I := I17085) (A := A17085) hV17085), (IvM_f24 (I := I17085) (A := A17085) hV17085), (IvM_a11 (I := I17085) (A := A17085) hV17085), (IvM_a26 (I := I17085) (A := A17085) hV17085), (IvM_s8_0 (I := I17085) (A := A17085) hV17085), (IvM_s8_1 (I := I17085) (A := A17085) hV17085), (IvM_s10_0 (I := I17085) (A := A17085) hV17085), (IvM_s10_1 (I := I17085) (A := A17085) hV17085), (IvM_s17_0 (I := I17085) (A := A17085) hV17085), (IvM_s17_164 (I := I17085) (A := A17085) hV17085), ⟨fun e => absurd (show (1 : Int32).toInt = 0 from e) (by decide), fun e => (by rcases (IvM_sd (I := I17085) (A := A17085) hV17085) with h9 | h9 | h9; exact absurd h9 (by omega); exact absurd h9 (by omega); exact h9.2 (by omega))⟩, (IvM_sd (I := I17085) (A := A17085) hV17085), (IvM_nq (I := I17085) (A := A17085) hV17085), (IvM_hr (I := I17085) (A := A17085) hV17085), (IvM_hh (I := I17085) (A := A17085) hV17085), trivial⟩) (SP.same _) (fun _ h => h) (gi_V (List.mem_cons_of_mem _ (List.mem_append_left _ (List.mem_of_getElem? (i := 24) rfl))) (List.mem_cons_of_mem _ (List.mem_append_left _ (List.mem_of_getElem? (i := 25) rfl))) (List.mem_cons_of_mem _ (List.mem_append_left _ (List.mem_of_getElem? (i := 26) rfl))) (List.mem_cons_of_mem _ (List.mem_append_left _ (List.mem_of_getElem? (i := 5) rfl))) (gi_sub (fun w h => (List.mem_cons_of_mem _ (List.mem_append_right _ (List.mem_append_right _ (List.mem_append_right _ (List.mem_append_right _ (List.mem_append_right _ (List.mem_append_right _ (List.mem_append_left _ h))))))))) zg_j138_X12_begins)) rfl rfl rfl (by decide +kernel) ⟨Nat.le_of_ble_eq_true rfl, Nat.le_of_ble_eq_true rfl⟩ 0 rfl rfl rfl rfl (Nat.le_of_ble_eq_true rfl) ⟨Nat.le_of_ble_eq_true rfl, Nat.le_of_ble_eq_true rfl⟩ dX12_read_210 (fun v ty' w' hp hk' => ?_)
                    obtain ⟨I17204, A17204, L17204, hI17204, hA17204, hV17204, r17205, r17206, r17207, rfl, rfl⟩ := hp
                    show GW κ 2 0 0 (wM r g I17204 A17204 L17204) 213 [(1, .int x322), (0, .ref (r 0))] []
                    refine g_aload_n hk dX12_read_213 rfl ?_
                    refine g_callV (n := 0) hk (j139_X12_keepsRow l D zt r g I17204 A17204 L17204  hV17204 (by omega) (by omega) (by omega)) (SP.same _) (fun _ h => h) (gi_V (List.mem_cons_of_mem _ (List.mem_append_left _ (List.mem_of_getElem? (i := 27) rfl))) (List.mem_cons_of_mem _ (List.mem_append_left _ (List.mem_of_getElem? (i := 28) rfl))) (List.mem_cons_of_mem _ (List.mem_append_left _ (List.mem_of_getElem? (i := 29) rfl))) (List.mem_cons_of_mem _ (List.mem_append_left _ (List.mem_of_getElem? (i := 5) rfl))) (gi_sub (fun w h => (List.mem_cons_of_mem _ (List.mem_append_right _ (List.mem_append_right _ (List.mem_append_right _ (List.mem_append_right _ (List.mem_append_right _ (List.mem_append_right _ (List.mem_append_right _ (List.mem_append_left _ h)))))))))) zg_j139_X12_keepsRow)) rfl rfl rfl (by decide +kernel) ⟨Nat.le_of_ble_eq_true rfl, Nat.le_of_ble_eq_true rfl⟩ 0 rfl rfl rfl rfl (Nat.le_of_ble_eq_true rfl) ⟨Nat.le_of_ble_eq_true rfl, Nat.le_of_ble_eq_true rfl⟩ dX12_read_214 (fun v ty' w' hp hk' => ?_)
                    obtain ⟨I17209, A17209, L17209, hI17209, hA17209, hV17209, rfl, rfl⟩ := hp
                    show GW κ 2 0 0 (wM r g I17209 A17209 L17209) 217 [(1, .int x322), (0, .ref (r 0))] []
                    refine g_aload_n hk dX12_read_217 rfl ?_
                    refine g_iconst (v := 0) hk dX12_read_218 (by decide) ?_
                    refine pM_i22 hk hin12 (List.mem_cons_of_mem _ (List.mem_append_left _ (List.mem_of_getElem? (i := 30) rfl))) dX12_read_219 ?_
                    refine g_iconst (v := 0) hk dX12_read_222 (by decide) ?_
                    refine g_istore_n (lv' := [(1, .int 0), (0, .ref (r 0))]) hk dX12_read_223 (by decide) rfl ?_
                    have lp17221 : ∀ (n17222 : Nat) (x17210 : Int32) (I17212 : Nat → Int32) (A17212 : Nat → Nat → Int32) (L17212 : Nat → Nat → Int64), (Md [] (upd I17209 22 0) I17212) → (Md [27] A17209 A17212) → (IvM I17212 A17212) → (0 ≤ x17210.toInt) → (x17210.toInt ≤ 3) → (3 - x17210.toInt < (n17222 : Int)) → (0 < n17222) → GW κ 2 0 0 (wM r g I17212 A17212 L17212) 224 [(1, .int x17210), (0, .ref (r 0))] [] := by
                      intro n17222
                      induction n17222 with
                      | zero =>
                        intro x17210 I17212 A17212 L17212 hI17212 hA17212 hV17212 h17219 h17220 m17223 m17223z
                        exact absurd m17223z (Nat.lt_irrefl 0)
                      | succ n17222 ih17224 =>
                        intro x17210 I17212 A17212 L17212 hI17212 hA17212 hV17212 h17219 h17220 m17223 m17223z
                        refine g_iload_n hk dX12_read_224 rfl ?_
                        refine g_iconst (v := 3) hk dX12_read_225 (by decide) ?_
                        refine g_icmp_ge (tgt := 242) (a := x17210.toInt) (b := 3) hk dX12_read_226 (by decide) rfl rfl (fun c17225 => ?_) (fun c17225 => ?_)
                        · skip
                          refine g_iconst (v := 0) hk dX12_read_242 (by decide) ?_
                          exact g_iret hk hR rfl ⟨I17212, A17212, L17212, (show Md [1, 2, 3, 4, 6, 7, 8, 9, 10, 11, 12, 13, 14, 15, 16, 17, 22] I I17212 from (Md.tr (Md.up (Md.tr (Md.tr (Md.up (Md.up (Md.up (Md.tr (Md.up (Md.up (Md.up (Md.up (Md.up (Md.up (Md.tr (Md.up (Md.tr (Md.up Md.rf rfl) hI324 rfl) rfl) hI17079 rfl) rfl) rfl) rfl) rfl) rfl) rfl) hI17085 rfl) rfl) rfl) rfl) hI17204 rfl) hI17209 rfl) rfl) hI17212 rfl)), (show Md [1, 2, 3, 4, 8, 9, 10, 11, 12, 13, 14, 15, 16, 17, 18, 27] A A17212 from (Md.tr (Md.tr (Md.tr (Md.tr (Md.up3 (Md.up3 (Md.up3 (Md.up3 (Md.up3 (Md.up3 (Md.tr (Md.tr Md.rf hA324 rfl) hA17079 rfl) rfl) rfl) rfl) rfl) rfl) rfl) hA17085 rfl) hA17204 rfl) hA17209 rfl) hA17212 rfl)), hV17212, 0, (by rw [show I17212 1 = 0 from ((hI17212 1 rfl).trans ((hI17209 1 rfl).trans ((hI17204 1 rfl).trans ((hI17085 1 rfl).trans (hI17079 1 rfl)))))]; omega), (by decide), (by decide), rfl, rfl⟩ dX12_read_243
                        · skip
                          refine g_aload_n hk dX12_read_229 rfl ?_
                          refine gM_r0_53 hk hin12 (List.mem_cons_of_mem _ (List.mem_append_left _ (List.mem_of_getElem? (i := 31) rfl))) dX12_read_230 ?_
                          refine g_iload_n hk dX12_read_233 rfl ?_
                          refine g_iconst (v := 0) hk dX12_read_234 (by decide) ?_
                          refine sM_27 (y := (vp_nar .boolean 0)) (j := x17210.toNatClampNeg) hk (vp_in_iff.mpr ⟨by omega, by omega⟩) rfl rfl dX12_read_235 ?_
                          obtain ⟨y17226, ey17226⟩ : ∃ y : Int32, y = x17210 + Int32.ofInt 1 := ⟨_, rfl⟩
                          have hy17226 : y17226.toInt = x17210.toInt + 1 := i32_add ey17226 rfl (by decide) (by omega) (by omega)
                          refine g_iinc (v := y17226) (lv' := [(1, .int y17226), (0, .ref (r 0))]) hk 0 dX12_read_236 rfl ey17226.symm (by decide) rfl ?_
                          refine g_goto (tgt := 224) hk dX12_read_239 (by decide) ?_
                          exact g_lv (List.forall_mem_cons.mpr ⟨List.mem_of_getElem? (i := 0) rfl, (List.forall_mem_cons.mpr ⟨List.mem_of_getElem? (i := 1) rfl, (fun _ h => absurd h List.not_mem_nil)⟩)⟩) (ih17224 y17226 I17212 (up3 A17212 27 (x17210.toNatClampNeg) (vp_nar .boolean 0)) L17212 (show Md [] (upd I17209 22 0) I17212 from Md.tr hI17212 (show Md [] I17212 I17212 from Md.rf) rfl) (show Md [27] A17209 (up3 A17212 27 (x17210.toNatClampNeg) (vp_nar .boolean 0)) from Md.tr hA17212 (show Md [27] A17212 (up3 A17212 27 (x17210.toNatClampNeg) (vp_nar .boolean 0)) from (Md.up3 Md.rf rfl)) rfl) ⟨(IvM_f1 (I := I17212) (A := A17212) hV17212), (IvM_f2 (I := I17212) (A := A17212) hV17212), (IvM_f3 (I := I17212) (A := A17212) hV17212), (IvM_f4 (I := I17212) (A := A17212) hV17212), (IvM_f6 (I := I17212) (A := A17212) hV17212), (IvM_f8 (I := I17212) (A := A17212) hV17212), (IvM_f15 (I := I17212) (A := A17212) hV17212), (IvM_f16 (I := I17212) (A := A17212) hV17212), (IvM_f17 (I := I17212) (A := A17212) hV17212), (IvM_f18 (I := I17212) (A := A17212) hV17212), (IvM_f22 (I := I17212) (A := A17212) hV17212), (IvM_f23 (I := I17212) (A := A17212) hV17212), (IvM_f24 (I := I17212) (A := A17212) hV17212), (IvM_a11 (I := I17212) (A := A17212) hV17212), (IvM_a26 (I := I17212) (A := A17212) hV17212), (IvM_s8_0 (I := I17212) (A := A17212) hV17212), (IvM_s8_1 (I := I17212) (A := A17212) hV17212), (IvM_s10_0 (I := I17212) (A := A17212) hV17212), (IvM_s10_1 (I := I17212) (A := A17212) hV17212), (IvM_s17_0 (I := I17212) (A := A17212) hV17212), (IvM_s17_164 (I := I17212) (A := A17212) hV17212), (IvM_lv (I := I17212) (A := A17212) hV17212), (IvM_sd (I := I17212) (A := A17212) hV17212), (IvM_nq (I := I17212) (A := A17212) hV17212), (IvM_hr (I := I17212) (A := A17212) hV17212), (hh_off (IvM_hh (I := I17212) (A := A17212) hV17212) (by decide)), trivial⟩ (by omega) (by omega) (by omega) (by omega))
                    obtain ⟨n17227, n17227a, n17227b⟩ : ∃ n : Nat, 3 - (0 : Int32).toInt < (n : Int) ∧ 0 < n := ⟨((3 - (0 : Int32).toInt : Int)).toNat + 1, by omega, by omega⟩
                    exact lp17221 n17227 0 (upd I17209 22 0) A17209 L17209 Md.rf Md.rf ⟨(IvM_f1 (I := I17209) (A := A17209) hV17209), (IvM_f2 (I := I17209) (A := A17209) hV17209), (IvM_f3 (I := I17209) (A := A17209) hV17209), (IvM_f4 (I := I17209) (A := A17209) hV17209), (IvM_f6 (I := I17209) (A := A17209) hV17209), (IvM_f8 (I := I17209) (A := A17209) hV17209), (IvM_f15 (I := I17209) (A := A17209) hV17209), (IvM_f16 (I := I17209) (A := A17209) hV17209), (IvM_f17 (I := I17209) (A := A17209) hV17209), (IvM_f18 (I := I17209) (A := A17209) hV17209), (show 0 ≤ (0 : Int32).toInt ∧ (0 : Int32).toInt ≤ 40 from ⟨by decide, by decide⟩), (IvM_f23 (I := I17209) (A := A17209) hV17209), (IvM_f24 (I := I17209) (A := A17209) hV17209), (IvM_a11 (I := I17209) (A := A17209) hV17209), (IvM_a26 (I := I17209) (A := A17209) hV17209), (IvM_s8_0 (I := I17209) (A := A17209) hV17209), (IvM_s8_1 (I := I17209) (A := A17209) hV17209), (IvM_s10_0 (I := I17209) (A := A17209) hV17209), (IvM_s10_1 (I := I17209) (A := A17209) hV17209), (IvM_s17_0 (I := I17209) (A := A17209) hV17209), (IvM_s17_164 (I := I17209) (A := A17209) hV17209), (IvM_lv (I := I17209) (A := A17209) hV17209), (IvM_sd (I := I17209) (A := A17209) hV17209), (IvM_nq (I := I17209) (A := A17209) hV17209), (fun j hj => absurd (show (j : Int) < (0 : Int32).toInt from hj) (by have : (0 : Int32).toInt = 0 := rfl; omega)), (IvM_hh (I := I17209) (A := A17209) hV17209), trivial⟩ (by omega) (by omega) n17227a n17227b
                  · skip
                    refine g_aload_n hk dX12_read_133 rfl ?_
                    refine gM_i9 (v := (I17085 9)) hk hin12 (List.mem_cons_of_mem _ (List.mem_append_left _ (List.mem_of_getElem? (i := 34) rfl))) dX12_read_134 rfl ?_
                    refine g_goto (tgt := 141) hk dX12_read_137 (by decide) ?_
                    refine pM_i10 hk hin12 (List.mem_cons_of_mem _ (List.mem_append_left _ (List.mem_of_getElem? (i := 22) rfl))) dX12_read_141 ?_
                    refine g_aload_n hk dX12_read_144 rfl ?_
                    refine g_aload_n hk dX12_read_145 rfl ?_
                    refine gM_i6 (v := (I17085 6)) hk hin12 (List.mem_cons_of_mem _ (List.mem_append_left _ (List.mem_of_getElem? (i := 7) rfl))) dX12_read_146 rfl ?_
                    refine g_if_le (tgt := 159) (a := (I17085 6).toInt) hk dX12_read_149 (by decide) rfl (fun _ => ?_) (fun z9 => absurd (show (I17085 6).toInt ≤ 0 from by omega) z9)
                    refine g_aload_n hk dX12_read_159 rfl ?_
                    refine gM_i8 (v := (I17085 8)) hk hin12 (List.mem_cons_of_mem _ (List.mem_append_left _ (List.mem_of_getElem? (i := 8) rfl))) dX12_read_160 rfl ?_
                    refine g_if_le (tgt := 173) (a := (I17085 8).toInt) hk dX12_read_163 (by decide) rfl (fun z9 => absurd z9 (show ¬ ((I17085 8).toInt ≤ 0) from by omega)) (fun _ => ?_)
                    refine g_aload_n hk dX12_read_166 rfl ?_
                    refine gM_i13 (v := (I17085 13)) hk hin12 (List.mem_cons_of_mem _ (List.mem_append_left _ (List.mem_of_getElem? (i := 35) rfl))) dX12_read_167 rfl ?_
                    refine g_goto (tgt := 174) hk dX12_read_170 (by decide) ?_
                    refine pM_i14 hk hin12 (List.mem_cons_of_mem _ (List.mem_append_left _ (List.mem_of_getElem? (i := 23) rfl))) dX12_read_174 ?_
                    refine g_aload_n hk dX12_read_177 rfl ?_
                    refine gM_i6 (v := (I17085 6)) hk hin12 (List.mem_cons_of_mem _ (List.mem_append_left _ (List.mem_of_getElem? (i := 7) rfl))) dX12_read_178 rfl ?_
                    refine g_if_le (tgt := 189) (a := (I17085 6).toInt) hk dX12_read_181 (by decide) rfl (fun _ => ?_) (fun z9 => absurd (show (I17085 6).toInt ≤ 0 from by omega) z9)
                    refine g_aload_n hk dX12_read_189 rfl ?_
                    refine gM_i8 (v := (I17085 8)) hk hin12 (List.mem_cons_of_mem _ (List.mem_append_left _ (List.mem_of_getElem? (i := 8) rfl))) dX12_read_190 rfl ?_
                    refine g_if_le (tgt := 201) (a := (I17085 8).toInt) hk dX12_read_193 (by decide) rfl (fun z9 => absurd z9 (show ¬ ((I17085 8).toInt ≤ 0) from by omega)) (fun _ => ?_)
                    refine g_aload_n hk dX12_read_196 rfl ?_
                    refine gM_i8 (v := (I17085 8)) hk hin12 (List.mem_cons_of_mem _ (List.mem_append_left _ (List.mem_of_getElem? (i := 8) rfl))) dX12_read_197 rfl ?_
                    exact g_iret hk hR rfl ⟨(upd (upd I17085 10 (I17085 9)) 14 (I17085 13)), A17085, L17085, (show Md [1, 2, 3, 4, 6, 7, 8, 9, 10, 11, 12, 13, 14, 15, 16, 17, 22] I (upd (upd I17085 10 (I17085 9)) 14 (I17085 13)) from (Md.up (Md.up (Md.tr (Md.up (Md.up (Md.up (Md.up (Md.up (Md.up (Md.tr (Md.up (Md.tr (Md.up Md.rf rfl) hI324 rfl) rfl) hI17079 rfl) rfl) rfl) rfl) rfl) rfl) rfl) hI17085 rfl) rfl) rfl)), (show Md [1, 2, 3, 4, 8, 9, 10, 11, 12, 13, 14, 15, 16, 17, 18, 27] A A17085 from (Md.tr (Md.up3 (Md.up3 (Md.up3 (Md.up3 (Md.up3 (Md.up3 (Md.tr (Md.tr Md.rf hA324 rfl) hA17079 rfl) rfl) rfl) rfl) rfl) rfl) rfl) hA17085 rfl)), ⟨(IvM_f1 (I := I17085) (A := A17085) hV17085), (IvM_f2 (I := I17085) (A := A17085) hV17085), (IvM_f3 (I := I17085) (A := A17085) hV17085), (IvM_f4 (I := I17085) (A := A17085) hV17085), (IvM_f6 (I := I17085) (A := A17085) hV17085), (IvM_f8 (I := I17085) (A := A17085) hV17085), (IvM_f15 (I := I17085) (A := A17085) hV17085), (IvM_f16 (I := I17085) (A := A17085) hV17085), (IvM_f17 (I := I17085) (A := A17085) hV17085), (IvM_f18 (I := I17085) (A := A17085) hV17085), (IvM_f22 (I := I17085) (A := A17085) hV17085), (IvM_f23 (I := I17085) (A := A17085) hV17085), (IvM_f24 (I := I17085) (A := A17085) hV17085), (IvM_a11 (I := I17085) (A := A17085) hV17085), (IvM_a26 (I := I17085) (A := A17085) hV17085), (IvM_s8_0 (I := I17085) (A := A17085) hV17085), (IvM_s8_1 (I := I17085) (A := A17085) hV17085), (IvM_s10_0 (I := I17085) (A := A17085) hV17085), (IvM_s10_1 (I := I17085) (A := A17085) hV17085), (IvM_s17_0 (I := I17085) (A := A17085) hV17085), (IvM_s17_164 (I := I17085) (A := A17085) hV17085), (IvM_lv (I := I17085) (A := A17085) hV17085), (IvM_sd (I := I17085) (A := A17085) hV17085), (IvM_nq (I := I17085) (A := A17085) hV17085), (IvM_hr (I := I17085) (A := A17085) hV17085), (IvM_hh (I := I17085) (A := A17085) hV17085), trivial⟩, (I17085 8), (by rw [show (upd (upd I17085 10 (I17085 9)) 14 (I17085 13)) 1 = 0 from ((hI17085 1 rfl).trans (hI17079 1 rfl))]; omega), (by omega), (by omega), rfl, rfl⟩ dX12_read_200
          have k17228 : (0 : Int32).toInt = 0 := rfl
          obtain ⟨n17229, n17229a, n17229b⟩ : ∃ n : Nat, 10 * (401 - (0 : Int32).toInt) + (10 - (0 : Int32).toInt) < (n : Int) ∧ 0 < n := ⟨((10 * (401 - (0 : Int32).toInt) + (10 - (0 : Int32).toInt) : Int)).toNat + 1, by omega, by omega⟩
          have g17230 : (I17079 15).toInt = (I 15).toInt := by rw [show (I17079 15) = (I 15) from ((hI17079 15 rfl).trans (hI324 15 rfl))]
          have g17231 : (I17079 16).toInt = (I 16).toInt := by rw [show (I17079 16) = (I 16) from ((hI17079 16 rfl).trans (hI324 16 rfl))]
          have g17232 := IvM_s10_0 (I := I17079) (A := A17079) hV17079
          have g17233 := IvM_s10_1 (I := I17079) (A := A17079) hV17079
          exact lp17177 n17229 (upd (upd (upd (upd (upd (upd I17079 4 0) 6 0) 8 0) 11 (-2)) 16 1) 17 0) (up3 (up3 (up3 (up3 (up3 (up3 A17079 8 1 0) 10 1 0) 13 1 2) 14 1 0) 15 1 0) 16 1 8) L17079 Md.rf Md.rf ⟨(IvM_f1 (I := I17079) (A := A17079) hV17079), (IvM_f2 (I := I17079) (A := A17079) hV17079), (IvM_f3 (I := I17079) (A := A17079) hV17079), (show 0 ≤ (0 : Int32).toInt ∧ (0 : Int32).toInt ≤ 400 from ⟨by decide, by decide⟩), (show 0 ≤ (0 : Int32).toInt ∧ (0 : Int32).toInt ≤ 9 from ⟨by decide, by decide⟩), (show 0 ≤ (0 : Int32).toInt ∧ (0 : Int32).toInt ≤ 9 from ⟨by decide, by decide⟩), (IvM_f15 (I := I17079) (A := A17079) hV17079), (show 0 ≤ (1 : Int32).toInt ∧ (1 : Int32).toInt ≤ 1 from ⟨by decide, by decide⟩), (show 0 ≤ (0 : Int32).toInt ∧ (0 : Int32).toInt ≤ 5 from ⟨by decide, by decide⟩), (IvM_f18 (I := I17079) (A := A17079) hV17079), (IvM_f22 (I := I17079) (A := A17079) hV17079), (IvM_f23 (I := I17079) (A := A17079) hV17079), (IvM_f24 (I := I17079) (A := A17079) hV17079), (IvM_a11 (I := I17079) (A := A17079) hV17079), (IvM_a26 (I := I17079) (A := A17079) hV17079), (show 0 ≤ ((up3 (up3 (up3 (up3 (up3 (up3 A17079 8 1 0) 10 1 0) 13 1 2) 14 1 0) 15 1 0) 16 1 8) 8 0).toInt ∧ ((up3 (up3 (up3 (up3 (up3 (up3 A17079 8 1 0) 10 1 0) 13 1 2) 14 1 0) 15 1 0) 16 1 8) 8 0).toInt ≤ 160 from by rw [show (up3 (up3 (up3 (up3 (up3 (up3 A17079 8 1 0) 10 1 0) 13 1 2) 14 1 0) 15 1 0) 16 1 8) 8 0 = (A17079 8 0) from rfl]; exact (IvM_s8_0 (I := I17079) (A := A17079) hV17079)), (show 0 ≤ ((up3 (up3 (up3 (up3 (up3 (up3 A17079 8 1 0) 10 1 0) 13 1 2) 14 1 0) 15 1 0) 16 1 8) 8 1).toInt ∧ ((up3 (up3 (up3 (up3 (up3 (up3 A17079 8 1 0) 10 1 0) 13 1 2) 14 1 0) 15 1 0) 16 1 8) 8 1).toInt ≤ 160 from by rw [show (up3 (up3 (up3 (up3 (up3 (up3 A17079 8 1 0) 10 1 0) 13 1 2) 14 1 0) 15 1 0) 16 1 8) 8 1 = 0 from rfl]; exact ⟨by decide, by decide⟩), (show 0 ≤ ((up3 (up3 (up3 (up3 (up3 (up3 A17079 8 1 0) 10 1 0) 13 1 2) 14 1 0) 15 1 0) 16 1 8) 10 0).toInt ∧ ((up3 (up3 (up3 (up3 (up3 (up3 A17079 8 1 0) 10 1 0) 13 1 2) 14 1 0) 15 1 0) 16 1 8) 10 0).toInt ≤ 5 from by rw [show (up3 (up3 (up3 (up3 (up3 (up3 A17079 8 1 0) 10 1 0) 13 1 2) 14 1 0) 15 1 0) 16 1 8) 10 0 = (A17079 10 0) from rfl]; exact (IvM_s10_0 (I := I17079) (A := A17079) hV17079)), (show 0 ≤ ((up3 (up3 (up3 (up3 (up3 (up3 A17079 8 1 0) 10 1 0) 13 1 2) 14 1 0) 15 1 0) 16 1 8) 10 1).toInt ∧ ((up3 (up3 (up3 (up3 (up3 (up3 A17079 8 1 0) 10 1 0) 13 1 2) 14 1 0) 15 1 0) 16 1 8) 10 1).toInt ≤ 5 from by rw [show (up3 (up3 (up3 (up3 (up3 (up3 A17079 8 1 0) 10 1 0) 13 1 2) 14 1 0) 15 1 0) 16 1 8) 10 1 = 0 from rfl]; exact ⟨by decide, by decide⟩), (IvM_s17_0 (I := I17079) (A := A17079) hV17079), (IvM_s17_164 (I := I17079) (A := A17079) hV17079), ⟨fun e => by have e : (I17079 15).toInt = 0 := e; first | exact (IvM_lv (I := I17079) (A := A17079) hV17079).1 e | (exfalso; omega), fun e => by have e : (I17079 15).toInt = 1 := e; first | exact (IvM_lv (I := I17079) (A := A17079) hV17079).2 e | (exfalso; omega)⟩, (Or.inr (Or.inr ⟨fun e => absurd (show (1 : Int32).toInt = 0 from e) (by decide), fun e => ghf_0 (show 1 ≤ (8 : Int32).toInt from by decide) (show (0 : Int32).toInt = 0 from rfl)⟩)), ⟨fun e => absurd (show (1 : Int32).toInt = 0 from e) (by decide), fun e => (show (0 : Int32).toInt = (0 : Int32).toInt from rfl)⟩, (IvM_hr (I := I17079) (A := A17079) hV17079), (IvM_hh (I := I17079) (A := A17079) hV17079), trivial⟩ (by first | exact n17229a | (rw [show ((upd (upd (upd (upd (upd (upd I17079 4 0) 6 0) 8 0) 11 (-2)) 16 1) 17 0) 4) = (0 : Int32) from rfl, show ((upd (upd (upd (upd (upd (upd I17079 4 0) 6 0) 8 0) 11 (-2)) 16 1) 17 0) 6) = (0 : Int32) from rfl] <;> exact n17229a)) n17229b
        by_cases c17234 : (I 15).toInt = 1
        · have ec17234 : (I 15) = 1 := Int32.toInt_inj.mp c17234
          rw [ec17234]
          show GW κ 2 0 0 (wM r g (upd (upd (upd (upd I17079 4 0) 6 0) 8 0) 11 (-2)) A17079 L17079) 72 [(1, .int x322), (0, .ref (r 0))] [.int 1, .int 1, .ref (r 0)]
          refine g_isub hk dX12_read_72 ?_
          refine g_norm (v := 0) (by decide) ?_
          refine pM_i16 hk hin12 (List.mem_cons_of_mem _ (List.mem_append_left _ (List.mem_of_getElem? (i := 11) rfl))) dX12_read_73 ?_
          refine g_aload_n hk dX12_read_76 rfl ?_
          refine g_iconst (v := 0) hk dX12_read_77 (by decide) ?_
          refine pM_i17 hk hin12 (List.mem_cons_of_mem _ (List.mem_append_left _ (List.mem_of_getElem? (i := 12) rfl))) dX12_read_78 ?_
          refine g_aload_n hk dX12_read_81 rfl ?_
          refine g_aload_n hk dX12_read_82 rfl ?_
          refine gM_i16 (v := 0) hk hin12 (List.mem_cons_of_mem _ (List.mem_append_left _ (List.mem_of_getElem? (i := 11) rfl))) dX12_read_83 rfl ?_
          have k17235 : (0 : Int32).toInt = 0 := rfl
          refine g_callV (n := 1) hk (j124_X12_plain l D zt r g (upd (upd (upd (upd (upd (upd I17079 4 0) 6 0) 8 0) 11 (-2)) 16 0) 17 0) A17079 L17079 0  (by decide) (by decide)) (SP.same _) (fun _ h => h) (gi_V (List.mem_cons_of_mem _ (List.mem_append_left _ (List.mem_of_getElem? (i := 13) rfl))) (List.mem_cons_of_mem _ (List.mem_append_left _ (List.mem_of_getElem? (i := 14) rfl))) (List.mem_cons_of_mem _ (List.mem_append_left _ (List.mem_of_getElem? (i := 15) rfl))) (List.mem_cons_of_mem _ (List.mem_append_left _ (List.mem_of_getElem? (i := 5) rfl))) (gi_sub (fun w h => (List.mem_cons_of_mem _ (List.mem_append_right _ (List.mem_append_right _ (List.mem_append_right _ (List.mem_append_left _ h)))))) zg_j124_X12_plain)) rfl rfl rfl (by decide +kernel) ⟨Nat.le_of_ble_eq_true rfl, Nat.le_of_ble_eq_true rfl⟩ 0 rfl rfl rfl rfl (Nat.le_of_ble_eq_true rfl) ⟨Nat.le_of_ble_eq_true rfl, Nat.le_of_ble_eq_true rfl⟩ dX12_read_86 (fun v ty' w' hp hk' => ?_)
          obtain ⟨rfl, rfl⟩ := hp
          show GW κ 2 0 0 (wM r g (upd (upd (upd (upd (upd (upd I17079 4 0) 6 0) 8 0) 11 (-2)) 16 0) 17 0) (up3 (up3 (up3 (up3 (up3 (up3 A17079 8 0 0) 10 0 0) 13 0 2) 14 0 0) 15 0 0) 16 0 8) L17079) 89 [(1, .int x322), (0, .ref (r 0))] []
          have lp17328 : ∀ (n17329 : Nat) (I17238 : Nat → Int32) (A17238 : Nat → Nat → Int32) (L17238 : Nat → Nat → Int64), (Md [4, 6, 7, 8, 9, 11, 12, 13, 17] (upd (upd (upd (upd (upd (upd I17079 4 0) 6 0) 8 0) 11 (-2)) 16 0) 17 0) I17238) → (Md [8, 9, 10, 11, 12, 13, 14, 15, 16] (up3 (up3 (up3 (up3 (up3 (up3 A17079 8 0 0) 10 0 0) 13 0 2) 14 0 0) 15 0 0) 16 0 8) A17238) → (IvM I17238 A17238) → (10 * (401 - (I17238 4).toInt) + (10 - (I17238 6).toInt) < (n17329 : Int)) → (0 < n17329) → GW κ 2 0 0 (wM r g I17238 A17238 L17238) 89 [(1, .int x322), (0, .ref (r 0))] [] := by
            intro n17329
            induction n17329 with
            | zero =>
              intro I17238 A17238 L17238 hI17238 hA17238 hV17238 m17330 m17330z
              exact absurd m17330z (Nat.lt_irrefl 0)
            | succ n17329 ih17331 =>
              intro I17238 A17238 L17238 hI17238 hA17238 hV17238 m17330 m17330z
              have f17332 := IvM_f4 hV17238
              have f17333 := IvM_f6 hV17238
              refine g_aload_n hk dX12_read_89 rfl ?_
              refine gM_i6 (v := (I17238 6)) hk hin12 (List.mem_cons_of_mem _ (List.mem_append_left _ (List.mem_of_getElem? (i := 7) rfl))) dX12_read_90 rfl ?_
              refine g_if_ne (tgt := 111) (a := (I17238 6).toInt) hk dX12_read_93 (by decide) rfl (fun c17334 => ?_) (fun c17334 => ?_)
              · skip
                refine g_aload_n hk dX12_read_111 rfl ?_
                refine g_aload_n hk dX12_read_112 rfl ?_
                refine gM_i6 (v := (I17238 6)) hk hin12 (List.mem_cons_of_mem _ (List.mem_append_left _ (List.mem_of_getElem? (i := 7) rfl))) dX12_read_113 rfl ?_
                refine g_if_le (tgt := 126) (a := (I17238 6).toInt) hk dX12_read_116 (by decide) rfl (fun z9 => absurd z9 (show ¬ ((I17238 6).toInt ≤ 0) from by omega)) (fun _ => ?_)
                refine g_aload_n hk dX12_read_119 rfl ?_
                refine gM_i7 (v := (I17238 7)) hk hin12 (List.mem_cons_of_mem _ (List.mem_append_left _ (List.mem_of_getElem? (i := 32) rfl))) dX12_read_120 rfl ?_
                refine g_goto (tgt := 141) hk dX12_read_123 (by decide) ?_
                refine pM_i10 hk hin12 (List.mem_cons_of_mem _ (List.mem_append_left _ (List.mem_of_getElem? (i := 22) rfl))) dX12_read_141 ?_
                refine g_aload_n hk dX12_read_144 rfl ?_
                refine g_aload_n hk dX12_read_145 rfl ?_
                refine gM_i6 (v := (I17238 6)) hk hin12 (List.mem_cons_of_mem _ (List.mem_append_left _ (List.mem_of_getElem? (i := 7) rfl))) dX12_read_146 rfl ?_
                refine g_if_le (tgt := 159) (a := (I17238 6).toInt) hk dX12_read_149 (by decide) rfl (fun z9 => absurd z9 (show ¬ ((I17238 6).toInt ≤ 0) from by omega)) (fun _ => ?_)
                refine g_aload_n hk dX12_read_152 rfl ?_
                refine gM_i12 (v := (I17238 12)) hk hin12 (List.mem_cons_of_mem _ (List.mem_append_left _ (List.mem_of_getElem? (i := 33) rfl))) dX12_read_153 rfl ?_
                refine g_goto (tgt := 174) hk dX12_read_156 (by decide) ?_
                refine pM_i14 hk hin12 (List.mem_cons_of_mem _ (List.mem_append_left _ (List.mem_of_getElem? (i := 23) rfl))) dX12_read_174 ?_
                refine g_aload_n hk dX12_read_177 rfl ?_
                refine gM_i6 (v := (I17238 6)) hk hin12 (List.mem_cons_of_mem _ (List.mem_append_left _ (List.mem_of_getElem? (i := 7) rfl))) dX12_read_178 rfl ?_
                refine g_if_le (tgt := 189) (a := (I17238 6).toInt) hk dX12_read_181 (by decide) rfl (fun z9 => absurd z9 (show ¬ ((I17238 6).toInt ≤ 0) from by omega)) (fun _ => ?_)
                refine g_aload_n hk dX12_read_184 rfl ?_
                refine gM_i6 (v := (I17238 6)) hk hin12 (List.mem_cons_of_mem _ (List.mem_append_left _ (List.mem_of_getElem? (i := 7) rfl))) dX12_read_185 rfl ?_
                exact g_iret hk hR rfl ⟨(upd (upd I17238 10 (I17238 7)) 14 (I17238 12)), A17238, L17238, (show Md [1, 2, 3, 4, 6, 7, 8, 9, 10, 11, 12, 13, 14, 15, 16, 17, 22] I (upd (upd I17238 10 (I17238 7)) 14 (I17238 12)) from (Md.up (Md.up (Md.tr (Md.up (Md.up (Md.up (Md.up (Md.up (Md.up (Md.tr (Md.up (Md.tr (Md.up Md.rf rfl) hI324 rfl) rfl) hI17079 rfl) rfl) rfl) rfl) rfl) rfl) rfl) hI17238 rfl) rfl) rfl)), (show Md [1, 2, 3, 4, 8, 9, 10, 11, 12, 13, 14, 15, 16, 17, 18, 27] A A17238 from (Md.tr (Md.up3 (Md.up3 (Md.up3 (Md.up3 (Md.up3 (Md.up3 (Md.tr (Md.tr Md.rf hA324 rfl) hA17079 rfl) rfl) rfl) rfl) rfl) rfl) rfl) hA17238 rfl)), ⟨(IvM_f1 (I := I17238) (A := A17238) hV17238), (IvM_f2 (I := I17238) (A := A17238) hV17238), (IvM_f3 (I := I17238) (A := A17238) hV17238), (IvM_f4 (I := I17238) (A := A17238) hV17238), (IvM_f6 (I := I17238) (A := A17238) hV17238), (IvM_f8 (I := I17238) (A := A17238) hV17238), (IvM_f15 (I := I17238) (A := A17238) hV17238), (IvM_f16 (I := I17238) (A := A17238) hV17238), (IvM_f17 (I := I17238) (A := A17238) hV17238), (IvM_f18 (I := I17238) (A := A17238) hV17238), (IvM_f22 (I := I17238) (A := A17238) hV17238), (IvM_f23 (I := I17238) (A := A17238) hV17238), (IvM_f24 (I := I17238) (A := A17238) hV17238), (IvM_a11 (I := I17238) (A := A17238) hV17238), (IvM_a26 (I := I17238) (A := A17238) hV17238), (IvM_s8_0 (I := I17238) (A := A17238) hV17238), (IvM_s8_1 (I := I17238) (A := A17238) hV17238), (IvM_s10_0 (I := I17238) (A := A17238) hV17238), (IvM_s10_1 (I := I17238) (A := A17238) hV17238), (IvM_s17_0 (I := I17238) (A := A17238) hV17238), (IvM_s17_164 (I := I17238) (A := A17238) hV17238), (IvM_lv (I := I17238) (A := A17238) hV17238), (IvM_sd (I := I17238) (A := A17238) hV17238), (IvM_nq (I := I17238) (A := A17238) hV17238), (IvM_hr (I := I17238) (A := A17238) hV17238), (IvM_hh (I := I17238) (A := A17238) hV17238), trivial⟩, (I17238 6), (by rw [show (upd (upd I17238 10 (I17238 7)) 14 (I17238 12)) 1 = 0 from ((hI17238 1 rfl).trans (hI17079 1 rfl))]; omega), (by omega), (by omega), rfl, rfl⟩ dX12_read_188
              · skip
                refine g_aload_n hk dX12_read_96 rfl ?_
                refine g_iconst (v := 0) hk dX12_read_97 (by decide) ?_
                refine g_callV (n := 1) hk (j125_X12_is l D zt r g I17238 A17238 L17238 0 hV17238) (SP.same _) (fun _ h => h) (gi_V (List.mem_cons_of_mem _ (List.mem_append_left _ (List.mem_of_getElem? (i := 16) rfl))) (List.mem_cons_of_mem _ (List.mem_append_left _ (List.mem_of_getElem? (i := 17) rfl))) (List.mem_cons_of_mem _ (List.mem_append_left _ (List.mem_of_getElem? (i := 18) rfl))) (List.mem_cons_of_mem _ (List.mem_append_left _ (List.mem_of_getElem? (i := 5) rfl))) (gi_sub (fun w h => (List.mem_cons_of_mem _ (List.mem_append_right _ (List.mem_append_right _ (List.mem_append_right _ (List.mem_append_right _ (List.mem_append_left _ h))))))) zg_j125_X12_is)) rfl rfl rfl (by decide +kernel) ⟨Nat.le_of_ble_eq_true rfl, Nat.le_of_ble_eq_true rfl⟩ 0 rfl rfl rfl rfl (Nat.le_of_ble_eq_true rfl) ⟨Nat.le_of_ble_eq_true rfl, Nat.le_of_ble_eq_true rfl⟩ dX12_read_98 (fun v ty' w' hp hk' => ?_)
                rcases hp with ⟨c17335, rfl, rfl⟩ | ⟨c17337, rfl, rfl⟩
                · skip
                  rw [show (A17238 2 (I17238 4).toNatClampNeg) = (A17079 2 (I17238 4).toNatClampNeg) from (congrFun (hA17238 2 rfl) _)] at c17335
                  show GW κ 2 0 0 (wM r g I17238 A17238 L17238) 101 [(1, .int x322), (0, .ref (r 0))] [.int 0]
                  refine g_if_ne (tgt := 111) (a := 0) hk dX12_read_101 (by decide) rfl (fun z9 => absurd z9 (show ¬ ((0 : Int) ≠ (0 : Int)) from by decide)) (fun _ => ?_)
                  refine g_aload_n hk dX12_read_104 rfl ?_
                  refine g_callV (n := 0) hk (j126_X12_tellOne l D zt r g I17238 A17238 L17238  hV17238 (by first | (rw [show (I17238 15) = (I 15) from ((hI17238 15 rfl).trans ((hI17079 15 rfl).trans (hI324 15 rfl))), show (I17238 16) = (0 : Int32) from (hI17238 16 rfl)] <;> omega) | omega)) (SP.same _) (fun _ h => h) (gi_V (List.mem_cons_of_mem _ (List.mem_append_left _ (List.mem_of_getElem? (i := 19) rfl))) (List.mem_cons_of_mem _ (List.mem_append_left _ (List.mem_of_getElem? (i := 20) rfl))) (List.mem_cons_of_mem _ (List.mem_append_left _ (List.mem_of_getElem? (i := 21) rfl))) (List.mem_cons_of_mem _ (List.mem_append_left _ (List.mem_of_getElem? (i := 5) rfl))) (gi_sub (fun w h => (List.mem_cons_of_mem _ (List.mem_append_right _ (List.mem_append_right _ (List.mem_append_right _ (List.mem_append_right _ (List.mem_append_right _ (List.mem_append_left _ h)))))))) zg_j126_X12_tellOne)) rfl rfl rfl (by decide +kernel) ⟨Nat.le_of_ble_eq_true rfl, Nat.le_of_ble_eq_true rfl⟩ 0 rfl rfl rfl rfl (Nat.le_of_ble_eq_true rfl) ⟨Nat.le_of_ble_eq_true rfl, Nat.le_of_ble_eq_true rfl⟩ dX12_read_105 (fun v ty' w' hp hk' => ?_)
                  obtain ⟨I17340, A17340, L17340, hI17340, hA17340, hV17340, r17341, r17342, r17343, r17344, rfl, rfl⟩ := hp
                  have f17345 := IvM_f4 hV17340
                  have f17346 := IvM_f6 hV17340
                  have f17347 := IvM_f8 hV17238
                  have f17348 := IvM_f8 hV17340
                  show GW κ 2 0 0 (wM r g I17340 A17340 L17340) 108 [(1, .int x322), (0, .ref (r 0))] []
                  refine g_goto (tgt := 89) hk dX12_read_108 (by decide) ?_
                  exact g_lv (List.forall_mem_cons.mpr ⟨List.mem_of_getElem? (i := 0) rfl, (List.forall_mem_cons.mpr ⟨List.mem_of_getElem? (i := 1) rfl, (fun _ h => absurd h List.not_mem_nil)⟩)⟩) (ih17331 I17340 A17340 L17340 (show Md [4, 6, 7, 8, 9, 11, 12, 13, 17] (upd (upd (upd (upd (upd (upd I17079 4 0) 6 0) 8 0) 11 (-2)) 16 0) 17 0) I17340 from Md.tr hI17238 (show Md [4, 6, 7, 8, 9, 11, 12, 13, 17] I17238 I17340 from (Md.tr Md.rf hI17340 rfl)) rfl) (show Md [8, 9, 10, 11, 12, 13, 14, 15, 16] (up3 (up3 (up3 (up3 (up3 (up3 A17079 8 0 0) 10 0 0) 13 0 2) 14 0 0) 15 0 0) 16 0 8) A17340 from Md.tr hA17238 (show Md [8, 9, 10, 11, 12, 13, 14, 15, 16] A17238 A17340 from (Md.tr Md.rf hA17340 rfl)) rfl) hV17340 (by omega) (by omega))
                · skip
                  rw [show (A17238 2 (I17238 4).toNatClampNeg) = (A17079 2 (I17238 4).toNatClampNeg) from (congrFun (hA17238 2 rfl) _)] at c17337
                  show GW κ 2 0 0 (wM r g I17238 A17238 L17238) 101 [(1, .int x322), (0, .ref (r 0))] [.int 1]
                  refine g_if_ne (tgt := 111) (a := 1) hk dX12_read_101 (by decide) rfl (fun _ => ?_) (fun z9 => absurd (show (1 : Int) ≠ (0 : Int) from by decide) z9)
                  refine g_aload_n hk dX12_read_111 rfl ?_
                  refine g_aload_n hk dX12_read_112 rfl ?_
                  refine gM_i6 (v := (I17238 6)) hk hin12 (List.mem_cons_of_mem _ (List.mem_append_left _ (List.mem_of_getElem? (i := 7) rfl))) dX12_read_113 rfl ?_
                  refine g_if_le (tgt := 126) (a := (I17238 6).toInt) hk dX12_read_116 (by decide) rfl (fun _ => ?_) (fun z9 => absurd (show (I17238 6).toInt ≤ 0 from by omega) z9)
                  refine g_aload_n hk dX12_read_126 rfl ?_
                  refine gM_i8 (v := (I17238 8)) hk hin12 (List.mem_cons_of_mem _ (List.mem_append_left _ (List.mem_of_getElem? (i := 8) rfl))) dX12_read_127 rfl ?_
                  have f17349 := IvM_f8 hV17238
                  refine g_if_le (tgt := 140) (a := (I17238 8).toInt) hk dX12_read_130 (by decide) rfl (fun c17350 => ?_) (fun c17350 => ?_)
                  · skip
                    refine g_iconst (v := (-1)) hk dX12_read_140 (by decide) ?_
                    refine pM_i10 hk hin12 (List.mem_cons_of_mem _ (List.mem_append_left _ (List.mem_of_getElem? (i := 22) rfl))) dX12_read_141 ?_
                    refine g_aload_n hk dX12_read_144 rfl ?_
                    refine g_aload_n hk dX12_read_145 rfl ?_
                    refine gM_i6 (v := (I17238 6)) hk hin12 (List.mem_cons_of_mem _ (List.mem_append_left _ (List.mem_of_getElem? (i := 7) rfl))) dX12_read_146 rfl ?_
                    refine g_if_le (tgt := 159) (a := (I17238 6).toInt) hk dX12_read_149 (by decide) rfl (fun _ => ?_) (fun z9 => absurd (show (I17238 6).toInt ≤ 0 from by omega) z9)
                    refine g_aload_n hk dX12_read_159 rfl ?_
                    refine gM_i8 (v := (I17238 8)) hk hin12 (List.mem_cons_of_mem _ (List.mem_append_left _ (List.mem_of_getElem? (i := 8) rfl))) dX12_read_160 rfl ?_
                    refine g_if_le (tgt := 173) (a := (I17238 8).toInt) hk dX12_read_163 (by decide) rfl (fun _ => ?_) (fun z9 => absurd (show (I17238 8).toInt ≤ 0 from by omega) z9)
                    refine g_iconst (v := (-1)) hk dX12_read_173 (by decide) ?_
                    refine pM_i14 hk hin12 (List.mem_cons_of_mem _ (List.mem_append_left _ (List.mem_of_getElem? (i := 23) rfl))) dX12_read_174 ?_
                    refine g_aload_n hk dX12_read_177 rfl ?_
                    refine gM_i6 (v := (I17238 6)) hk hin12 (List.mem_cons_of_mem _ (List.mem_append_left _ (List.mem_of_getElem? (i := 7) rfl))) dX12_read_178 rfl ?_
                    refine g_if_le (tgt := 189) (a := (I17238 6).toInt) hk dX12_read_181 (by decide) rfl (fun _ => ?_) (fun z9 => absurd (show (I17238 6).toInt ≤ 0 from by omega) z9)
                    refine g_aload_n hk dX12_read_189 rfl ?_
                    refine gM_i8 (v := (I17238 8)) hk hin12 (List.mem_cons_of_mem _ (List.mem_append_left _ (List.mem_of_getElem? (i := 8) rfl))) dX12_read_190 rfl ?_
                    refine g_if_le (tgt := 201) (a := (I17238 8).toInt) hk dX12_read_193 (by decide) rfl (fun _ => ?_) (fun z9 => absurd (show (I17238 8).toInt ≤ 0 from by omega) z9)
                    refine g_aload_n hk dX12_read_201 rfl ?_
                    refine g_aload_n hk dX12_read_202 rfl ?_
                    refine gM_i16 (v := 0) hk hin12 (List.mem_cons_of_mem _ (List.mem_append_left _ (List.mem_of_getElem? (i := 11) rfl))) dX12_read_203 (hI17238 16 rfl) ?_
                    refine pM_i15 hk hin12 (List.mem_cons_of_mem _ (List.mem_append_left _ (List.mem_of_getElem? (i := 10) rfl))) dX12_read_206 ?_
                    refine g_aload_n hk dX12_read_209 rfl ?_
                    have g17351 : (I17238 16).toInt = (0 : Int32).toInt := by rw [show (I17238 16) = 0 from (hI17238 16 rfl)]
                    refine g_callV (n := 0) hk (j138_X12_begins l D zt r g (upd (upd (upd I17238 10 (-1)) 14 (-1)) 15 0) A17238 L17238  ⟨(IvM_f1 (I := I17238) (A := A17238) hV17238), (IvM_f2 (I := I17238) (A := A17238) hV17238), (IvM_f3 (I := I17238) (A := A17238) hV17238), (IvM_f4 (I := I17238) (A := A17238) hV17238), (IvM_f6 (I := I17238) (A := A17238) hV17238), (IvM_f8 (I := I17238) (A := A17238) hV17238), (show 0 ≤ (0 : Int32).toInt ∧ (0 : Int32).toInt ≤ 1 from ⟨by decide, by decide⟩), (IvM_f16 (I := I17238) (A := A17238) hV17238), (IvM_f17 (I := I17238) (A := A17238) hV17238), (IvM_f18 (I := I17238) (A := A17238) hV17238), (IvM_f22 (I := I17238) (A := A17238) hV17238), (IvM_f23 (I := I17238) (A := A17238) hV17238), (IvM_f24 (I := I17238) (A := A17238) hV17238), (IvM_a11 (I := I17238) (A := A17238) hV17238), (IvM_a26 (I := I17238) (A := A17238) hV17238), (IvM_s8_0 (I := I17238) (A := A17238) hV17238), (IvM_s8_1 (I := I17238) (A := A17238) hV17238), (IvM_s10_0 (I := I17238) (A := A17238) hV17238), (IvM_s10_1 (I := I17238) (A := A17238) hV17238), (IvM_s17_0 (I := I17238) (A := A17238) hV17238), (IvM_s17_164 (I := I17238) (A := A17238) hV17238), ⟨fun e => (by rcases (IvM_sd (I := I17238) (A := A17238) hV17238) with h9 | h9 | h9; exact absurd h9 (by omega); exact absurd h9 (by omega); exact h9.1 (by omega)), fun e => absurd (show (0 : Int32).toInt = 1 from e) (by decide)⟩, (IvM_sd (I := I17238) (A := A17238) hV17238), (IvM_nq (I := I17238) (A := A17238) hV17238), (IvM_hr (I := I17238) (A := A17238) hV17238), (IvM_hh (I := I17238) (A := A17238) hV17238), trivial⟩) (SP.same _) (fun _ h => h) (gi_V (List.mem_cons_of_mem _ (List.mem_append_left _ (List.mem_of_getElem? (i := 24) rfl))) (List.mem_cons_of_mem _ (List.mem_append_left _ (List.mem_of_getElem? (i := 25) rfl))) (List.mem_cons_of_mem _ (List.mem_append_left _ (List.mem_of_getElem? (i := 26) rfl))) (List.mem_cons_of_mem _ (List.mem_append_left _ (List.mem_of_getElem? (i := 5) rfl))) (gi_sub (fun w h => (List.mem_cons_of_mem _ (List.mem_append_right _ (List.mem_append_right _ (List.mem_append_right _ (List.mem_append_right _ (List.mem_append_right _ (List.mem_append_right _ (List.mem_append_left _ h))))))))) zg_j138_X12_begins)) rfl rfl rfl (by decide +kernel) ⟨Nat.le_of_ble_eq_true rfl, Nat.le_of_ble_eq_true rfl⟩ 0 rfl rfl rfl rfl (Nat.le_of_ble_eq_true rfl) ⟨Nat.le_of_ble_eq_true rfl, Nat.le_of_ble_eq_true rfl⟩ dX12_read_210 (fun v ty' w' hp hk' => ?_)
                    obtain ⟨I17353, A17353, L17353, hI17353, hA17353, hV17353, r17354, r17355, r17356, rfl, rfl⟩ := hp
                    show GW κ 2 0 0 (wM r g I17353 A17353 L17353) 213 [(1, .int x322), (0, .ref (r 0))] []
                    refine g_aload_n hk dX12_read_213 rfl ?_
                    refine g_callV (n := 0) hk (j139_X12_keepsRow l D zt r g I17353 A17353 L17353  hV17353 (by omega) (by omega) (by omega)) (SP.same _) (fun _ h => h) (gi_V (List.mem_cons_of_mem _ (List.mem_append_left _ (List.mem_of_getElem? (i := 27) rfl))) (List.mem_cons_of_mem _ (List.mem_append_left _ (List.mem_of_getElem? (i := 28) rfl))) (List.mem_cons_of_mem _ (List.mem_append_left _ (List.mem_of_getElem? (i := 29) rfl))) (List.mem_cons_of_mem _ (List.mem_append_left _ (List.mem_of_getElem? (i := 5) rfl))) (gi_sub (fun w h => (List.mem_cons_of_mem _ (List.mem_append_right _ (List.mem_append_right _ (List.mem_append_right _ (List.mem_append_right _ (List.mem_append_right _ (List.mem_append_right _ (List.mem_append_right _ (List.mem_append_left _ h)))))))))) zg_j139_X12_keepsRow)) rfl rfl rfl (by decide +kernel) ⟨Nat.le_of_ble_eq_true rfl, Nat.le_of_ble_eq_true rfl⟩ 0 rfl rfl rfl rfl (Nat.le_of_ble_eq_true rfl) ⟨Nat.le_of_ble_eq_true rfl, Nat.le_of_ble_eq_true rfl⟩ dX12_read_214 (fun v ty' w' hp hk' => ?_)
                    obtain ⟨I17358, A17358, L17358, hI17358, hA17358, hV17358, rfl, rfl⟩ := hp
                    show GW κ 2 0 0 (wM r g I17358 A17358 L17358) 217 [(1, .int x322), (0, .ref (r 0))] []
                    refine g_aload_n hk dX12_read_217 rfl ?_
                    refine g_iconst (v := 0) hk dX12_read_218 (by decide) ?_
                    refine pM_i22 hk hin12 (List.mem_cons_of_mem _ (List.mem_append_left _ (List.mem_of_getElem? (i := 30) rfl))) dX12_read_219 ?_
                    refine g_iconst (v := 0) hk dX12_read_222 (by decide) ?_
                    refine g_istore_n (lv' := [(1, .int 0), (0, .ref (r 0))]) hk dX12_read_223 (by decide) rfl ?_
                    have lp17370 : ∀ (n17371 : Nat) (x17359 : Int32) (I17361 : Nat → Int32) (A17361 : Nat → Nat → Int32) (L17361 : Nat → Nat → Int64), (Md [] (upd I17358 22 0) I17361) → (Md [27] A17358 A17361) → (IvM I17361 A17361) → (0 ≤ x17359.toInt) → (x17359.toInt ≤ 3) → (3 - x17359.toInt < (n17371 : Int)) → (0 < n17371) → GW κ 2 0 0 (wM r g I17361 A17361 L17361) 224 [(1, .int x17359), (0, .ref (r 0))] [] := by
                      intro n17371
                      induction n17371 with
                      | zero =>
                        intro x17359 I17361 A17361 L17361 hI17361 hA17361 hV17361 h17368 h17369 m17372 m17372z
                        exact absurd m17372z (Nat.lt_irrefl 0)
                      | succ n17371 ih17373 =>
                        intro x17359 I17361 A17361 L17361 hI17361 hA17361 hV17361 h17368 h17369 m17372 m17372z
                        refine g_iload_n hk dX12_read_224 rfl ?_
                        refine g_iconst (v := 3) hk dX12_read_225 (by decide) ?_
                        refine g_icmp_ge (tgt := 242) (a := x17359.toInt) (b := 3) hk dX12_read_226 (by decide) rfl rfl (fun c17374 => ?_) (fun c17374 => ?_)
                        · skip
                          refine g_iconst (v := 0) hk dX12_read_242 (by decide) ?_
                          exact g_iret hk hR rfl ⟨I17361, A17361, L17361, (show Md [1, 2, 3, 4, 6, 7, 8, 9, 10, 11, 12, 13, 14, 15, 16, 17, 22] I I17361 from (Md.tr (Md.up (Md.tr (Md.tr (Md.up (Md.up (Md.up (Md.tr (Md.up (Md.up (Md.up (Md.up (Md.up (Md.up (Md.tr (Md.up (Md.tr (Md.up Md.rf rfl) hI324 rfl) rfl) hI17079 rfl) rfl) rfl) rfl) rfl) rfl) rfl) hI17238 rfl) rfl) rfl) rfl) hI17353 rfl) hI17358 rfl) rfl) hI17361 rfl)), (show Md [1, 2, 3, 4, 8, 9, 10, 11, 12, 13, 14, 15, 16, 17, 18, 27] A A17361 from (Md.tr (Md.tr (Md.tr (Md.tr (Md.up3 (Md.up3 (Md.up3 (Md.up3 (Md.up3 (Md.up3 (Md.tr (Md.tr Md.rf hA324 rfl) hA17079 rfl) rfl) rfl) rfl) rfl) rfl) rfl) hA17238 rfl) hA17353 rfl) hA17358 rfl) hA17361 rfl)), hV17361, 0, (by rw [show I17361 1 = 0 from ((hI17361 1 rfl).trans ((hI17358 1 rfl).trans ((hI17353 1 rfl).trans ((hI17238 1 rfl).trans (hI17079 1 rfl)))))]; omega), (by decide), (by decide), rfl, rfl⟩ dX12_read_243
                        · skip
                          refine g_aload_n hk dX12_read_229 rfl ?_
                          refine gM_r0_53 hk hin12 (List.mem_cons_of_mem _ (List.mem_append_left _ (List.mem_of_getElem? (i := 31) rfl))) dX12_read_230 ?_
                          refine g_iload_n hk dX12_read_233 rfl ?_
                          refine g_iconst (v := 0) hk dX12_read_234 (by decide) ?_
                          refine sM_27 (y := (vp_nar .boolean 0)) (j := x17359.toNatClampNeg) hk (vp_in_iff.mpr ⟨by omega, by omega⟩) rfl rfl dX12_read_235 ?_
                          obtain ⟨y17375, ey17375⟩ : ∃ y : Int32, y = x17359 + Int32.ofInt 1 := ⟨_, rfl⟩
                          have hy17375 : y17375.toInt = x17359.toInt + 1 := i32_add ey17375 rfl (by decide) (by omega) (by omega)
                          refine g_iinc (v := y17375) (lv' := [(1, .int y17375), (0, .ref (r 0))]) hk 0 dX12_read_236 rfl ey17375.symm (by decide) rfl ?_
                          refine g_goto (tgt := 224) hk dX12_read_239 (by decide) ?_
                          exact g_lv (List.forall_mem_cons.mpr ⟨List.mem_of_getElem? (i := 0) rfl, (List.forall_mem_cons.mpr ⟨List.mem_of_getElem? (i := 1) rfl, (fun _ h => absurd h List.not_mem_nil)⟩)⟩) (ih17373 y17375 I17361 (up3 A17361 27 (x17359.toNatClampNeg) (vp_nar .boolean 0)) L17361 (show Md [] (upd I17358 22 0) I17361 from Md.tr hI17361 (show Md [] I17361 I17361 from Md.rf) rfl) (show Md [27] A17358 (up3 A17361 27 (x17359.toNatClampNeg) (vp_nar .boolean 0)) from Md.tr hA17361 (show Md [27] A17361 (up3 A17361 27 (x17359.toNatClampNeg) (vp_nar .boolean 0)) from (Md.up3 Md.rf rfl)) rfl) ⟨(IvM_f1 (I := I17361) (A := A17361) hV17361), (IvM_f2 (I := I17361) (A := A17361) hV17361), (IvM_f3 (I := I17361) (A := A17361) hV17361), (IvM_f4 (I := I17361) (A := A17361) hV17361), (IvM_f6 (I := I17361) (A := A17361) hV17361), (IvM_f8 (I := I17361) (A := A17361) hV17361), (IvM_f15 (I := I17361) (A := A17361) hV17361), (IvM_f16 (I := I17361) (A := A17361) hV17361), (IvM_f17 (I := I17361) (A := A17361) hV17361), (IvM_f18 (I := I17361) (A := A17361) hV17361), (IvM_f22 (I := I17361) (A := A17361) hV17361), (IvM_f23 (I := I17361) (A := A17361) hV17361), (IvM_f24 (I := I17361) (A := A17361) hV17361), (IvM_a11 (I := I17361) (A := A17361) hV17361), (IvM_a26 (I := I17361) (A := A17361) hV17361), (IvM_s8_0 (I := I17361) (A := A17361) hV17361), (IvM_s8_1 (I := I17361) (A := A17361) hV17361), (IvM_s10_0 (I := I17361) (A := A17361) hV17361), (IvM_s10_1 (I := I17361) (A := A17361) hV17361), (IvM_s17_0 (I := I17361) (A := A17361) hV17361), (IvM_s17_164 (I := I17361) (A := A17361) hV17361), (IvM_lv (I := I17361) (A := A17361) hV17361), (IvM_sd (I := I17361) (A := A17361) hV17361), (IvM_nq (I := I17361) (A := A17361) hV17361), (IvM_hr (I := I17361) (A := A17361) hV17361), (hh_off (IvM_hh (I := I17361) (A := A17361) hV17361) (by decide)), trivial⟩ (by omega) (by omega) (by omega) (by omega))
                    obtain ⟨n17376, n17376a, n17376b⟩ : ∃ n : Nat, 3 - (0 : Int32).toInt < (n : Int) ∧ 0 < n := ⟨((3 - (0 : Int32).toInt : Int)).toNat + 1, by omega, by omega⟩
                    exact lp17370 n17376 0 (upd I17358 22 0) A17358 L17358 Md.rf Md.rf ⟨(IvM_f1 (I := I17358) (A := A17358) hV17358), (IvM_f2 (I := I17358) (A := A17358) hV17358), (IvM_f3 (I := I17358) (A := A17358) hV17358), (IvM_f4 (I := I17358) (A := A17358) hV17358), (IvM_f6 (I := I17358) (A := A17358) hV17358), (IvM_f8 (I := I17358) (A := A17358) hV17358), (IvM_f15 (I := I17358) (A := A17358) hV17358), (IvM_f16 (I := I17358) (A := A17358) hV17358), (IvM_f17 (I := I17358) (A := A17358) hV17358), (IvM_f18 (I := I17358) (A := A17358) hV17358), (show 0 ≤ (0 : Int32).toInt ∧ (0 : Int32).toInt ≤ 40 from ⟨by decide, by decide⟩), (IvM_f23 (I := I17358) (A := A17358) hV17358), (IvM_f24 (I := I17358) (A := A17358) hV17358), (IvM_a11 (I := I17358) (A := A17358) hV17358), (IvM_a26 (I := I17358) (A := A17358) hV17358), (IvM_s8_0 (I := I17358) (A := A17358) hV17358), (IvM_s8_1 (I := I17358) (A := A17358) hV17358), (IvM_s10_0 (I := I17358) (A := A17358) hV17358), (IvM_s10_1 (I := I17358) (A := A17358) hV17358), (IvM_s17_0 (I := I17358) (A := A17358) hV17358), (IvM_s17_164 (I := I17358) (A := A17358) hV17358), (IvM_lv (I := I17358) (A := A17358) hV17358), (IvM_sd (I := I17358) (A := A17358) hV17358), (IvM_nq (I := I17358) (A := A17358) hV17358), (fun j hj => absurd (show (j : Int) < (0 : Int32).toInt from hj) (by have : (0 : Int32).toInt = 0 := rfl; omega)), (IvM_hh (I := I17358) (A := A17358) hV17358), trivial⟩ (by omega) (by omega) n17376a n17376b
                  · skip
                    refine g_aload_n hk dX12_read_133 rfl ?_
                    refine gM_i9 (v := (I17238 9)) hk hin12 (List.mem_cons_of_mem _ (List.mem_append_left _ (List.mem_of_getElem? (i := 34) rfl))) dX12_read_134 rfl ?_
                    refine g_goto (tgt := 141) hk dX12_read_137 (by decide) ?_
                    refine pM_i10 hk hin12 (List.mem_cons_of_mem _ (List.mem_append_left _ (List.mem_of_getElem? (i := 22) rfl))) dX12_read_141 ?_
                    refine g_aload_n hk dX12_read_144 rfl ?_
                    refine g_aload_n hk dX12_read_145 rfl ?_
                    refine gM_i6 (v := (I17238 6)) hk hin12 (List.mem_cons_of_mem _ (List.mem_append_left _ (List.mem_of_getElem? (i := 7) rfl))) dX12_read_146 rfl ?_
                    refine g_if_le (tgt := 159) (a := (I17238 6).toInt) hk dX12_read_149 (by decide) rfl (fun _ => ?_) (fun z9 => absurd (show (I17238 6).toInt ≤ 0 from by omega) z9)
                    refine g_aload_n hk dX12_read_159 rfl ?_
                    refine gM_i8 (v := (I17238 8)) hk hin12 (List.mem_cons_of_mem _ (List.mem_append_left _ (List.mem_of_getElem? (i := 8) rfl))) dX12_read_160 rfl ?_
                    refine g_if_le (tgt := 173) (a := (I17238 8).toInt) hk dX12_read_163 (by decide) rfl (fun z9 => absurd z9 (show ¬ ((I17238 8).toInt ≤ 0) from by omega)) (fun _ => ?_)
                    refine g_aload_n hk dX12_read_166 rfl ?_
                    refine gM_i13 (v := (I17238 13)) hk hin12 (List.mem_cons_of_mem _ (List.mem_append_left _ (List.mem_of_getElem? (i := 35) rfl))) dX12_read_167 rfl ?_
                    refine g_goto (tgt := 174) hk dX12_read_170 (by decide) ?_
                    refine pM_i14 hk hin12 (List.mem_cons_of_mem _ (List.mem_append_left _ (List.mem_of_getElem? (i := 23) rfl))) dX12_read_174 ?_
                    refine g_aload_n hk dX12_read_177 rfl ?_
                    refine gM_i6 (v := (I17238 6)) hk hin12 (List.mem_cons_of_mem _ (List.mem_append_left _ (List.mem_of_getElem? (i := 7) rfl))) dX12_read_178 rfl ?_
                    refine g_if_le (tgt := 189) (a := (I17238 6).toInt) hk dX12_read_181 (by decide) rfl (fun _ => ?_) (fun z9 => absurd (show (I17238 6).toInt ≤ 0 from by omega) z9)
                    refine g_aload_n hk dX12_read_189 rfl ?_
                    refine gM_i8 (v := (I17238 8)) hk hin12 (List.mem_cons_of_mem _ (List.mem_append_left _ (List.mem_of_getElem? (i := 8) rfl))) dX12_read_190 rfl ?_
                    refine g_if_le (tgt := 201) (a := (I17238 8).toInt) hk dX12_read_193 (by decide) rfl (fun z9 => absurd z9 (show ¬ ((I17238 8).toInt ≤ 0) from by omega)) (fun _ => ?_)
                    refine g_aload_n hk dX12_read_196 rfl ?_
                    refine gM_i8 (v := (I17238 8)) hk hin12 (List.mem_cons_of_mem _ (List.mem_append_left _ (List.mem_of_getElem? (i := 8) rfl))) dX12_read_197 rfl ?_
                    exact g_iret hk hR rfl ⟨(upd (upd I17238 10 (I17238 9)) 14 (I17238 13)), A17238, L17238, (show Md [1, 2, 3, 4, 6, 7, 8, 9, 10, 11, 12, 13, 14, 15, 16, 17, 22] I (upd (upd I17238 10 (I17238 9)) 14 (I17238 13)) from (Md.up (Md.up (Md.tr (Md.up (Md.up (Md.up (Md.up (Md.up (Md.up (Md.tr (Md.up (Md.tr (Md.up Md.rf rfl) hI324 rfl) rfl) hI17079 rfl) rfl) rfl) rfl) rfl) rfl) rfl) hI17238 rfl) rfl) rfl)), (show Md [1, 2, 3, 4, 8, 9, 10, 11, 12, 13, 14, 15, 16, 17, 18, 27] A A17238 from (Md.tr (Md.up3 (Md.up3 (Md.up3 (Md.up3 (Md.up3 (Md.up3 (Md.tr (Md.tr Md.rf hA324 rfl) hA17079 rfl) rfl) rfl) rfl) rfl) rfl) rfl) hA17238 rfl)), ⟨(IvM_f1 (I := I17238) (A := A17238) hV17238), (IvM_f2 (I := I17238) (A := A17238) hV17238), (IvM_f3 (I := I17238) (A := A17238) hV17238), (IvM_f4 (I := I17238) (A := A17238) hV17238), (IvM_f6 (I := I17238) (A := A17238) hV17238), (IvM_f8 (I := I17238) (A := A17238) hV17238), (IvM_f15 (I := I17238) (A := A17238) hV17238), (IvM_f16 (I := I17238) (A := A17238) hV17238), (IvM_f17 (I := I17238) (A := A17238) hV17238), (IvM_f18 (I := I17238) (A := A17238) hV17238), (IvM_f22 (I := I17238) (A := A17238) hV17238), (IvM_f23 (I := I17238) (A := A17238) hV17238), (IvM_f24 (I := I17238) (A := A17238) hV17238), (IvM_a11 (I := I17238) (A := A17238) hV17238), (IvM_a26 (I := I17238) (A := A17238) hV17238), (IvM_s8_0 (I := I17238) (A := A17238) hV17238), (IvM_s8_1 (I := I17238) (A := A17238) hV17238), (IvM_s10_0 (I := I17238) (A := A17238) hV17238), (IvM_s10_1 (I := I17238) (A := A17238) hV17238), (IvM_s17_0 (I := I17238) (A := A17238) hV17238), (IvM_s17_164 (I := I17238) (A := A17238) hV17238), (IvM_lv (I := I17238) (A := A17238) hV17238), (IvM_sd (I := I17238) (A := A17238) hV17238), (IvM_nq (I := I17238) (A := A17238) hV17238), (IvM_hr (I := I17238) (A := A17238) hV17238), (IvM_hh (I := I17238) (A := A17238) hV17238), trivial⟩, (I17238 8), (by rw [show (upd (upd I17238 10 (I17238 9)) 14 (I17238 13)) 1 = 0 from ((hI17238 1 rfl).trans (hI17079 1 rfl))]; omega), (by omega), (by omega), rfl, rfl⟩ dX12_read_200
          obtain ⟨n17377, n17377a, n17377b⟩ : ∃ n : Nat, 10 * (401 - (0 : Int32).toInt) + (10 - (0 : Int32).toInt) < (n : Int) ∧ 0 < n := ⟨((10 * (401 - (0 : Int32).toInt) + (10 - (0 : Int32).toInt) : Int)).toNat + 1, by omega, by omega⟩
          have g17378 : (I17079 15).toInt = (I 15).toInt := by rw [show (I17079 15) = (I 15) from ((hI17079 15 rfl).trans (hI324 15 rfl))]
          have g17379 : (I17079 16).toInt = (I 16).toInt := by rw [show (I17079 16) = (I 16) from ((hI17079 16 rfl).trans (hI324 16 rfl))]
          have g17380 := IvM_s10_0 (I := I17079) (A := A17079) hV17079
          have g17381 := IvM_s10_1 (I := I17079) (A := A17079) hV17079
          exact lp17328 n17377 (upd (upd (upd (upd (upd (upd I17079 4 0) 6 0) 8 0) 11 (-2)) 16 0) 17 0) (up3 (up3 (up3 (up3 (up3 (up3 A17079 8 0 0) 10 0 0) 13 0 2) 14 0 0) 15 0 0) 16 0 8) L17079 Md.rf Md.rf ⟨(IvM_f1 (I := I17079) (A := A17079) hV17079), (IvM_f2 (I := I17079) (A := A17079) hV17079), (IvM_f3 (I := I17079) (A := A17079) hV17079), (show 0 ≤ (0 : Int32).toInt ∧ (0 : Int32).toInt ≤ 400 from ⟨by decide, by decide⟩), (show 0 ≤ (0 : Int32).toInt ∧ (0 : Int32).toInt ≤ 9 from ⟨by decide, by decide⟩), (show 0 ≤ (0 : Int32).toInt ∧ (0 : Int32).toInt ≤ 9 from ⟨by decide, by decide⟩), (IvM_f15 (I := I17079) (A := A17079) hV17079), (show 0 ≤ (0 : Int32).toInt ∧ (0 : Int32).toInt ≤ 1 from ⟨by decide, by decide⟩), (show 0 ≤ (0 : Int32).toInt ∧ (0 : Int32).toInt ≤ 5 from ⟨by decide, by decide⟩), (IvM_f18 (I := I17079) (A := A17079) hV17079), (IvM_f22 (I := I17079) (A := A17079) hV17079), (IvM_f23 (I := I17079) (A := A17079) hV17079), (IvM_f24 (I := I17079) (A := A17079) hV17079), (IvM_a11 (I := I17079) (A := A17079) hV17079), (IvM_a26 (I := I17079) (A := A17079) hV17079), (show 0 ≤ ((up3 (up3 (up3 (up3 (up3 (up3 A17079 8 0 0) 10 0 0) 13 0 2) 14 0 0) 15 0 0) 16 0 8) 8 0).toInt ∧ ((up3 (up3 (up3 (up3 (up3 (up3 A17079 8 0 0) 10 0 0) 13 0 2) 14 0 0) 15 0 0) 16 0 8) 8 0).toInt ≤ 160 from by rw [show (up3 (up3 (up3 (up3 (up3 (up3 A17079 8 0 0) 10 0 0) 13 0 2) 14 0 0) 15 0 0) 16 0 8) 8 0 = 0 from rfl]; exact ⟨by decide, by decide⟩), (show 0 ≤ ((up3 (up3 (up3 (up3 (up3 (up3 A17079 8 0 0) 10 0 0) 13 0 2) 14 0 0) 15 0 0) 16 0 8) 8 1).toInt ∧ ((up3 (up3 (up3 (up3 (up3 (up3 A17079 8 0 0) 10 0 0) 13 0 2) 14 0 0) 15 0 0) 16 0 8) 8 1).toInt ≤ 160 from by rw [show (up3 (up3 (up3 (up3 (up3 (up3 A17079 8 0 0) 10 0 0) 13 0 2) 14 0 0) 15 0 0) 16 0 8) 8 1 = (A17079 8 1) from rfl]; exact (IvM_s8_1 (I := I17079) (A := A17079) hV17079)), (show 0 ≤ ((up3 (up3 (up3 (up3 (up3 (up3 A17079 8 0 0) 10 0 0) 13 0 2) 14 0 0) 15 0 0) 16 0 8) 10 0).toInt ∧ ((up3 (up3 (up3 (up3 (up3 (up3 A17079 8 0 0) 10 0 0) 13 0 2) 14 0 0) 15 0 0) 16 0 8) 10 0).toInt ≤ 5 from by rw [show (up3 (up3 (up3 (up3 (up3 (up3 A17079 8 0 0) 10 0 0) 13 0 2) 14 0 0) 15 0 0) 16 0 8) 10 0 = 0 from rfl]; exact ⟨by decide, by decide⟩), (show 0 ≤ ((up3 (up3 (up3 (up3 (up3 (up3 A17079 8 0 0) 10 0 0) 13 0 2) 14 0 0) 15 0 0) 16 0 8) 10 1).toInt ∧ ((up3 (up3 (up3 (up3 (up3 (up3 A17079 8 0 0) 10 0 0) 13 0 2) 14 0 0) 15 0 0) 16 0 8) 10 1).toInt ≤ 5 from by rw [show (up3 (up3 (up3 (up3 (up3 (up3 A17079 8 0 0) 10 0 0) 13 0 2) 14 0 0) 15 0 0) 16 0 8) 10 1 = (A17079 10 1) from rfl]; exact (IvM_s10_1 (I := I17079) (A := A17079) hV17079)), (IvM_s17_0 (I := I17079) (A := A17079) hV17079), (IvM_s17_164 (I := I17079) (A := A17079) hV17079), ⟨fun e => by have e : (I17079 15).toInt = 0 := e; first | exact (IvM_lv (I := I17079) (A := A17079) hV17079).1 e | (exfalso; omega), fun e => by have e : (I17079 15).toInt = 1 := e; first | exact (IvM_lv (I := I17079) (A := A17079) hV17079).2 e | (exfalso; omega)⟩, (Or.inr (Or.inr ⟨fun e => ghf_0 (show 1 ≤ (8 : Int32).toInt from by decide) (show (0 : Int32).toInt = 0 from rfl), fun e => absurd (show (0 : Int32).toInt = 1 from e) (by decide)⟩)), ⟨fun e => (show (0 : Int32).toInt = (0 : Int32).toInt from rfl), fun e => absurd (show (0 : Int32).toInt = 1 from e) (by decide)⟩, (IvM_hr (I := I17079) (A := A17079) hV17079), (IvM_hh (I := I17079) (A := A17079) hV17079), trivial⟩ (by first | exact n17377a | (rw [show ((upd (upd (upd (upd (upd (upd I17079 4 0) 6 0) 8 0) 11 (-2)) 16 0) 17 0) 4) = (0 : Int32) from rfl, show ((upd (upd (upd (upd (upd (upd I17079 4 0) 6 0) 8 0) 11 (-2)) 16 0) 17 0) 6) = (0 : Int32) from rfl] <;> exact n17377a)) n17377b
        exfalso; omega
      · skip
        refine g_aload_n hk dX12_read_18 rfl ?_
        refine gM_r0_3 hk hin12 (List.mem_cons_of_mem _ (List.mem_append_left _ (List.mem_of_getElem? (i := 36) rfl))) dX12_read_19 ?_
        refine g_iload_n hk dX12_read_22 rfl ?_
        refine g_aload_n hk dX12_read_23 rfl ?_
        refine gM_r0_1 hk hin12 (List.mem_cons_of_mem _ (List.mem_append_left _ (List.mem_of_getElem? (i := 37) rfl))) dX12_read_24 ?_
        refine g_iload_n hk dX12_read_27 rfl ?_
        refine lM_0 (v := (A 0 x322.toNatClampNeg)) hk (vp_in_iff.mpr ⟨by omega, by omega⟩) (congrFun (hA324 0 rfl) _) dX12_read_28 ?_
        refine sM_1 (y := (vp_nar .byte (A 0 x322.toNatClampNeg))) (j := x322.toNatClampNeg) hk (vp_in_iff.mpr ⟨by omega, by omega⟩) rfl rfl dX12_read_29 ?_
        obtain ⟨y17382, ey17382⟩ : ∃ y : Int32, y = x322 + Int32.ofInt 1 := ⟨_, rfl⟩
        have hy17382 : y17382.toInt = x322.toInt + 1 := i32_add ey17382 rfl (by decide) (by omega) (by omega)
        refine g_iinc (v := y17382) (lv' := [(1, .int y17382), (0, .ref (r 0))]) hk 0 dX12_read_30 rfl ey17382.symm (by decide) rfl ?_
        refine g_goto (tgt := 10) hk dX12_read_33 (by decide) ?_
        exact g_lv (List.forall_mem_cons.mpr ⟨List.mem_of_getElem? (i := 0) rfl, (List.forall_mem_cons.mpr ⟨List.mem_of_getElem? (i := 1) rfl, (fun _ h => absurd h List.not_mem_nil)⟩)⟩) (ih17076 y17382 I324 (up3 A324 1 (x322.toNatClampNeg) (vp_nar .byte (A 0 x322.toNatClampNeg))) L324 (show Md [] (upd I 2 (I 1)) I324 from Md.tr hI324 (show Md [] I324 I324 from Md.rf) rfl) (show Md [1] A (up3 A324 1 (x322.toNatClampNeg) (vp_nar .byte (A 0 x322.toNatClampNeg))) from Md.tr hA324 (show Md [1] A324 (up3 A324 1 (x322.toNatClampNeg) (vp_nar .byte (A 0 x322.toNatClampNeg))) from (Md.up3 Md.rf rfl)) rfl) ⟨(IvM_f1 (I := I324) (A := A324) hV324), (IvM_f2 (I := I324) (A := A324) hV324), (IvM_f3 (I := I324) (A := A324) hV324), (IvM_f4 (I := I324) (A := A324) hV324), (IvM_f6 (I := I324) (A := A324) hV324), (IvM_f8 (I := I324) (A := A324) hV324), (IvM_f15 (I := I324) (A := A324) hV324), (IvM_f16 (I := I324) (A := A324) hV324), (IvM_f17 (I := I324) (A := A324) hV324), (IvM_f18 (I := I324) (A := A324) hV324), (IvM_f22 (I := I324) (A := A324) hV324), (IvM_f23 (I := I324) (A := A324) hV324), (IvM_f24 (I := I324) (A := A324) hV324), (IvM_a11 (I := I324) (A := A324) hV324), (IvM_a26 (I := I324) (A := A324) hV324), (IvM_s8_0 (I := I324) (A := A324) hV324), (IvM_s8_1 (I := I324) (A := A324) hV324), (IvM_s10_0 (I := I324) (A := A324) hV324), (IvM_s10_1 (I := I324) (A := A324) hV324), (IvM_s17_0 (I := I324) (A := A324) hV324), (IvM_s17_164 (I := I324) (A := A324) hV324), (IvM_lv (I := I324) (A := A324) hV324), (IvM_sd (I := I324) (A := A324) hV324), (IvM_nq (I := I324) (A := A324) hV324), (IvM_hr (I := I324) (A := A324) hV324), (IvM_hh (I := I324) (A := A324) hV324), trivial⟩ (by omega) (by omega) (by omega) (by omega))
  have k17383 : (0 : Int32).toInt = 0 := rfl
  obtain ⟨n17384, n17384a, n17384b⟩ : ∃ n : Nat, 2001 - (0 : Int32).toInt < (n : Int) ∧ 0 < n := ⟨((2001 - (0 : Int32).toInt : Int)).toNat + 1, by omega, by omega⟩
  exact lp17073 n17384 0 (upd I 2 (I 1)) A L Md.rf Md.rf ⟨(IvM_f1 (I := I) (A := A) hIv), (show 0 ≤ (I 1).toInt ∧ (I 1).toInt ≤ 2000 from ⟨by omega, by omega⟩), (IvM_f3 (I := I) (A := A) hIv), (IvM_f4 (I := I) (A := A) hIv), (IvM_f6 (I := I) (A := A) hIv), (IvM_f8 (I := I) (A := A) hIv), (IvM_f15 (I := I) (A := A) hIv), (IvM_f16 (I := I) (A := A) hIv), (IvM_f17 (I := I) (A := A) hIv), (IvM_f18 (I := I) (A := A) hIv), (IvM_f22 (I := I) (A := A) hIv), (IvM_f23 (I := I) (A := A) hIv), (IvM_f24 (I := I) (A := A) hIv), (IvM_a11 (I := I) (A := A) hIv), (IvM_a26 (I := I) (A := A) hIv), (IvM_s8_0 (I := I) (A := A) hIv), (IvM_s8_1 (I := I) (A := A) hIv), (IvM_s10_0 (I := I) (A := A) hIv), (IvM_s10_1 (I := I) (A := A) hIv), (IvM_s17_0 (I := I) (A := A) hIv), (IvM_s17_164 (I := I) (A := A) hIv), (IvM_lv (I := I) (A := A) hIv), (IvM_sd (I := I) (A := A) hIv), (IvM_nq (I := I) (A := A) hIv), (IvM_hr (I := I) (A := A) hIv), (IvM_hh (I := I) (A := A) hIv), trivial⟩ (by omega) (by omega) n17384a n17384b
def wo_j140_X12_place : List Cond := [Cond.fieldLink RX12 37 "WarpDeskModel" "place" "I"]
def wz_j140_X12_place : List Cond := .code yX12_place cX12_place 1 (some .int) :: (wo_j140_X12_place ++ (wsX120 ++ ([] : List Cond)))
theorem zg_j140_X12_place : ∀ w ∈ wz_j140_X12_place, goodWord w = true := zg_cons rfl (zg_app (by decide +kernel) (zg_app zgU_wsX120 zg_nil))
theorem zi_j140_X12_place : ∀ w ∈ wz_j140_X12_place, w ∈ lw_tbl := zi_cons zw_1639 (zi_app (zi_cons zw_1395 zi_nil) (zi_app inX12 zi_nil))
set_option maxHeartbeats 4000000 in
set_option maxRecDepth 100000 in
theorem j140_X12_place (l : Launch) (D : va_G) (zt : Nat × Nat × Nat × (Nat → Nat) × (Nat → Nat)) (r : Nat → Nat) (g : Nat → ClassId) (I : Nat → Int32) (A : Nat → Nat → Int32) (L : Nat → Nat → Int64) (hIv : IvM I A) : GM l D zt (tyM g) yX12_place wz_j140_X12_place ({ frames := 0, cells := 0, slots := 0, locals := 0 } : Room) [.ref (r 0)] (wM r g I A L) (fun v _ w' => ∃ y0 : Int32, v = some (.int y0) ∧ w' = wM r g I A L) 0 0 := by
  refine GM.of (cc := cX12_place) (maxL := 1) (ret := (some .int)) (own := RX12) (lv := [(0, .ref (r 0))]) (by decide) rfl rfl (Nat.le_of_ble_eq_true rfl) rfl (fun κ sz hk hR hN => ?_)
  have hin12 : ∀ w ∈ u_ws RX12 TX12 55, w ∈ wz_j140_X12_place := fun w h => (List.mem_cons_of_mem _ (List.mem_append_right _ (List.mem_append_left _ h)))
  refine g_aload_n hk dX12_place_0 rfl ?_
  refine gM_i10 (v := (I 10)) hk hin12 (List.mem_cons_of_mem _ (List.mem_append_left _ (List.mem_of_getElem? (i := 0) rfl))) dX12_place_1 rfl ?_
  have b17385l := Int32.le_toInt (I 10)
  have b17385h := Int32.toInt_lt (I 10)
  exact g_iret hk hR rfl ⟨(I 10), rfl, rfl⟩ dX12_place_4
def wo_j141_X12_cause : List Cond := [Cond.fieldLink RX12 111 "WarpDeskModel" "cause" "I"]
def wz_j141_X12_cause : List Cond := .code yX12_cause cX12_cause 1 (some .int) :: (wo_j141_X12_cause ++ (wsX120 ++ ([] : List Cond)))
theorem zg_j141_X12_cause : ∀ w ∈ wz_j141_X12_cause, goodWord w = true := zg_cons rfl (zg_app (by decide +kernel) (zg_app zgU_wsX120 zg_nil))
theorem zi_j141_X12_cause : ∀ w ∈ wz_j141_X12_cause, w ∈ lw_tbl := zi_cons zw_1643 (zi_app (zi_cons zw_1399 zi_nil) (zi_app inX12 zi_nil))
set_option maxHeartbeats 4000000 in
set_option maxRecDepth 100000 in
theorem j141_X12_cause (l : Launch) (D : va_G) (zt : Nat × Nat × Nat × (Nat → Nat) × (Nat → Nat)) (r : Nat → Nat) (g : Nat → ClassId) (I : Nat → Int32) (A : Nat → Nat → Int32) (L : Nat → Nat → Int64) (hIv : IvM I A) : GM l D zt (tyM g) yX12_cause wz_j141_X12_cause ({ frames := 0, cells := 0, slots := 0, locals := 0 } : Room) [.ref (r 0)] (wM r g I A L) (fun v _ w' => ∃ y0 : Int32, v = some (.int y0) ∧ w' = wM r g I A L) 0 0 := by
  refine GM.of (cc := cX12_cause) (maxL := 1) (ret := (some .int)) (own := RX12) (lv := [(0, .ref (r 0))]) (by decide) rfl rfl (Nat.le_of_ble_eq_true rfl) rfl (fun κ sz hk hR hN => ?_)
  have hin12 : ∀ w ∈ u_ws RX12 TX12 55, w ∈ wz_j141_X12_cause := fun w h => (List.mem_cons_of_mem _ (List.mem_append_right _ (List.mem_append_left _ h)))
  refine g_aload_n hk dX12_cause_0 rfl ?_
  refine gM_i14 (v := (I 14)) hk hin12 (List.mem_cons_of_mem _ (List.mem_append_left _ (List.mem_of_getElem? (i := 0) rfl))) dX12_cause_1 rfl ?_
  have b17386l := Int32.le_toInt (I 14)
  have b17386h := Int32.toInt_lt (I 14)
  exact g_iret hk hR rfl ⟨(I 14), rfl, rfl⟩ dX12_cause_4
def wo_j145_X12_in : List Cond := []
def wz_j145_X12_in : List Cond := .code yX12_in cX12_in 3 (some .boolean) :: (wo_j145_X12_in ++ ([] : List Cond))
theorem zg_j145_X12_in : ∀ w ∈ wz_j145_X12_in, goodWord w = true := zg_cons rfl (zg_app (by decide +kernel) zg_nil)
theorem zi_j145_X12_in : ∀ w ∈ wz_j145_X12_in, w ∈ lw_tbl := zi_cons zw_1658 (zi_app zi_nil zi_nil)
set_option maxHeartbeats 4000000 in
set_option maxRecDepth 100000 in
theorem j145_X12_in (l : Launch) (D : va_G) (zt : Nat × Nat × Nat × (Nat → Nat) × (Nat → Nat)) (r : Nat → Nat) (g : Nat → ClassId) (I : Nat → Int32) (A : Nat → Nat → Int32) (L : Nat → Nat → Int64) (z0 : Int32) (z1 : Int32) (z2 : Int32) (hIv : IvM I A) : GM l D zt (tyM g) yX12_in wz_j145_X12_in ({ frames := 0, cells := 0, slots := 0, locals := 0 } : Room) [.int z0, .int z1, .int z2] (wM r g I A L) (fun v _ w' => ((z0.toInt < z1.toInt ∨ z2.toInt < z0.toInt) ∧ v = some (.int 0) ∧ w' = wM r g I A L) ∨ ((¬ (z0.toInt < z1.toInt)) ∧ (¬ (z2.toInt < z0.toInt)) ∧ v = some (.int 1) ∧ w' = wM r g I A L)) 0 0 := by
  refine GM.of (cc := cX12_in) (maxL := 3) (ret := (some .boolean)) (own := RX12) (lv := [(0, .int z0), (1, .int z1), (2, .int z2)]) (by decide) rfl rfl (Nat.le_of_ble_eq_true rfl) rfl (fun κ sz hk hR hN => ?_)
  refine g_iload_n hk dX12_in_0 rfl ?_
  refine g_iload_n hk dX12_in_1 rfl ?_
  have b17389l := Int32.le_toInt z0
  have b17389h := Int32.toInt_lt z0
  have b17390l := Int32.le_toInt z1
  have b17390h := Int32.toInt_lt z1
  refine g_icmp_lt (tgt := 14) (a := z0.toInt) (b := z1.toInt) hk dX12_in_2 (by decide) rfl rfl (fun c17391 => ?_) (fun c17391 => ?_)
  · skip
    refine g_iconst (v := 0) hk dX12_in_14 (by decide) ?_
    exact g_iret hk hR rfl (Or.inl ⟨(by omega), rfl, rfl⟩) dX12_in_15
  · skip
    refine g_iload_n hk dX12_in_5 rfl ?_
    refine g_iload_n hk dX12_in_6 rfl ?_
    have b17392l := Int32.le_toInt z2
    have b17392h := Int32.toInt_lt z2
    refine g_icmp_gt (tgt := 14) (a := z0.toInt) (b := z2.toInt) hk dX12_in_7 (by decide) rfl rfl (fun c17393 => ?_) (fun c17393 => ?_)
    · skip
      refine g_iconst (v := 0) hk dX12_in_14 (by decide) ?_
      exact g_iret hk hR rfl (Or.inl ⟨(by omega), rfl, rfl⟩) dX12_in_15
    · skip
      refine g_iconst (v := 1) hk dX12_in_10 (by decide) ?_
      refine g_goto (tgt := 15) hk dX12_in_11 (by decide) ?_
      exact g_iret hk hR rfl (Or.inr (⟨c17391, c17393, rfl, rfl⟩)) dX12_in_15
def wo_j144_X12_isPlace : List Cond := [Cond.fieldLink RX12 70 "WarpDeskModel" "now" "[I", Cond.methodLink RX12 244 yX12_in, Cond.static yX12_in, Cond.initialized RX12]
def wz_j144_X12_isPlace : List Cond := .code yX12_isPlace cX12_isPlace 2 (some .boolean) :: (wo_j144_X12_isPlace ++ (wsX120 ++ (wz_j145_X12_in ++ ([] : List Cond))))
theorem zg_j144_X12_isPlace : ∀ w ∈ wz_j144_X12_isPlace, goodWord w = true := zg_cons rfl (zg_app (by decide +kernel) (zg_app zgU_wsX120 (zg_app zg_j145_X12_in zg_nil)))
theorem zi_j144_X12_isPlace : ∀ w ∈ wz_j144_X12_isPlace, w ∈ lw_tbl := zi_cons zw_1655 (zi_app (zi_cons zw_1413 (zi_cons zw_1656 (zi_cons zw_1657 (zi_cons zw_115 zi_nil)))) (zi_app inX12 (zi_app zi_j145_X12_in zi_nil)))
set_option maxHeartbeats 4000000 in
set_option maxRecDepth 100000 in
theorem j144_X12_isPlace (l : Launch) (D : va_G) (zt : Nat × Nat × Nat × (Nat → Nat) × (Nat → Nat)) (r : Nat → Nat) (g : Nat → ClassId) (I : Nat → Int32) (A : Nat → Nat → Int32) (L : Nat → Nat → Int64) (z1 : Int32) (hIv : IvM I A) : GM l D zt (tyM g) yX12_isPlace wz_j144_X12_isPlace ({ frames := 1, cells := 0, slots := 0, locals := 22 } : Room) [.ref (r 0), .int z1] (wM r g I A L) (fun v _ w' => (v = some (.int 0) ∧ w' = wM r g I A L) ∨ ((¬ (z1.toInt < 0)) ∧ (0 ≤ z1.toInt) ∧ (z1.toInt ≤ 159) ∧ v = some (.int 1) ∧ w' = wM r g I A L)) 0 0 := by
  refine GM.of (cc := cX12_isPlace) (maxL := 2) (ret := (some .boolean)) (own := RX12) (lv := [(0, .ref (r 0)), (1, .int z1)]) (by decide) rfl rfl (Nat.le_of_ble_eq_true rfl) rfl (fun κ sz hk hR hN => ?_)
  have hin12 : ∀ w ∈ u_ws RX12 TX12 55, w ∈ wz_j144_X12_isPlace := fun w h => (List.mem_cons_of_mem _ (List.mem_append_right _ (List.mem_append_left _ h)))
  refine g_iload_n hk dX12_isPlace_0 rfl ?_
  refine g_iconst (v := 0) hk dX12_isPlace_1 (by decide) ?_
  refine g_aload_n hk dX12_isPlace_2 rfl ?_
  refine gM_r0_35 hk hin12 (List.mem_cons_of_mem _ (List.mem_append_left _ (List.mem_of_getElem? (i := 0) rfl))) dX12_isPlace_3 ?_
  refine g_iconst (v := 0) hk dX12_isPlace_6 (by decide) ?_
  refine lM_17 (v := (A 17 0)) hk (vp_in_iff.mpr ⟨by decide, by decide⟩) rfl dX12_isPlace_7 ?_
  have f17387 := IvM_s17_0 hIv
  refine g_iconst (v := 1) hk dX12_isPlace_8 (by decide) ?_
  refine g_isub hk dX12_isPlace_9 ?_
  refine g_topi (fun y17388 ey17388 => ?_)
  have hy17388 : y17388.toInt = (A 17 0).toInt - 1 := i32_sub ey17388 rfl rfl (by omega) (by omega)
  have k17394 : (0 : Int32).toInt = 0 := rfl
  refine g_callS (n := 3) hk (j145_X12_in l D zt r g I A L z1 0 y17388 hIv) (SP.same _) (fun _ h => h) (gi_S (List.mem_cons_of_mem _ (List.mem_append_left _ (List.mem_of_getElem? (i := 1) rfl))) (List.mem_cons_of_mem _ (List.mem_append_left _ (List.mem_of_getElem? (i := 2) rfl))) (List.mem_cons_of_mem _ (List.mem_append_left _ (List.mem_of_getElem? (i := 3) rfl))) (gi_sub (fun w h => (List.mem_cons_of_mem _ (List.mem_append_right _ (List.mem_append_right _ (List.mem_append_left _ h))))) zg_j145_X12_in)) rfl rfl rfl (by decide +kernel) ⟨Nat.le_of_ble_eq_true rfl, Nat.le_of_ble_eq_true rfl⟩ rfl rfl (Nat.le_of_ble_eq_true rfl) ⟨Nat.le_of_ble_eq_true rfl, Nat.le_of_ble_eq_true rfl⟩ dX12_isPlace_10 (fun v ty' w' hp hk' => ?_)
  rcases hp with ⟨c17395, rfl, rfl⟩ | ⟨c17397, c17398, rfl, rfl⟩
  · skip
    have b17400l := Int32.le_toInt z1
    have b17400h := Int32.toInt_lt z1
    show GW κ 2 0 0 (wM r g I A L) 13 [(0, .ref (r 0)), (1, .int z1)] [.int 0]
    exact g_iret hk hR rfl (Or.inl ⟨rfl, rfl⟩) dX12_isPlace_13
  · skip
    show GW κ 2 0 0 (wM r g I A L) 13 [(0, .ref (r 0)), (1, .int z1)] [.int 1]
    exact g_iret hk hR rfl (Or.inr (⟨c17397, (by omega), (by omega), rfl, rfl⟩)) dX12_isPlace_13
