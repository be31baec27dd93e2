def wo_j136_X12_toldInt : List Cond := [Cond.methodLink RX12 191 yX12_goesOn, Cond.instanceMethod yX12_goesOn, Cond.selects RX12 yX12_goesOn yX12_goesOn, Cond.initialized RX12, Cond.methodLink RX12 212 yX12_bounded, Cond.instanceMethod yX12_bounded, Cond.selects RX12 yX12_bounded yX12_bounded, Cond.methodLink RX12 216 yX12_must, Cond.instanceMethod yX12_must, Cond.selects RX12 yX12_must yX12_must]
def wz_j136_X12_toldInt : List Cond := .code yX12_toldInt cX12_toldInt 4 (some .int) :: (wo_j136_X12_toldInt ++ (wz_j127_X12_goesOn ++ (wz_j133_X12_bounded ++ (wz_j131_X12_must ++ ([] : List Cond)))))
theorem zg_j136_X12_toldInt : ∀ w ∈ wz_j136_X12_toldInt, goodWord w = true := zg_cons rfl (zg_app (by decide +kernel) (zg_app zg_j127_X12_goesOn (zg_app zg_j133_X12_bounded (zg_app zg_j131_X12_must zg_nil))))
theorem zi_j136_X12_toldInt : ∀ w ∈ wz_j136_X12_toldInt, w ∈ lw_tbl := zi_cons zw_1631 (zi_app (zi_cons zw_1591 (zi_cons zw_1593 (zi_cons zw_54 (zi_cons zw_115 (zi_cons zw_1612 (zi_cons zw_1614 (zi_cons zw_59 (zi_cons zw_1620 (zi_cons zw_1622 (zi_cons zw_61 zi_nil)))))))))) (zi_app zi_j127_X12_goesOn (zi_app zi_j133_X12_bounded (zi_app zi_j131_X12_must zi_nil))))
set_option maxHeartbeats 4000000 in
set_option maxRecDepth 100000 in
theorem j136_X12_toldInt (l : Launch) (D : va_G) (zt : Nat × Nat × Nat × (Nat → Nat) × (Nat → Nat)) (r : Nat → Nat) (g : Nat → ClassId) (I : Nat → Int32) (A : Nat → Nat → Int32) (L : Nat → Nat → Int64) (z1 : Int32) (z2 : Int32) (hIv : IvM I A) : GM l D zt (tyM g) yX12_toldInt wz_j136_X12_toldInt ({ frames := 3, cells := 0, slots := 0, locals := 64 } : Room) [.ref (r 0), .int z1, .int z2] (wM r g I A L) (fun v _ w' => ∃ (I' : Nat → Int32) (A' : Nat → Nat → Int32) (L' : Nat → Nat → Int64), Md [4, 6, 7, 8, 9, 12, 13] I I' ∧ Md [] A A' ∧ IvM I' A' ∧ ∃ y0 : Int32, ((I 4).toInt ≤ (I' 4).toInt) ∧ ((I 6).toInt ≤ (I' 6).toInt) ∧ ((I 8).toInt ≤ 9 * (I' 8).toInt) ∧ ((I 4).toInt < (I' 4).toInt + (I' 6).toInt) ∧ (z1.toInt ≤ y0.toInt + 8589934592 * ((I' 6).toInt + (I' 8).toInt)) ∧ v = some (.int y0) ∧ w' = wM r g I' A' L') 0 0 := by
  refine GM.of (cc := cX12_toldInt) (maxL := 4) (ret := (some .int)) (own := RX12) (lv := [(0, .ref (r 0)), (1, .int z1), (2, .int z2)]) (by decide) rfl rfl (Nat.le_of_ble_eq_true rfl) rfl (fun κ sz hk hR hN => ?_)
  refine g_aload_n hk dX12_toldInt_0 rfl ?_
  refine g_callV (n := 0) hk (j127_X12_goesOn l D zt r g I A L  hIv) (SP.same _) (fun _ h => h) (gi_V (List.mem_cons_of_mem _ (List.mem_append_left _ (List.mem_of_getElem? (i := 0) rfl))) (List.mem_cons_of_mem _ (List.mem_append_left _ (List.mem_of_getElem? (i := 1) rfl))) (List.mem_cons_of_mem _ (List.mem_append_left _ (List.mem_of_getElem? (i := 2) rfl))) (List.mem_cons_of_mem _ (List.mem_append_left _ (List.mem_of_getElem? (i := 3) rfl))) (gi_sub (fun w h => (List.mem_cons_of_mem _ (List.mem_append_right _ (List.mem_append_left _ h)))) zg_j127_X12_goesOn)) rfl rfl rfl (by decide +kernel) ⟨Nat.le_of_ble_eq_true rfl, Nat.le_of_ble_eq_true rfl⟩ 0 rfl rfl rfl rfl (Nat.le_of_ble_eq_true rfl) ⟨Nat.le_of_ble_eq_true rfl, Nat.le_of_ble_eq_true rfl⟩ dX12_toldInt_1 (fun v ty' w' hp hk' => ?_)
  obtain ⟨I15483, A15483, L15483, hI15483, hA15483, hV15483, r15484, r15485, r15486, r15487, rfl, rfl⟩ := hp
  have f15488 := IvM_f4 hIv
  have f15489 := IvM_f4 hV15483
  have f15490 := IvM_f6 hIv
  have f15491 := IvM_f6 hV15483
  have f15492 := IvM_f8 hIv
  rw [show (I15483 8) = (I 8) from (hI15483 8 rfl)] at r15486
  show GW κ 4 0 0 (wM r g I15483 A15483 L15483) 4 [(0, .ref (r 0)), (1, .int z1), (2, .int z2)] []
  refine g_aload_n hk dX12_toldInt_4 rfl ?_
  refine g_iload_n hk dX12_toldInt_5 rfl ?_
  refine g_iload_n hk dX12_toldInt_6 rfl ?_
  refine g_callV (n := 2) hk (j133_X12_bounded l D zt r g I15483 A15483 L15483 z1 z2 hV15483) (SP.same _) (fun _ h => h) (gi_V (List.mem_cons_of_mem _ (List.mem_append_left _ (List.mem_of_getElem? (i := 4) rfl))) (List.mem_cons_of_mem _ (List.mem_append_left _ (List.mem_of_getElem? (i := 5) rfl))) (List.mem_cons_of_mem _ (List.mem_append_left _ (List.mem_of_getElem? (i := 6) rfl))) (List.mem_cons_of_mem _ (List.mem_append_left _ (List.mem_of_getElem? (i := 3) rfl))) (gi_sub (fun w h => (List.mem_cons_of_mem _ (List.mem_append_right _ (List.mem_append_right _ (List.mem_append_left _ h))))) zg_j133_X12_bounded)) rfl rfl rfl (by decide +kernel) ⟨Nat.le_of_ble_eq_true rfl, Nat.le_of_ble_eq_true rfl⟩ 0 rfl rfl rfl rfl (Nat.le_of_ble_eq_true rfl) ⟨Nat.le_of_ble_eq_true rfl, Nat.le_of_ble_eq_true rfl⟩ dX12_toldInt_7 (fun v ty' w' hp hk' => ?_)
  obtain ⟨I15494, A15494, L15494, hI15494, hA15494, hV15494, y15493, r15495, r15496, r15497, r15498, r15499, rfl, rfl⟩ := hp
  have f15500 := IvM_f4 hV15494
  have f15501 := IvM_f6 hV15494
  have f15502 := IvM_f8 hV15494
  rw [show (I15483 8) = (I 8) from (hI15483 8 rfl)] at r15497
  have b15503l := Int32.le_toInt z1
  have b15503h := Int32.toInt_lt z1
  have b15504l := Int32.le_toInt y15493
  have b15504h := Int32.toInt_lt y15493
  show GW κ 4 0 0 (wM r g I15494 A15494 L15494) 10 [(0, .ref (r 0)), (1, .int z1), (2, .int z2)] [.int y15493]
  refine g_istore_n (lv' := [(3, .int y15493), (0, .ref (r 0)), (1, .int z1), (2, .int z2)]) hk dX12_toldInt_10 (by decide) rfl ?_
  refine g_aload_n hk dX12_toldInt_11 rfl ?_
  refine g_iconst (v := 4) hk dX12_toldInt_12 (by decide) ?_
  have k15505 : (4 : Int32).toInt = 4 := rfl
  refine g_callV (n := 1) hk (j131_X12_must l D zt r g I15494 A15494 L15494 4 hV15494) (SP.same _) (fun _ h => h) (gi_V (List.mem_cons_of_mem _ (List.mem_append_left _ (List.mem_of_getElem? (i := 7) rfl))) (List.mem_cons_of_mem _ (List.mem_append_left _ (List.mem_of_getElem? (i := 8) rfl))) (List.mem_cons_of_mem _ (List.mem_append_left _ (List.mem_of_getElem? (i := 9) rfl))) (List.mem_cons_of_mem _ (List.mem_append_left _ (List.mem_of_getElem? (i := 3) rfl))) (gi_sub (fun w h => (List.mem_cons_of_mem _ (List.mem_append_right _ (List.mem_append_right _ (List.mem_append_right _ (List.mem_append_left _ h)))))) zg_j131_X12_must)) rfl rfl rfl (by decide +kernel) ⟨Nat.le_of_ble_eq_true rfl, Nat.le_of_ble_eq_true rfl⟩ 0 rfl rfl rfl rfl (Nat.le_of_ble_eq_true rfl) ⟨Nat.le_of_ble_eq_true rfl, Nat.le_of_ble_eq_true rfl⟩ dX12_toldInt_13 (fun v ty' w' hp hk' => ?_)
  obtain ⟨I15507, A15507, L15507, hI15507, hA15507, hV15507, r15508, r15509, r15510, r15511, r15512, rfl, rfl⟩ := hp
  have f15513 := IvM_f4 hV15507
  have f15514 := IvM_f6 hV15507
  rw [show (I15507 8) = (I15494 8) from (hI15507 8 rfl)] at r15510
  rw [show (A15494 2 (I15494 4).toNatClampNeg) = (A 2 (I15494 4).toNatClampNeg) from ((congrFun (hA15494 2 rfl) _).trans (congrFun (hA15483 2 rfl) _))] at r15512
  show GW κ 4 0 0 (wM r g I15507 A15507 L15507) 16 [(3, .int y15493), (0, .ref (r 0)), (1, .int z1), (2, .int z2)] []
  refine g_iload_n hk dX12_toldInt_16 rfl ?_
  exact g_iret hk hR rfl ⟨I15507, A15507, L15507, (show Md [4, 6, 7, 8, 9, 12, 13] I I15507 from (Md.tr (Md.tr (Md.tr Md.rf hI15483 rfl) hI15494 rfl) hI15507 rfl)), (show Md [] A A15507 from (Md.tr (Md.tr (Md.tr Md.rf hA15483 rfl) hA15494 rfl) hA15507 rfl)), hV15507, y15493, (by omega), (by omega), (by rw [show (I15507 8) = (I15494 8) from (hI15507 8 rfl)] <;> omega), (by omega), (by rw [show (I15507 8) = (I15494 8) from (hI15507 8 rfl)] <;> omega), rfl, rfl⟩ dX12_toldInt_17
def wo_j137_X12_toldWord : List Cond := [Cond.methodLink RX12 191 yX12_goesOn, Cond.instanceMethod yX12_goesOn, Cond.selects RX12 yX12_goesOn yX12_goesOn, Cond.initialized RX12, Cond.fieldLink RX12 161 "WarpDeskModel" "fault" "I", Cond.fieldLink RX12 20 "WarpDeskModel" "tKind" "[I", Cond.fieldLink RX12 164 "WarpDeskModel" "t" "I", Cond.methodLink RX12 185 yX12_fail, Cond.instanceMethod yX12_fail, Cond.selects RX12 yX12_fail yX12_fail, Cond.methodLink RX12 216 yX12_must, Cond.instanceMethod yX12_must, Cond.selects RX12 yX12_must yX12_must]
def wz_j137_X12_toldWord : List Cond := .code yX12_toldWord cX12_toldWord 4 (some .int) :: (wo_j137_X12_toldWord ++ (wsX120 ++ (wz_j127_X12_goesOn ++ (wz_j128_X12_fail ++ (wz_j131_X12_must ++ ([] : List Cond))))))
theorem zg_j137_X12_toldWord : ∀ w ∈ wz_j137_X12_toldWord, goodWord w = true := zg_cons rfl (zg_app (by decide +kernel) (zg_app zgU_wsX120 (zg_app zg_j127_X12_goesOn (zg_app zg_j128_X12_fail (zg_app zg_j131_X12_must zg_nil)))))
theorem zi_j137_X12_toldWord : ∀ w ∈ wz_j137_X12_toldWord, w ∈ lw_tbl := zi_cons zw_1635 (zi_app (zi_cons zw_1591 (zi_cons zw_1593 (zi_cons zw_54 (zi_cons zw_115 (zi_cons zw_1391 (zi_cons zw_1384 (zi_cons zw_1390 (zi_cons zw_1595 (zi_cons zw_1597 (zi_cons zw_55 (zi_cons zw_1620 (zi_cons zw_1622 (zi_cons zw_61 zi_nil))))))))))))) (zi_app inX12 (zi_app zi_j127_X12_goesOn (zi_app zi_j128_X12_fail (zi_app zi_j131_X12_must zi_nil)))))
set_option maxHeartbeats 4000000 in
set_option maxRecDepth 100000 in
theorem j137_X12_toldWord (l : Launch) (D : va_G) (zt : Nat × Nat × Nat × (Nat → Nat) × (Nat → Nat)) (r : Nat → Nat) (g : Nat → ClassId) (I : Nat → Int32) (A : Nat → Nat → Int32) (L : Nat → Nat → Int64) (z1 : Int32) (z2 : Int32) (hIv : IvM I A) : GM l D zt (tyM g) yX12_toldWord wz_j137_X12_toldWord ({ frames := 3, cells := 0, slots := 0, locals := 62 } : Room) [.ref (r 0), .int z1, .int z2] (wM r g I A L) (fun v _ w' => ∃ (I' : Nat → Int32) (A' : Nat → Nat → Int32) (L' : Nat → Nat → Int64), Md [4, 6, 7, 12] I I' ∧ Md [] A A' ∧ IvM I' A' ∧ ∃ y0 : Int32, ((I 4).toInt ≤ (I' 4).toInt) ∧ ((I 6).toInt ≤ (I' 6).toInt) ∧ ((I 8).toInt ≤ 9 * (I' 8).toInt) ∧ ((I 4).toInt < (I' 4).toInt + (I' 6).toInt) ∧ v = some (.int y0) ∧ w' = wM r g I' A' L') 0 0 := by
  refine GM.of (cc := cX12_toldWord) (maxL := 4) (ret := (some .int)) (own := RX12) (lv := [(0, .ref (r 0)), (1, .int z1), (2, .int z2)]) (by decide) rfl rfl (Nat.le_of_ble_eq_true rfl) rfl (fun κ sz hk hR hN => ?_)
  have hin12 : ∀ w ∈ u_ws RX12 TX12 55, w ∈ wz_j137_X12_toldWord := fun w h => (List.mem_cons_of_mem _ (List.mem_append_right _ (List.mem_append_left _ h)))
  refine g_aload_n hk dX12_toldWord_0 rfl ?_
  refine g_callV (n := 0) hk (j127_X12_goesOn l D zt r g I A L  hIv) (SP.same _) (fun _ h => h) (gi_V (List.mem_cons_of_mem _ (List.mem_append_left _ (List.mem_of_getElem? (i := 0) rfl))) (List.mem_cons_of_mem _ (List.mem_append_left _ (List.mem_of_getElem? (i := 1) rfl))) (List.mem_cons_of_mem _ (List.mem_append_left _ (List.mem_of_getElem? (i := 2) rfl))) (List.mem_cons_of_mem _ (List.mem_append_left _ (List.mem_of_getElem? (i := 3) rfl))) (gi_sub (fun w h => (List.mem_cons_of_mem _ (List.mem_append_right _ (List.mem_append_right _ (List.mem_append_left _ h))))) zg_j127_X12_goesOn)) rfl rfl rfl (by decide +kernel) ⟨Nat.le_of_ble_eq_true rfl, Nat.le_of_ble_eq_true rfl⟩ 0 rfl rfl rfl rfl (Nat.le_of_ble_eq_true rfl) ⟨Nat.le_of_ble_eq_true rfl, Nat.le_of_ble_eq_true rfl⟩ dX12_toldWord_1 (fun v ty' w' hp hk' => ?_)
  obtain ⟨I15550, A15550, L15550, hI15550, hA15550, hV15550, r15551, r15552, r15553, r15554, rfl, rfl⟩ := hp
  have f15555 := IvM_f4 hIv
  have f15556 := IvM_f4 hV15550
  have f15557 := IvM_f6 hIv
  have f15558 := IvM_f6 hV15550
  have f15559 := IvM_f8 hIv
  rw [show (I15550 8) = (I 8) from (hI15550 8 rfl)] at r15553
  show GW κ 4 0 0 (wM r g I15550 A15550 L15550) 4 [(0, .ref (r 0)), (1, .int z1), (2, .int z2)] []
  refine g_aload_n hk dX12_toldWord_4 rfl ?_
  refine gM_i6 (v := (I15550 6)) hk hin12 (List.mem_cons_of_mem _ (List.mem_append_left _ (List.mem_of_getElem? (i := 4) rfl))) dX12_toldWord_5 rfl ?_
  refine g_if_le (tgt := 15) (a := (I15550 6).toInt) hk dX12_toldWord_8 (by decide) rfl (fun c15560 => ?_) (fun c15560 => ?_)
  · skip
    refine g_aload_n hk dX12_toldWord_15 rfl ?_
    refine gM_r0_5 hk hin12 (List.mem_cons_of_mem _ (List.mem_append_left _ (List.mem_of_getElem? (i := 5) rfl))) dX12_toldWord_16 ?_
    refine g_aload_n hk dX12_toldWord_19 rfl ?_
    refine gM_i4 (v := (I15550 4)) hk hin12 (List.mem_cons_of_mem _ (List.mem_append_left _ (List.mem_of_getElem? (i := 6) rfl))) dX12_toldWord_20 rfl ?_
    refine lM_2 (v := (A 2 (I15550 4).toNatClampNeg)) hk (vp_in_iff.mpr ⟨by omega, by omega⟩) (congrFun (hA15550 2 rfl) _) dX12_toldWord_23 ?_
    refine g_iload_n hk dX12_toldWord_24 rfl ?_
    have b15561l := Int32.le_toInt (A 2 (I15550 4).toNatClampNeg)
    have b15561h := Int32.toInt_lt (A 2 (I15550 4).toNatClampNeg)
    have b15562l := Int32.le_toInt z1
    have b15562h := Int32.toInt_lt z1
    refine g_isub hk dX12_toldWord_25 ?_
    refine g_topi (fun y15563 ey15563 => ?_)
    have hy15563 := i32_sub0 ey15563
    refine g_istore_n (lv' := [(3, .int y15563), (0, .ref (r 0)), (1, .int z1), (2, .int z2)]) hk dX12_toldWord_26 (by decide) rfl ?_
    refine g_iload_n hk dX12_toldWord_27 rfl ?_
    have b15564l := Int32.le_toInt y15563
    have b15564h := Int32.toInt_lt y15563
    refine g_if_lt (tgt := 36) (a := y15563.toInt) hk dX12_toldWord_28 (by decide) rfl (fun c15565 => ?_) (fun c15565 => ?_)
    · skip
      refine g_aload_n hk dX12_toldWord_36 rfl ?_
      refine g_iconst (v := 1) hk dX12_toldWord_37 (by decide) ?_
      have k15566 : (1 : Int32).toInt = 1 := rfl
      refine g_callV (n := 1) hk (j128_X12_fail l D zt r g I15550 A15550 L15550 1 hV15550 (by decide) (by decide)) (SP.same _) (fun _ h => h) (gi_V (List.mem_cons_of_mem _ (List.mem_append_left _ (List.mem_of_getElem? (i := 7) rfl))) (List.mem_cons_of_mem _ (List.mem_append_left _ (List.mem_of_getElem? (i := 8) rfl))) (List.mem_cons_of_mem _ (List.mem_append_left _ (List.mem_of_getElem? (i := 9) rfl))) (List.mem_cons_of_mem _ (List.mem_append_left _ (List.mem_of_getElem? (i := 3) rfl))) (gi_sub (fun w h => (List.mem_cons_of_mem _ (List.mem_append_right _ (List.mem_append_right _ (List.mem_append_right _ (List.mem_append_left _ h)))))) zg_j128_X12_fail)) rfl rfl rfl (by decide +kernel) ⟨Nat.le_of_ble_eq_true rfl, Nat.le_of_ble_eq_true rfl⟩ 0 rfl rfl rfl rfl (Nat.le_of_ble_eq_true rfl) ⟨Nat.le_of_ble_eq_true rfl, Nat.le_of_ble_eq_true rfl⟩ dX12_toldWord_38 (fun v ty' w' hp hk' => ?_)
      obtain ⟨I15568, A15568, L15568, hI15568, hA15568, hV15568, r15569, r15570, r15571, rfl, rfl⟩ := hp
      have f15572 := IvM_f6 hV15568
      rw [show (I15550 8) = (I 8) from (hI15550 8 rfl), show (I15568 8) = (I 8) from ((hI15568 8 rfl).trans (hI15550 8 rfl))] at r15570
      show GW κ 4 0 0 (wM r g I15568 A15568 L15568) 41 [(3, .int y15563), (0, .ref (r 0)), (1, .int z1), (2, .int z2)] []
      refine g_aload_n hk dX12_toldWord_41 rfl ?_
      refine gM_i6 (v := (I15568 6)) hk hin12 (List.mem_cons_of_mem _ (List.mem_append_left _ (List.mem_of_getElem? (i := 4) rfl))) dX12_toldWord_42 rfl ?_
      refine g_if_ne (tgt := 52) (a := (I15568 6).toInt) hk dX12_toldWord_45 (by decide) rfl (fun c15573 => ?_) (fun c15573 => ?_)
      · skip
        refine g_aload_n hk dX12_toldWord_52 rfl ?_
        refine g_iconst (v := 4) hk dX12_toldWord_53 (by decide) ?_
        have k15574 : (4 : Int32).toInt = 4 := rfl
        refine g_callV (n := 1) hk (j131_X12_must l D zt r g I15568 A15568 L15568 4 hV15568) (SP.same _) (fun _ h => h) (gi_V (List.mem_cons_of_mem _ (List.mem_append_left _ (List.mem_of_getElem? (i := 10) rfl))) (List.mem_cons_of_mem _ (List.mem_append_left _ (List.mem_of_getElem? (i := 11) rfl))) (List.mem_cons_of_mem _ (List.mem_append_left _ (List.mem_of_getElem? (i := 12) rfl))) (List.mem_cons_of_mem _ (List.mem_append_left _ (List.mem_of_getElem? (i := 3) rfl))) (gi_sub (fun w h => (List.mem_cons_of_mem _ (List.mem_append_right _ (List.mem_append_right _ (List.mem_append_right _ (List.mem_append_right _ (List.mem_append_left _ h))))))) zg_j131_X12_must)) rfl rfl rfl (by decide +kernel) ⟨Nat.le_of_ble_eq_true rfl, Nat.le_of_ble_eq_true rfl⟩ 0 rfl rfl rfl rfl (Nat.le_of_ble_eq_true rfl) ⟨Nat.le_of_ble_eq_true rfl, Nat.le_of_ble_eq_true rfl⟩ dX12_toldWord_54 (fun v ty' w' hp hk' => ?_)
        obtain ⟨I15576, A15576, L15576, hI15576, hA15576, hV15576, r15577, r15578, r15579, r15580, r15581, rfl, rfl⟩ := hp
        have f15582 := IvM_f4 hV15576
        rw [show (I15568 4) = (I15550 4) from (hI15568 4 rfl)] at r15577
        have f15583 := IvM_f6 hV15576
        rw [show (I15568 8) = (I 8) from ((hI15568 8 rfl).trans (hI15550 8 rfl)), show (I15576 8) = (I 8) from ((hI15576 8 rfl).trans ((hI15568 8 rfl).trans (hI15550 8 rfl)))] at r15579
        rw [show (I15568 4) = (I15550 4) from (hI15568 4 rfl)] at r15580
        rw [show (A15568 2 (I15568 4).toNatClampNeg) = (A 2 (I15550 4).toNatClampNeg) from (by rw [show I15568 4 = (I15550 4) from (hI15568 4 rfl)]; exact ((congrFun (hA15568 2 rfl) _).trans (congrFun (hA15550 2 rfl) _)))] at r15581
        show GW κ 4 0 0 (wM r g I15576 A15576 L15576) 57 [(3, .int y15563), (0, .ref (r 0)), (1, .int z1), (2, .int z2)] []
        refine g_iload_n hk dX12_toldWord_57 rfl ?_
        exact g_iret hk hR rfl ⟨I15576, A15576, L15576, (show Md [4, 6, 7, 12] I I15576 from (Md.tr (Md.tr (Md.tr Md.rf hI15550 rfl) hI15568 rfl) hI15576 rfl)), (show Md [] A A15576 from (Md.tr (Md.tr (Md.tr Md.rf hA15550 rfl) hA15568 rfl) hA15576 rfl)), hV15576, y15563, (by omega), (by omega), (by rw [show (I15576 8) = (I 8) from ((hI15576 8 rfl).trans ((hI15568 8 rfl).trans (hI15550 8 rfl)))] <;> omega), (by omega), rfl, rfl⟩ dX12_toldWord_58
      · skip
        refine g_aload_n hk dX12_toldWord_48 rfl ?_
        refine g_callV (n := 0) hk (j127_X12_goesOn l D zt r g I15568 A15568 L15568  hV15568) (SP.same _) (fun _ h => h) (gi_V (List.mem_cons_of_mem _ (List.mem_append_left _ (List.mem_of_getElem? (i := 0) rfl))) (List.mem_cons_of_mem _ (List.mem_append_left _ (List.mem_of_getElem? (i := 1) rfl))) (List.mem_cons_of_mem _ (List.mem_append_left _ (List.mem_of_getElem? (i := 2) rfl))) (List.mem_cons_of_mem _ (List.mem_append_left _ (List.mem_of_getElem? (i := 3) rfl))) (gi_sub (fun w h => (List.mem_cons_of_mem _ (List.mem_append_right _ (List.mem_append_right _ (List.mem_append_left _ h))))) zg_j127_X12_goesOn)) rfl rfl rfl (by decide +kernel) ⟨Nat.le_of_ble_eq_true rfl, Nat.le_of_ble_eq_true rfl⟩ 0 rfl rfl rfl rfl (Nat.le_of_ble_eq_true rfl) ⟨Nat.le_of_ble_eq_true rfl, Nat.le_of_ble_eq_true rfl⟩ dX12_toldWord_49 (fun v ty' w' hp hk' => ?_)
        obtain ⟨I15585, A15585, L15585, hI15585, hA15585, hV15585, r15586, r15587, r15588, r15589, rfl, rfl⟩ := hp
        have f15590 := IvM_f4 hV15585
        rw [show (I15568 4) = (I15550 4) from (hI15568 4 rfl)] at r15586
        have f15591 := IvM_f6 hV15585
        rw [show (I15568 8) = (I 8) from ((hI15568 8 rfl).trans (hI15550 8 rfl)), show (I15585 8) = (I 8) from ((hI15585 8 rfl).trans ((hI15568 8 rfl).trans (hI15550 8 rfl)))] at r15588
        rw [show (I15568 4) = (I15550 4) from (hI15568 4 rfl)] at r15589
        show GW κ 4 0 0 (wM r g I15585 A15585 L15585) 52 [(3, .int y15563), (0, .ref (r 0)), (1, .int z1), (2, .int z2)] []
        refine g_aload_n hk dX12_toldWord_52 rfl ?_
        refine g_iconst (v := 4) hk dX12_toldWord_53 (by decide) ?_
        have k15592 : (4 : Int32).toInt = 4 := rfl
        refine g_callV (n := 1) hk (j131_X12_must l D zt r g I15585 A15585 L15585 4 hV15585) (SP.same _) (fun _ h => h) (gi_V (List.mem_cons_of_mem _ (List.mem_append_left _ (List.mem_of_getElem? (i := 10) rfl))) (List.mem_cons_of_mem _ (List.mem_append_left _ (List.mem_of_getElem? (i := 11) rfl))) (List.mem_cons_of_mem _ (List.mem_append_left _ (List.mem_of_getElem? (i := 12) rfl))) (List.mem_cons_of_mem _ (List.mem_append_left _ (List.mem_of_getElem? (i := 3) rfl))) (gi_sub (fun w h => (List.mem_cons_of_mem _ (List.mem_append_right _ (List.mem_append_right _ (List.mem_append_right _ (List.mem_append_right _ (List.mem_append_left _ h))))))) zg_j131_X12_must)) rfl rfl rfl (by decide +kernel) ⟨Nat.le_of_ble_eq_true rfl, Nat.le_of_ble_eq_true rfl⟩ 0 rfl rfl rfl rfl (Nat.le_of_ble_eq_true rfl) ⟨Nat.le_of_ble_eq_true rfl, Nat.le_of_ble_eq_true rfl⟩ dX12_toldWord_54 (fun v ty' w' hp hk' => ?_)
        obtain ⟨I15594, A15594, L15594, hI15594, hA15594, hV15594, r15595, r15596, r15597, r15598, r15599, rfl, rfl⟩ := hp
        have f15600 := IvM_f4 hV15594
        have f15601 := IvM_f6 hV15594
        rw [show (I15585 8) = (I 8) from ((hI15585 8 rfl).trans ((hI15568 8 rfl).trans (hI15550 8 rfl))), show (I15594 8) = (I 8) from ((hI15594 8 rfl).trans ((hI15585 8 rfl).trans ((hI15568 8 rfl).trans (hI15550 8 rfl))))] at r15597
        rw [show (A15585 2 (I15585 4).toNatClampNeg) = (A 2 (I15585 4).toNatClampNeg) from ((congrFun (hA15585 2 rfl) _).trans ((congrFun (hA15568 2 rfl) _).trans (congrFun (hA15550 2 rfl) _)))] at r15599
        show GW κ 4 0 0 (wM r g I15594 A15594 L15594) 57 [(3, .int y15563), (0, .ref (r 0)), (1, .int z1), (2, .int z2)] []
        refine g_iload_n hk dX12_toldWord_57 rfl ?_
        exact g_iret hk hR rfl ⟨I15594, A15594, L15594, (show Md [4, 6, 7, 12] I I15594 from (Md.tr (Md.tr (Md.tr (Md.tr Md.rf hI15550 rfl) hI15568 rfl) hI15585 rfl) hI15594 rfl)), (show Md [] A A15594 from (Md.tr (Md.tr (Md.tr (Md.tr Md.rf hA15550 rfl) hA15568 rfl) hA15585 rfl) hA15594 rfl)), hV15594, y15563, (by omega), (by omega), (by rw [show (I15594 8) = (I 8) from ((hI15594 8 rfl).trans ((hI15585 8 rfl).trans ((hI15568 8 rfl).trans (hI15550 8 rfl))))] <;> omega), (by omega), rfl, rfl⟩ dX12_toldWord_58
    · skip
      refine g_iload_n hk dX12_toldWord_31 rfl ?_
      refine g_iload_n hk dX12_toldWord_32 rfl ?_
      have b15602l := Int32.le_toInt z2
      have b15602h := Int32.toInt_lt z2
      refine g_icmp_lt (tgt := 41) (a := y15563.toInt) (b := z2.toInt) hk dX12_toldWord_33 (by decide) rfl rfl (fun c15603 => ?_) (fun c15603 => ?_)
      · skip
        refine g_aload_n hk dX12_toldWord_41 rfl ?_
        refine gM_i6 (v := (I15550 6)) hk hin12 (List.mem_cons_of_mem _ (List.mem_append_left _ (List.mem_of_getElem? (i := 4) rfl))) dX12_toldWord_42 rfl ?_
        refine g_if_ne (tgt := 52) (a := (I15550 6).toInt) hk dX12_toldWord_45 (by decide) rfl (fun z9 => absurd z9 (show ¬ ((I15550 6).toInt ≠ 0) from by omega)) (fun _ => ?_)
        refine g_aload_n hk dX12_toldWord_48 rfl ?_
        refine g_callV (n := 0) hk (j127_X12_goesOn l D zt r g I15550 A15550 L15550  hV15550) (SP.same _) (fun _ h => h) (gi_V (List.mem_cons_of_mem _ (List.mem_append_left _ (List.mem_of_getElem? (i := 0) rfl))) (List.mem_cons_of_mem _ (List.mem_append_left _ (List.mem_of_getElem? (i := 1) rfl))) (List.mem_cons_of_mem _ (List.mem_append_left _ (List.mem_of_getElem? (i := 2) rfl))) (List.mem_cons_of_mem _ (List.mem_append_left _ (List.mem_of_getElem? (i := 3) rfl))) (gi_sub (fun w h => (List.mem_cons_of_mem _ (List.mem_append_right _ (List.mem_append_right _ (List.mem_append_left _ h))))) zg_j127_X12_goesOn)) rfl rfl rfl (by decide +kernel) ⟨Nat.le_of_ble_eq_true rfl, Nat.le_of_ble_eq_true rfl⟩ 0 rfl rfl rfl rfl (Nat.le_of_ble_eq_true rfl) ⟨Nat.le_of_ble_eq_true rfl, Nat.le_of_ble_eq_true rfl⟩ dX12_toldWord_49 (fun v ty' w' hp hk' => ?_)
        obtain ⟨I15605, A15605, L15605, hI15605, hA15605, hV15605, r15606, r15607, r15608, r15609, rfl, rfl⟩ := hp
        have f15610 := IvM_f4 hV15605
        have f15611 := IvM_f6 hV15605
        rw [show (I15550 8) = (I 8) from (hI15550 8 rfl), show (I15605 8) = (I 8) from ((hI15605 8 rfl).trans (hI15550 8 rfl))] at r15608
        show GW κ 4 0 0 (wM r g I15605 A15605 L15605) 52 [(3, .int y15563), (0, .ref (r 0)), (1, .int z1), (2, .int z2)] []
        refine g_aload_n hk dX12_toldWord_52 rfl ?_
        refine g_iconst (v := 4) hk dX12_toldWord_53 (by decide) ?_
        have k15612 : (4 : Int32).toInt = 4 := rfl
        refine g_callV (n := 1) hk (j131_X12_must l D zt r g I15605 A15605 L15605 4 hV15605) (SP.same _) (fun _ h => h) (gi_V (List.mem_cons_of_mem _ (List.mem_append_left _ (List.mem_of_getElem? (i := 10) rfl))) (List.mem_cons_of_mem _ (List.mem_append_left _ (List.mem_of_getElem? (i := 11) rfl))) (List.mem_cons_of_mem _ (List.mem_append_left _ (List.mem_of_getElem? (i := 12) rfl))) (List.mem_cons_of_mem _ (List.mem_append_left _ (List.mem_of_getElem? (i := 3) rfl))) (gi_sub (fun w h => (List.mem_cons_of_mem _ (List.mem_append_right _ (List.mem_append_right _ (List.mem_append_right _ (List.mem_append_right _ (List.mem_append_left _ h))))))) zg_j131_X12_must)) rfl rfl rfl (by decide +kernel) ⟨Nat.le_of_ble_eq_true rfl, Nat.le_of_ble_eq_true rfl⟩ 0 rfl rfl rfl rfl (Nat.le_of_ble_eq_true rfl) ⟨Nat.le_of_ble_eq_true rfl, Nat.le_of_ble_eq_true rfl⟩ dX12_toldWord_54 (fun v ty' w' hp hk' => ?_)
        obtain ⟨I15614, A15614, L15614, hI15614, hA15614, hV15614, r15615, r15616, r15617, r15618, r15619, rfl, rfl⟩ := hp
        have f15620 := IvM_f4 hV15614
        have f15621 := IvM_f6 hV15614
        rw [show (I15605 8) = (I 8) from ((hI15605 8 rfl).trans (hI15550 8 rfl)), show (I15614 8) = (I 8) from ((hI15614 8 rfl).trans ((hI15605 8 rfl).trans (hI15550 8 rfl)))] at r15617
        rw [show (A15605 2 (I15605 4).toNatClampNeg) = (A 2 (I15605 4).toNatClampNeg) from ((congrFun (hA15605 2 rfl) _).trans (congrFun (hA15550 2 rfl) _))] at r15619
        show GW κ 4 0 0 (wM r g I15614 A15614 L15614) 57 [(3, .int y15563), (0, .ref (r 0)), (1, .int z1), (2, .int z2)] []
        refine g_iload_n hk dX12_toldWord_57 rfl ?_
        exact g_iret hk hR rfl ⟨I15614, A15614, L15614, (show Md [4, 6, 7, 12] I I15614 from (Md.tr (Md.tr (Md.tr Md.rf hI15550 rfl) hI15605 rfl) hI15614 rfl)), (show Md [] A A15614 from (Md.tr (Md.tr (Md.tr Md.rf hA15550 rfl) hA15605 rfl) hA15614 rfl)), hV15614, y15563, (by omega), (by omega), (by rw [show (I15614 8) = (I 8) from ((hI15614 8 rfl).trans ((hI15605 8 rfl).trans (hI15550 8 rfl)))] <;> omega), (by omega), rfl, rfl⟩ dX12_toldWord_58
      · skip
        refine g_aload_n hk dX12_toldWord_36 rfl ?_
        refine g_iconst (v := 1) hk dX12_toldWord_37 (by decide) ?_
        have k15622 : (1 : Int32).toInt = 1 := rfl
        refine g_callV (n := 1) hk (j128_X12_fail l D zt r g I15550 A15550 L15550 1 hV15550 (by decide) (by decide)) (SP.same _) (fun _ h => h) (gi_V (List.mem_cons_of_mem _ (List.mem_append_left _ (List.mem_of_getElem? (i := 7) rfl))) (List.mem_cons_of_mem _ (List.mem_append_left _ (List.mem_of_getElem? (i := 8) rfl))) (List.mem_cons_of_mem _ (List.mem_append_left _ (List.mem_of_getElem? (i := 9) rfl))) (List.mem_cons_of_mem _ (List.mem_append_left _ (List.mem_of_getElem? (i := 3) rfl))) (gi_sub (fun w h => (List.mem_cons_of_mem _ (List.mem_append_right _ (List.mem_append_right _ (List.mem_append_right _ (List.mem_append_left _ h)))))) zg_j128_X12_fail)) rfl rfl rfl (by decide +kernel) ⟨Nat.le_of_ble_eq_true rfl, Nat.le_of_ble_eq_true rfl⟩ 0 rfl rfl rfl rfl (Nat.le_of_ble_eq_true rfl) ⟨Nat.le_of_ble_eq_true rfl, Nat.le_of_ble_eq_true rfl⟩ dX12_toldWord_38 (fun v ty' w' hp hk' => ?_)
        obtain ⟨I15624, A15624, L15624, hI15624, hA15624, hV15624, r15625, r15626, r15627, rfl, rfl⟩ := hp
        have f15628 := IvM_f6 hV15624
        rw [show (I15550 8) = (I 8) from (hI15550 8 rfl), show (I15624 8) = (I 8) from ((hI15624 8 rfl).trans (hI15550 8 rfl))] at r15626
        show GW κ 4 0 0 (wM r g I15624 A15624 L15624) 41 [(3, .int y15563), (0, .ref (r 0)), (1, .int z1), (2, .int z2)] []
        refine g_aload_n hk dX12_toldWord_41 rfl ?_
        refine gM_i6 (v := (I15624 6)) hk hin12 (List.mem_cons_of_mem _ (List.mem_append_left _ (List.mem_of_getElem? (i := 4) rfl))) dX12_toldWord_42 rfl ?_
        refine g_if_ne (tgt := 52) (a := (I15624 6).toInt) hk dX12_toldWord_45 (by decide) rfl (fun c15629 => ?_) (fun c15629 => ?_)
        · skip
          refine g_aload_n hk dX12_toldWord_52 rfl ?_
          refine g_iconst (v := 4) hk dX12_toldWord_53 (by decide) ?_
          have k15630 : (4 : Int32).toInt = 4 := rfl
          refine g_callV (n := 1) hk (j131_X12_must l D zt r g I15624 A15624 L15624 4 hV15624) (SP.same _) (fun _ h => h) (gi_V (List.mem_cons_of_mem _ (List.mem_append_left _ (List.mem_of_getElem? (i := 10) rfl))) (List.mem_cons_of_mem _ (List.mem_append_left _ (List.mem_of_getElem? (i := 11) rfl))) (List.mem_cons_of_mem _ (List.mem_append_left _ (List.mem_of_getElem? (i := 12) rfl))) (List.mem_cons_of_mem _ (List.mem_append_left _ (List.mem_of_getElem? (i := 3) rfl))) (gi_sub (fun w h => (List.mem_cons_of_mem _ (List.mem_append_right _ (List.mem_append_right _ (List.mem_append_right _ (List.mem_append_right _ (List.mem_append_left _ h))))))) zg_j131_X12_must)) rfl rfl rfl (by decide +kernel) ⟨Nat.le_of_ble_eq_true rfl, Nat.le_of_ble_eq_true rfl⟩ 0 rfl rfl rfl rfl (Nat.le_of_ble_eq_true rfl) ⟨Nat.le_of_ble_eq_true rfl, Nat.le_of_ble_eq_true rfl⟩ dX12_toldWord_54 (fun v ty' w' hp hk' => ?_)
          obtain ⟨I15632, A15632, L15632, hI15632, hA15632, hV15632, r15633, r15634, r15635, r15636, r15637, rfl, rfl⟩ := hp
          have f15638 := IvM_f4 hV15632
          rw [show (I15624 4) = (I15550 4) from (hI15624 4 rfl)] at r15633
          have f15639 := IvM_f6 hV15632
          rw [show (I15624 8) = (I 8) from ((hI15624 8 rfl).trans (hI15550 8 rfl)), show (I15632 8) = (I 8) from ((hI15632 8 rfl).trans ((hI15624 8 rfl).trans (hI15550 8 rfl)))] at r15635
          rw [show (I15624 4) = (I15550 4) from (hI15624 4 rfl)] at r15636
          rw [show (A15624 2 (I15624 4).toNatClampNeg) = (A 2 (I15550 4).toNatClampNeg) from (by rw [show I15624 4 = (I15550 4) from (hI15624 4 rfl)]; exact ((congrFun (hA15624 2 rfl) _).trans (congrFun (hA15550 2 rfl) _)))] at r15637
          show GW κ 4 0 0 (wM r g I15632 A15632 L15632) 57 [(3, .int y15563), (0, .ref (r 0)), (1, .int z1), (2, .int z2)] []
          refine g_iload_n hk dX12_toldWord_57 rfl ?_
          exact g_iret hk hR rfl ⟨I15632, A15632, L15632, (show Md [4, 6, 7, 12] I I15632 from (Md.tr (Md.tr (Md.tr Md.rf hI15550 rfl) hI15624 rfl) hI15632 rfl)), (show Md [] A A15632 from (Md.tr (Md.tr (Md.tr Md.rf hA15550 rfl) hA15624 rfl) hA15632 rfl)), hV15632, y15563, (by omega), (by omega), (by rw [show (I15632 8) = (I 8) from ((hI15632 8 rfl).trans ((hI15624 8 rfl).trans (hI15550 8 rfl)))] <;> omega), (by omega), rfl, rfl⟩ dX12_toldWord_58
        · skip
          refine g_aload_n hk dX12_toldWord_48 rfl ?_
          refine g_callV (n := 0) hk (j127_X12_goesOn l D zt r g I15624 A15624 L15624  hV15624) (SP.same _) (fun _ h => h) (gi_V (List.mem_cons_of_mem _ (List.mem_append_left _ (List.mem_of_getElem? (i := 0) rfl))) (List.mem_cons_of_mem _ (List.mem_append_left _ (List.mem_of_getElem? (i := 1) rfl))) (List.mem_cons_of_mem _ (List.mem_append_left _ (List.mem_of_getElem? (i := 2) rfl))) (List.mem_cons_of_mem _ (List.mem_append_left _ (List.mem_of_getElem? (i := 3) rfl))) (gi_sub (fun w h => (List.mem_cons_of_mem _ (List.mem_append_right _ (List.mem_append_right _ (List.mem_append_left _ h))))) zg_j127_X12_goesOn)) rfl rfl rfl (by decide +kernel) ⟨Nat.le_of_ble_eq_true rfl, Nat.le_of_ble_eq_true rfl⟩ 0 rfl rfl rfl rfl (Nat.le_of_ble_eq_true rfl) ⟨Nat.le_of_ble_eq_true rfl, Nat.le_of_ble_eq_true rfl⟩ dX12_toldWord_49 (fun v ty' w' hp hk' => ?_)
          obtain ⟨I15641, A15641, L15641, hI15641, hA15641, hV15641, r15642, r15643, r15644, r15645, rfl, rfl⟩ := hp
          have f15646 := IvM_f4 hV15641
          rw [show (I15624 4) = (I15550 4) from (hI15624 4 rfl)] at r15642
          have f15647 := IvM_f6 hV15641
          rw [show (I15624 8) = (I 8) from ((hI15624 8 rfl).trans (hI15550 8 rfl)), show (I15641 8) = (I 8) from ((hI15641 8 rfl).trans ((hI15624 8 rfl).trans (hI15550 8 rfl)))] at r15644
          rw [show (I15624 4) = (I15550 4) from (hI15624 4 rfl)] at r15645
          show GW κ 4 0 0 (wM r g I15641 A15641 L15641) 52 [(3, .int y15563), (0, .ref (r 0)), (1, .int z1), (2, .int z2)] []
          refine g_aload_n hk dX12_toldWord_52 rfl ?_
          refine g_iconst (v := 4) hk dX12_toldWord_53 (by decide) ?_
          have k15648 : (4 : Int32).toInt = 4 := rfl
          refine g_callV (n := 1) hk (j131_X12_must l D zt r g I15641 A15641 L15641 4 hV15641) (SP.same _) (fun _ h => h) (gi_V (List.mem_cons_of_mem _ (List.mem_append_left _ (List.mem_of_getElem? (i := 10) rfl))) (List.mem_cons_of_mem _ (List.mem_append_left _ (List.mem_of_getElem? (i := 11) rfl))) (List.mem_cons_of_mem _ (List.mem_append_left _ (List.mem_of_getElem? (i := 12) rfl))) (List.mem_cons_of_mem _ (List.mem_append_left _ (List.mem_of_getElem? (i := 3) rfl))) (gi_sub (fun w h => (List.mem_cons_of_mem _ (List.mem_append_right _ (List.mem_append_right _ (List.mem_append_right _ (List.mem_append_right _ (List.mem_append_left _ h))))))) zg_j131_X12_must)) rfl rfl rfl (by decide +kernel) ⟨Nat.le_of_ble_eq_true rfl, Nat.le_of_ble_eq_true rfl⟩ 0 rfl rfl rfl rfl (Nat.le_of_ble_eq_true rfl) ⟨Nat.le_of_ble_eq_true rfl, Nat.le_of_ble_eq_true rfl⟩ dX12_toldWord_54 (fun v ty' w' hp hk' => ?_)
          obtain ⟨I15650, A15650, L15650, hI15650, hA15650, hV15650, r15651, r15652, r15653, r15654, r15655, rfl, rfl⟩ := hp
          have f15656 := IvM_f4 hV15650
          have f15657 := IvM_f6 hV15650
          rw [show (I15641 8) = (I 8) from ((hI15641 8 rfl).trans ((hI15624 8 rfl).trans (hI15550 8 rfl))), show (I15650 8) = (I 8) from ((hI15650 8 rfl).trans ((hI15641 8 rfl).trans ((hI15624 8 rfl).trans (hI15550 8 rfl))))] at r15653
          rw [show (A15641 2 (I15641 4).toNatClampNeg) = (A 2 (I15641 4).toNatClampNeg) from ((congrFun (hA15641 2 rfl) _).trans ((congrFun (hA15624 2 rfl) _).trans (congrFun (hA15550 2 rfl) _)))] at r15655
          show GW κ 4 0 0 (wM r g I15650 A15650 L15650) 57 [(3, .int y15563), (0, .ref (r 0)), (1, .int z1), (2, .int z2)] []
          refine g_iload_n hk dX12_toldWord_57 rfl ?_
          exact g_iret hk hR rfl ⟨I15650, A15650, L15650, (show Md [4, 6, 7, 12] I I15650 from (Md.tr (Md.tr (Md.tr (Md.tr Md.rf hI15550 rfl) hI15624 rfl) hI15641 rfl) hI15650 rfl)), (show Md [] A A15650 from (Md.tr (Md.tr (Md.tr (Md.tr Md.rf hA15550 rfl) hA15624 rfl) hA15641 rfl) hA15650 rfl)), hV15650, y15563, (by omega), (by omega), (by rw [show (I15650 8) = (I 8) from ((hI15650 8 rfl).trans ((hI15641 8 rfl).trans ((hI15624 8 rfl).trans (hI15550 8 rfl))))] <;> omega), (by omega), rfl, rfl⟩ dX12_toldWord_58
  · skip
    refine g_iconst (v := (-1)) hk dX12_toldWord_11 (by decide) ?_
    refine g_goto (tgt := 26) hk dX12_toldWord_12 (by decide) ?_
    refine g_istore_n (lv' := [(3, .int (-1)), (0, .ref (r 0)), (1, .int z1), (2, .int z2)]) hk dX12_toldWord_26 (by decide) rfl ?_
    refine g_iload_n hk dX12_toldWord_27 rfl ?_
    refine g_if_lt (tgt := 36) (a := (-1)) hk dX12_toldWord_28 (by decide) rfl (fun _ => ?_) (fun z9 => absurd (show ((-1) : Int) < (0 : Int) from by decide) z9)
    refine g_aload_n hk dX12_toldWord_36 rfl ?_
    refine g_iconst (v := 1) hk dX12_toldWord_37 (by decide) ?_
    have k15658 : (1 : Int32).toInt = 1 := rfl
    refine g_callV (n := 1) hk (j128_X12_fail l D zt r g I15550 A15550 L15550 1 hV15550 (by decide) (by decide)) (SP.same _) (fun _ h => h) (gi_V (List.mem_cons_of_mem _ (List.mem_append_left _ (List.mem_of_getElem? (i := 7) rfl))) (List.mem_cons_of_mem _ (List.mem_append_left _ (List.mem_of_getElem? (i := 8) rfl))) (List.mem_cons_of_mem _ (List.mem_append_left _ (List.mem_of_getElem? (i := 9) rfl))) (List.mem_cons_of_mem _ (List.mem_append_left _ (List.mem_of_getElem? (i := 3) rfl))) (gi_sub (fun w h => (List.mem_cons_of_mem _ (List.mem_append_right _ (List.mem_append_right _ (List.mem_append_right _ (List.mem_append_left _ h)))))) zg_j128_X12_fail)) rfl rfl rfl (by decide +kernel) ⟨Nat.le_of_ble_eq_true rfl, Nat.le_of_ble_eq_true rfl⟩ 0 rfl rfl rfl rfl (Nat.le_of_ble_eq_true rfl) ⟨Nat.le_of_ble_eq_true rfl, Nat.le_of_ble_eq_true rfl⟩ dX12_toldWord_38 (fun v ty' w' hp hk' => ?_)
    obtain ⟨I15660, A15660, L15660, hI15660, hA15660, hV15660, r15661, r15662, r15663, rfl, rfl⟩ := hp
    have f15664 := IvM_f6 hV15660
    rw [show (I15550 8) = (I 8) from (hI15550 8 rfl), show (I15660 8) = (I 8) from ((hI15660 8 rfl).trans (hI15550 8 rfl))] at r15662
    show GW κ 4 0 0 (wM r g I15660 A15660 L15660) 41 [(3, .int (-1)), (0, .ref (r 0)), (1, .int z1), (2, .int z2)] []
    refine g_aload_n hk dX12_toldWord_41 rfl ?_
    refine gM_i6 (v := (I15660 6)) hk hin12 (List.mem_cons_of_mem _ (List.mem_append_left _ (List.mem_of_getElem? (i := 4) rfl))) dX12_toldWord_42 rfl ?_
    refine g_if_ne (tgt := 52) (a := (I15660 6).toInt) hk dX12_toldWord_45 (by decide) rfl (fun c15665 => ?_) (fun c15665 => ?_)
    · skip
      refine g_aload_n hk dX12_toldWord_52 rfl ?_
      refine g_iconst (v := 4) hk dX12_toldWord_53 (by decide) ?_
      have k15666 : (4 : Int32).toInt = 4 := rfl
      refine g_callV (n := 1) hk (j131_X12_must l D zt r g I15660 A15660 L15660 4 hV15660) (SP.same _) (fun _ h => h) (gi_V (List.mem_cons_of_mem _ (List.mem_append_left _ (List.mem_of_getElem? (i := 10) rfl))) (List.mem_cons_of_mem _ (List.mem_append_left _ (List.mem_of_getElem? (i := 11) rfl))) (List.mem_cons_of_mem _ (List.mem_append_left _ (List.mem_of_getElem? (i := 12) rfl))) (List.mem_cons_of_mem _ (List.mem_append_left _ (List.mem_of_getElem? (i := 3) rfl))) (gi_sub (fun w h => (List.mem_cons_of_mem _ (List.mem_append_right _ (List.mem_append_right _ (List.mem_append_right _ (List.mem_append_right _ (List.mem_append_left _ h))))))) zg_j131_X12_must)) rfl rfl rfl (by decide +kernel) ⟨Nat.le_of_ble_eq_true rfl, Nat.le_of_ble_eq_true rfl⟩ 0 rfl rfl rfl rfl (Nat.le_of_ble_eq_true rfl) ⟨Nat.le_of_ble_eq_true rfl, Nat.le_of_ble_eq_true rfl⟩ dX12_toldWord_54 (fun v ty' w' hp hk' => ?_)
      obtain ⟨I15668, A15668, L15668, hI15668, hA15668, hV15668, r15669, r15670, r15671, r15672, r15673, rfl, rfl⟩ := hp
      have f15674 := IvM_f4 hV15668
      rw [show (I15660 4) = (I15550 4) from (hI15660 4 rfl)] at r15669
      have f15675 := IvM_f6 hV15668
      rw [show (I15660 8) = (I 8) from ((hI15660 8 rfl).trans (hI15550 8 rfl)), show (I15668 8) = (I 8) from ((hI15668 8 rfl).trans ((hI15660 8 rfl).trans (hI15550 8 rfl)))] at r15671
      rw [show (I15660 4) = (I15550 4) from (hI15660 4 rfl)] at r15672
      rw [show (A15660 2 (I15660 4).toNatClampNeg) = (A 2 (I15550 4).toNatClampNeg) from (by rw [show I15660 4 = (I15550 4) from (hI15660 4 rfl)]; exact ((congrFun (hA15660 2 rfl) _).trans (congrFun (hA15550 2 rfl) _)))] at r15673
      show GW κ 4 0 0 (wM r g I15668 A15668 L15668) 57 [(3, .int (-1)), (0, .ref (r 0)), (1, .int z1), (2, .int z2)] []
      refine g_iload_n hk dX12_toldWord_57 rfl ?_
      exact g_iret hk hR rfl ⟨I15668, A15668, L15668, (show Md [4, 6, 7, 12] I I15668 from (Md.tr (Md.tr (Md.tr Md.rf hI15550 rfl) hI15660 rfl) hI15668 rfl)), (show Md [] A A15668 from (Md.tr (Md.tr (Md.tr Md.rf hA15550 rfl) hA15660 rfl) hA15668 rfl)), hV15668, (-1), (by omega), (by omega), (by rw [show (I15668 8) = (I 8) from ((hI15668 8 rfl).trans ((hI15660 8 rfl).trans (hI15550 8 rfl)))] <;> omega), (by omega), rfl, rfl⟩ dX12_toldWord_58
    · skip
      refine g_aload_n hk dX12_toldWord_48 rfl ?_
      refine g_callV (n := 0) hk (j127_X12_goesOn l D zt r g I15660 A15660 L15660  hV15660) (SP.same _) (fun _ h => h) (gi_V (List.mem_cons_of_mem _ (List.mem_append_left _ (List.mem_of_getElem? (i := 0) rfl))) (List.mem_cons_of_mem _ (List.mem_append_left _ (List.mem_of_getElem? (i := 1) rfl))) (List.mem_cons_of_mem _ (List.mem_append_left _ (List.mem_of_getElem? (i := 2) rfl))) (List.mem_cons_of_mem _ (List.mem_append_left _ (List.mem_of_getElem? (i := 3) rfl))) (gi_sub (fun w h => (List.mem_cons_of_mem _ (List.mem_append_right _ (List.mem_append_right _ (List.mem_append_left _ h))))) zg_j127_X12_goesOn)) rfl rfl rfl (by decide +kernel) ⟨Nat.le_of_ble_eq_true rfl, Nat.le_of_ble_eq_true rfl⟩ 0 rfl rfl rfl rfl (Nat.le_of_ble_eq_true rfl) ⟨Nat.le_of_ble_eq_true rfl, Nat.le_of_ble_eq_true rfl⟩ dX12_toldWord_49 (fun v ty' w' hp hk' => ?_)
      obtain ⟨I15677, A15677, L15677, hI15677, hA15677, hV15677, r15678, r15679, r15680, r15681, rfl, rfl⟩ := hp
      have f15682 := IvM_f4 hV15677
      rw [show (I15660 4) = (I15550 4) from (hI15660 4 rfl)] at r15678
      have f15683 := IvM_f6 hV15677
      rw [show (I15660 8) = (I 8) from ((hI15660 8 rfl).trans (hI15550 8 rfl)), show (I15677 8) = (I 8) from ((hI15677 8 rfl).trans ((hI15660 8 rfl).trans (hI15550 8 rfl)))] at r15680
      rw [show (I15660 4) = (I15550 4) from (hI15660 4 rfl)] at r15681
      show GW κ 4 0 0 (wM r g I15677 A15677 L15677) 52 [(3, .int (-1)), (0, .ref (r 0)), (1, .int z1), (2, .int z2)] []
      refine g_aload_n hk dX12_toldWord_52 rfl ?_
      refine g_iconst (v := 4) hk dX12_toldWord_53 (by decide) ?_
      have k15684 : (4 : Int32).toInt = 4 := rfl
      refine g_callV (n := 1) hk (j131_X12_must l D zt r g I15677 A15677 L15677 4 hV15677) (SP.same _) (fun _ h => h) (gi_V (List.mem_cons_of_mem _ (List.mem_append_left _ (List.mem_of_getElem? (i := 10) rfl))) (List.mem_cons_of_mem _ (List.mem_append_left _ (List.mem_of_getElem? (i := 11) rfl))) (List.mem_cons_of_mem _ (List.mem_append_left _ (List.mem_of_getElem? (i := 12) rfl))) (List.mem_cons_of_mem _ (List.mem_append_left _ (List.mem_of_getElem? (i := 3) rfl))) (gi_sub (fun w h => (List.mem_cons_of_mem _ (List.mem_append_right _ (List.mem_append_right _ (List.mem_append_right _ (List.mem_append_right _ (List.mem_append_left _ h))))))) zg_j131_X12_must)) rfl rfl rfl (by decide +kernel) ⟨Nat.le_of_ble_eq_true rfl, Nat.le_of_ble_eq_true rfl⟩ 0 rfl rfl rfl rfl (Nat.le_of_ble_eq_true rfl) ⟨Nat.le_of_ble_eq_true rfl, Nat.le_of_ble_eq_true rfl⟩ dX12_toldWord_54 (fun v ty' w' hp hk' => ?_)
      obtain ⟨I15686, A15686, L15686, hI15686, hA15686, hV15686, r15687, r15688, r15689, r15690, r15691, rfl, rfl⟩ := hp
      have f15692 := IvM_f4 hV15686
      have f15693 := IvM_f6 hV15686
      rw [show (I15677 8) = (I 8) from ((hI15677 8 rfl).trans ((hI15660 8 rfl).trans (hI15550 8 rfl))), show (I15686 8) = (I 8) from ((hI15686 8 rfl).trans ((hI15677 8 rfl).trans ((hI15660 8 rfl).trans (hI15550 8 rfl))))] at r15689
      rw [show (A15677 2 (I15677 4).toNatClampNeg) = (A 2 (I15677 4).toNatClampNeg) from ((congrFun (hA15677 2 rfl) _).trans ((congrFun (hA15660 2 rfl) _).trans (congrFun (hA15550 2 rfl) _)))] at r15691
      show GW κ 4 0 0 (wM r g I15686 A15686 L15686) 57 [(3, .int (-1)), (0, .ref (r 0)), (1, .int z1), (2, .int z2)] []
      refine g_iload_n hk dX12_toldWord_57 rfl ?_
      exact g_iret hk hR rfl ⟨I15686, A15686, L15686, (show Md [4, 6, 7, 12] I I15686 from (Md.tr (Md.tr (Md.tr (Md.tr Md.rf hI15550 rfl) hI15660 rfl) hI15677 rfl) hI15686 rfl)), (show Md [] A A15686 from (Md.tr (Md.tr (Md.tr (Md.tr Md.rf hA15550 rfl) hA15660 rfl) hA15677 rfl) hA15686 rfl)), hV15686, (-1), (by omega), (by omega), (by rw [show (I15686 8) = (I 8) from ((hI15686 8 rfl).trans ((hI15677 8 rfl).trans ((hI15660 8 rfl).trans (hI15550 8 rfl))))] <;> omega), (by omega), rfl, rfl⟩ dX12_toldWord_58
def wo_j126_X12_tellOne : List Cond := [Cond.fieldLink RX12 20 "WarpDeskModel" "tKind" "[I", Cond.fieldLink RX12 164 "WarpDeskModel" "t" "I", Cond.methodLink RX12 191 yX12_goesOn, Cond.instanceMethod yX12_goesOn, Cond.selects RX12 yX12_goesOn yX12_goesOn, Cond.initialized RX12, Cond.fieldLink RX12 161 "WarpDeskModel" "fault" "I", Cond.methodLink RX12 219 yX12_tellSeries, Cond.instanceMethod yX12_tellSeries, Cond.selects RX12 yX12_tellSeries yX12_tellSeries, Cond.fieldLink RX12 49 "WarpDeskModel" "queries" "[I", Cond.fieldLink RX12 200 "WarpDeskModel" "side" "I", Cond.methodLink RX12 222 yX12_tellQuery, Cond.instanceMethod yX12_tellQuery, Cond.selects RX12 yX12_tellQuery yX12_tellQuery, Cond.methodLink RX12 185 yX12_fail, Cond.instanceMethod yX12_fail, Cond.selects RX12 yX12_fail yX12_fail, Cond.fieldLink RX12 58 "WarpDeskModel" "bandTold" "[I", Cond.methodLink RX12 225 yX12_toldInt, Cond.instanceMethod yX12_toldInt, Cond.selects RX12 yX12_toldInt yX12_toldInt, Cond.fieldLink RX12 61 "WarpDeskModel" "levelTold" "[I", Cond.methodLink RX12 228 yX12_toldWord, Cond.instanceMethod yX12_toldWord, Cond.selects RX12 yX12_toldWord yX12_toldWord, Cond.fieldLink RX12 64 "WarpDeskModel" "costTold" "[I", Cond.fieldLink RX12 67 "WarpDeskModel" "apartTold" "[I"]
def wz_j126_X12_tellOne : List Cond := .code yX12_tellOne cX12_tellOne 1 none :: (wo_j126_X12_tellOne ++ (wsX120 ++ (wz_j127_X12_goesOn ++ (wz_j129_X12_tellSeries ++ (wz_j135_X12_tellQuery ++ (wz_j128_X12_fail ++ (wz_j136_X12_toldInt ++ (wz_j137_X12_toldWord ++ ([] : List Cond)))))))))
theorem zg_j126_X12_tellOne : ∀ w ∈ wz_j126_X12_tellOne, goodWord w = true := zg_cons rfl (zg_app (by decide +kernel) (zg_app zgU_wsX120 (zg_app zg_j127_X12_goesOn (zg_app zg_j129_X12_tellSeries (zg_app zg_j135_X12_tellQuery (zg_app zg_j128_X12_fail (zg_app zg_j136_X12_toldInt (zg_app zg_j137_X12_toldWord zg_nil))))))))
theorem zi_j126_X12_tellOne : ∀ w ∈ wz_j126_X12_tellOne, w ∈ lw_tbl := zi_cons zw_1590 (zi_app (zi_cons zw_1384 (zi_cons zw_1390 (zi_cons zw_1591 (zi_cons zw_1593 (zi_cons zw_54 (zi_cons zw_115 (zi_cons zw_1391 (zi_cons zw_1599 (zi_cons zw_1601 (zi_cons zw_56 (zi_cons zw_1406 (zi_cons zw_1401 (zi_cons zw_1624 (zi_cons zw_1626 (zi_cons zw_62 (zi_cons zw_1595 (zi_cons zw_1597 (zi_cons zw_55 (zi_cons zw_1409 (zi_cons zw_1628 (zi_cons zw_1630 (zi_cons zw_63 (zi_cons zw_1410 (zi_cons zw_1632 (zi_cons zw_1634 (zi_cons zw_64 (zi_cons zw_1411 (zi_cons zw_1412 zi_nil)))))))))))))))))))))))))))) (zi_app inX12 (zi_app zi_j127_X12_goesOn (zi_app zi_j129_X12_tellSeries (zi_app zi_j135_X12_tellQuery (zi_app zi_j128_X12_fail (zi_app zi_j136_X12_toldInt (zi_app zi_j137_X12_toldWord zi_nil))))))))
set_option maxHeartbeats 4000000 in
set_option maxRecDepth 100000 in
theorem j126_X12_tellOne (l : Launch) (D : va_G) (zt : Nat × Nat × Nat × (Nat → Nat) × (Nat → Nat)) (r : Nat → Nat) (g : Nat → ClassId) (I : Nat → Int32) (A : Nat → Nat → Int32) (L : Nat → Nat → Int64) (hIv : IvM I A) (hp0 : (I 15).toInt + (I 16).toInt = 1) : GM l D zt (tyM g) yX12_tellOne wz_j126_X12_tellOne ({ frames := 5, cells := 0, slots := 0, locals := 109 } : Room) [.ref (r 0)] (wM r g I A L) (fun v _ w' => ∃ (I' : Nat → Int32) (A' : Nat → Nat → Int32) (L' : Nat → Nat → Int64), Md [4, 6, 7, 8, 9, 11, 12, 13, 17] I I' ∧ Md [8, 9, 10, 11, 12, 13, 14, 15, 16] A A' ∧ IvM I' A' ∧ ((I 4).toInt ≤ (I' 4).toInt) ∧ ((I 6).toInt ≤ (I' 6).toInt) ∧ ((I 8).toInt ≤ 9 * (I' 8).toInt) ∧ ((I 4).toInt < (I' 4).toInt + (I' 6).toInt) ∧ v = none ∧ w' = wM r g I' A' L') 0 0 := by
  refine GM.of (cc := cX12_tellOne) (maxL := 1) (ret := none) (own := RX12) (lv := [(0, .ref (r 0))]) (by decide) rfl rfl (Nat.le_of_ble_eq_true rfl) rfl (fun κ sz hk hR hN => ?_)
  have hin12 : ∀ w ∈ u_ws RX12 TX12 55, w ∈ wz_j126_X12_tellOne := fun w h => (List.mem_cons_of_mem _ (List.mem_append_right _ (List.mem_append_left _ h)))
  refine g_aload_n hk dX12_tellOne_0 rfl ?_
  refine gM_r0_5 hk hin12 (List.mem_cons_of_mem _ (List.mem_append_left _ (List.mem_of_getElem? (i := 0) rfl))) dX12_tellOne_1 ?_
  refine g_aload_n hk dX12_tellOne_4 rfl ?_
  refine gM_i4 (v := (I 4)) hk hin12 (List.mem_cons_of_mem _ (List.mem_append_left _ (List.mem_of_getElem? (i := 1) rfl))) dX12_tellOne_5 rfl ?_
  have f4655 := IvM_f4 hIv
  refine lM_2 (v := (A 2 (I 4).toNatClampNeg)) hk (vp_in_iff.mpr ⟨by omega, by omega⟩) rfl dX12_tellOne_8 ?_
  by_cases c4656 : (A 2 (I 4).toNatClampNeg).toInt = 20
  · refine g_tabIn (tgt := 48) (a := 20) hk dX12_tellOne_9 c4656 (by decide) (by decide) rfl (by decide) ?_
    refine g_aload_n hk dX12_tellOne_48 rfl ?_
    refine g_callV (n := 0) hk (j127_X12_goesOn l D zt r g I A L  hIv) (SP.same _) (fun _ h => h) (gi_V (List.mem_cons_of_mem _ (List.mem_append_left _ (List.mem_of_getElem? (i := 2) rfl))) (List.mem_cons_of_mem _ (List.mem_append_left _ (List.mem_of_getElem? (i := 3) rfl))) (List.mem_cons_of_mem _ (List.mem_append_left _ (List.mem_of_getElem? (i := 4) rfl))) (List.mem_cons_of_mem _ (List.mem_append_left _ (List.mem_of_getElem? (i := 5) rfl))) (gi_sub (fun w h => (List.mem_cons_of_mem _ (List.mem_append_right _ (List.mem_append_right _ (List.mem_append_left _ h))))) zg_j127_X12_goesOn)) rfl rfl rfl (by decide +kernel) ⟨Nat.le_of_ble_eq_true rfl, Nat.le_of_ble_eq_true rfl⟩ 0 rfl rfl rfl rfl (Nat.le_of_ble_eq_true rfl) ⟨Nat.le_of_ble_eq_true rfl, Nat.le_of_ble_eq_true rfl⟩ dX12_tellOne_49 (fun v ty' w' hp hk' => ?_)
    obtain ⟨I4677, A4677, L4677, hI4677, hA4677, hV4677, r4678, r4679, r4680, r4681, rfl, rfl⟩ := hp
    have f4682 := IvM_f4 hV4677
    have f4683 := IvM_f6 hIv
    have f4684 := IvM_f6 hV4677
    have f4685 := IvM_f8 hIv
    rw [show (I4677 8) = (I 8) from (hI4677 8 rfl)] at r4680
    show GW κ 1 0 0 (wM r g I4677 A4677 L4677) 52 [(0, .ref (r 0))] []
    refine g_aload_n hk dX12_tellOne_52 rfl ?_
    refine gM_i6 (v := (I4677 6)) hk hin12 (List.mem_cons_of_mem _ (List.mem_append_left _ (List.mem_of_getElem? (i := 6) rfl))) dX12_tellOne_53 rfl ?_
    refine g_if_ne (tgt := 190) (a := (I4677 6).toInt) hk dX12_tellOne_56 (by decide) rfl (fun c4686 => ?_) (fun c4686 => ?_)
    · skip
      exact g_vret hk hR ⟨I4677, A4677, L4677, (show Md [4, 6, 7, 8, 9, 11, 12, 13, 17] I I4677 from (Md.tr Md.rf hI4677 rfl)), (show Md [8, 9, 10, 11, 12, 13, 14, 15, 16] A A4677 from (Md.tr Md.rf hA4677 rfl)), hV4677, (by omega), (by omega), (by rw [show (I4677 8) = (I 8) from (hI4677 8 rfl)] <;> omega), (by omega), rfl, rfl⟩ dX12_tellOne_190
    · skip
      refine g_aload_n hk dX12_tellOne_59 rfl ?_
      refine g_callV (n := 0) hk (j129_X12_tellSeries l D zt r g I4677 A4677 L4677  hV4677) (SP.same _) (fun _ h => h) (gi_V (List.mem_cons_of_mem _ (List.mem_append_left _ (List.mem_of_getElem? (i := 7) rfl))) (List.mem_cons_of_mem _ (List.mem_append_left _ (List.mem_of_getElem? (i := 8) rfl))) (List.mem_cons_of_mem _ (List.mem_append_left _ (List.mem_of_getElem? (i := 9) rfl))) (List.mem_cons_of_mem _ (List.mem_append_left _ (List.mem_of_getElem? (i := 5) rfl))) (gi_sub (fun w h => (List.mem_cons_of_mem _ (List.mem_append_right _ (List.mem_append_right _ (List.mem_append_right _ (List.mem_append_left _ h)))))) zg_j129_X12_tellSeries)) rfl rfl rfl (by decide +kernel) ⟨Nat.le_of_ble_eq_true rfl, Nat.le_of_ble_eq_true rfl⟩ 0 rfl rfl rfl rfl (Nat.le_of_ble_eq_true rfl) ⟨Nat.le_of_ble_eq_true rfl, Nat.le_of_ble_eq_true rfl⟩ dX12_tellOne_60 (fun v ty' w' hp hk' => ?_)
      obtain ⟨I6219, A6219, L6219, hI6219, hA6219, hV6219, r6220, r6221, r6222, rfl, rfl⟩ := hp
      have f6223 := IvM_f4 hV6219
      have f6224 := IvM_f6 hV6219
      have f6225 := IvM_f8 hV6219
      rw [show (I4677 8) = (I 8) from (hI4677 8 rfl)] at r6222
      show GW κ 1 0 0 (wM r g I6219 A6219 L6219) 63 [(0, .ref (r 0))] []
      refine g_goto (tgt := 190) hk dX12_tellOne_63 (by decide) ?_
      exact g_vret hk hR ⟨I6219, A6219, L6219, (show Md [4, 6, 7, 8, 9, 11, 12, 13, 17] I I6219 from (Md.tr (Md.tr Md.rf hI4677 rfl) hI6219 rfl)), (show Md [8, 9, 10, 11, 12, 13, 14, 15, 16] A A6219 from (Md.tr (Md.tr Md.rf hA4677 rfl) hA6219 rfl)), hV6219, (by omega), (by omega), (by omega), (by omega), rfl, rfl⟩ dX12_tellOne_190
  by_cases c6226 : (A 2 (I 4).toNatClampNeg).toInt = 21
  · refine g_tabIn (tgt := 66) (a := 21) hk dX12_tellOne_9 c6226 (by decide) (by decide) rfl (by decide) ?_
    refine g_aload_n hk dX12_tellOne_66 rfl ?_
    refine gM_r0_28 hk hin12 (List.mem_cons_of_mem _ (List.mem_append_left _ (List.mem_of_getElem? (i := 10) rfl))) dX12_tellOne_67 ?_
    refine g_aload_n hk dX12_tellOne_70 rfl ?_
    refine gM_i16 (v := (I 16)) hk hin12 (List.mem_cons_of_mem _ (List.mem_append_left _ (List.mem_of_getElem? (i := 11) rfl))) dX12_tellOne_71 rfl ?_
    have f6227 := IvM_f16 hIv
    by_cases c6228 : (I 16).toInt = 0
    · have ec6228 : (I 16) = 0 := Int32.toInt_inj.mp c6228
      rw [ec6228]
      show GW κ 1 0 0 (wM r g I A L) 74 [(0, .ref (r 0))] [.int 0, .ref (r 11)]
      refine lM_10 (v := (A 10 0)) hk (vp_in_iff.mpr ⟨by decide, by decide⟩) rfl dX12_tellOne_74 ?_
      have f6229 := IvM_s10_0 hIv
      refine g_iconst (v := 5) hk dX12_tellOne_75 (by decide) ?_
      refine g_icmp_ne (tgt := 84) (a := (A 10 0).toInt) (b := 5) hk dX12_tellOne_76 (by decide) rfl rfl (fun c6230 => ?_) (fun c6230 => ?_)
      · skip
        refine g_aload_n hk dX12_tellOne_84 rfl ?_
        refine gM_i6 (v := (I 6)) hk hin12 (List.mem_cons_of_mem _ (List.mem_append_left _ (List.mem_of_getElem? (i := 6) rfl))) dX12_tellOne_85 rfl ?_
        have f6231 := IvM_f6 hIv
        refine g_if_ne (tgt := 95) (a := (I 6).toInt) hk dX12_tellOne_88 (by decide) rfl (fun c6232 => ?_) (fun c6232 => ?_)
        · skip
          refine g_aload_n hk dX12_tellOne_95 rfl ?_
          refine gM_i6 (v := (I 6)) hk hin12 (List.mem_cons_of_mem _ (List.mem_append_left _ (List.mem_of_getElem? (i := 6) rfl))) dX12_tellOne_96 rfl ?_
          refine g_if_ne (tgt := 190) (a := (I 6).toInt) hk dX12_tellOne_99 (by decide) rfl (fun _ => ?_) (fun z9 => absurd (show (I 6).toInt ≠ 0 from by omega) z9)
          have f6233 := IvM_f8 hIv
          exact g_vret hk hR ⟨I, A, L, (show Md [4, 6, 7, 8, 9, 11, 12, 13, 17] I I from Md.rf), (show Md [8, 9, 10, 11, 12, 13, 14, 15, 16] A A from Md.rf), hIv, (by omega), (by omega), (by omega), (by omega), rfl, rfl⟩ dX12_tellOne_190
        · skip
          refine g_aload_n hk dX12_tellOne_91 rfl ?_
          refine g_callV (n := 0) hk (j127_X12_goesOn l D zt r g I A L  hIv) (SP.same _) (fun _ h => h) (gi_V (List.mem_cons_of_mem _ (List.mem_append_left _ (List.mem_of_getElem? (i := 2) rfl))) (List.mem_cons_of_mem _ (List.mem_append_left _ (List.mem_of_getElem? (i := 3) rfl))) (List.mem_cons_of_mem _ (List.mem_append_left _ (List.mem_of_getElem? (i := 4) rfl))) (List.mem_cons_of_mem _ (List.mem_append_left _ (List.mem_of_getElem? (i := 5) rfl))) (gi_sub (fun w h => (List.mem_cons_of_mem _ (List.mem_append_right _ (List.mem_append_right _ (List.mem_append_left _ h))))) zg_j127_X12_goesOn)) rfl rfl rfl (by decide +kernel) ⟨Nat.le_of_ble_eq_true rfl, Nat.le_of_ble_eq_true rfl⟩ 0 rfl rfl rfl rfl (Nat.le_of_ble_eq_true rfl) ⟨Nat.le_of_ble_eq_true rfl, Nat.le_of_ble_eq_true rfl⟩ dX12_tellOne_92 (fun v ty' w' hp hk' => ?_)
          obtain ⟨I6235, A6235, L6235, hI6235, hA6235, hV6235, r6236, r6237, r6238, r6239, rfl, rfl⟩ := hp
          have f6240 := IvM_f4 hV6235
          have f6241 := IvM_f6 hV6235
          have f6242 := IvM_f8 hIv
          rw [show (I6235 8) = (I 8) from (hI6235 8 rfl)] at r6238
          show GW κ 1 0 0 (wM r g I6235 A6235 L6235) 95 [(0, .ref (r 0))] []
          refine g_aload_n hk dX12_tellOne_95 rfl ?_
          refine gM_i6 (v := (I6235 6)) hk hin12 (List.mem_cons_of_mem _ (List.mem_append_left _ (List.mem_of_getElem? (i := 6) rfl))) dX12_tellOne_96 rfl ?_
          refine g_if_ne (tgt := 190) (a := (I6235 6).toInt) hk dX12_tellOne_99 (by decide) rfl (fun c6243 => ?_) (fun c6243 => ?_)
          · skip
            exact g_vret hk hR ⟨I6235, A6235, L6235, (show Md [4, 6, 7, 8, 9, 11, 12, 13, 17] I I6235 from (Md.tr Md.rf hI6235 rfl)), (show Md [8, 9, 10, 11, 12, 13, 14, 15, 16] A A6235 from (Md.tr Md.rf hA6235 rfl)), hV6235, (by omega), (by omega), (by rw [show (I6235 8) = (I 8) from (hI6235 8 rfl)] <;> omega), (by omega), rfl, rfl⟩ dX12_tellOne_190
          · skip
            refine g_aload_n hk dX12_tellOne_102 rfl ?_
            have f15385 := IvM_f15 hIv
            have f15386 := IvM_s10_1 hIv
            refine g_callV (n := 0) hk (j135_X12_tellQuery l D zt r g I6235 A6235 L6235  hV6235 (by first | (rw [show (I6235 15) = (I 15) from (hI6235 15 rfl), show (I6235 16) = (I 16) from (hI6235 16 rfl)] <;> omega) | omega) (by first | (rw [show (I6235 16) = (I 16) from (hI6235 16 rfl), show (A6235 10 0) = (A 10 0) from (congrFun (hA6235 10 rfl) _)] <;> omega) | omega) (by first | (rw [show (I6235 16) = (I 16) from (hI6235 16 rfl), show (A6235 10 1) = (A 10 1) from (congrFun (hA6235 10 rfl) _)] <;> omega) | omega)) (SP.same _) (fun _ h => h) (gi_V (List.mem_cons_of_mem _ (List.mem_append_left _ (List.mem_of_getElem? (i := 12) rfl))) (List.mem_cons_of_mem _ (List.mem_append_left _ (List.mem_of_getElem? (i := 13) rfl))) (List.mem_cons_of_mem _ (List.mem_append_left _ (List.mem_of_getElem? (i := 14) rfl))) (List.mem_cons_of_mem _ (List.mem_append_left _ (List.mem_of_getElem? (i := 5) rfl))) (gi_sub (fun w h => (List.mem_cons_of_mem _ (List.mem_append_right _ (List.mem_append_right _ (List.mem_append_right _ (List.mem_append_right _ (List.mem_append_left _ h))))))) zg_j135_X12_tellQuery)) rfl rfl rfl (by decide +kernel) ⟨Nat.le_of_ble_eq_true rfl, Nat.le_of_ble_eq_true rfl⟩ 0 rfl rfl rfl rfl (Nat.le_of_ble_eq_true rfl) ⟨Nat.le_of_ble_eq_true rfl, Nat.le_of_ble_eq_true rfl⟩ dX12_tellOne_103 (fun v ty' w' hp hk' => ?_)
            obtain ⟨I15388, A15388, L15388, hI15388, hA15388, hV15388, r15389, r15390, r15391, rfl, rfl⟩ := hp
            have f15392 := IvM_f4 hV15388
            have f15393 := IvM_f6 hV15388
            have f15394 := IvM_f8 hV15388
            rw [show (I6235 8) = (I 8) from (hI6235 8 rfl)] at r15391
            show GW κ 1 0 0 (wM r g I15388 A15388 L15388) 106 [(0, .ref (r 0))] []
            refine g_goto (tgt := 190) hk dX12_tellOne_106 (by decide) ?_
            exact g_vret hk hR ⟨I15388, A15388, L15388, (show Md [4, 6, 7, 8, 9, 11, 12, 13, 17] I I15388 from (Md.tr (Md.tr Md.rf hI6235 rfl) hI15388 rfl)), (show Md [8, 9, 10, 11, 12, 13, 14, 15, 16] A A15388 from (Md.tr (Md.tr Md.rf hA6235 rfl) hA15388 rfl)), hV15388, (by omega), (by omega), (by omega), (by omega), rfl, rfl⟩ dX12_tellOne_190
      · skip
        refine g_aload_n hk dX12_tellOne_79 rfl ?_
        refine g_iconst (v := 2) hk dX12_tellOne_80 (by decide) ?_
        have k15395 : (2 : Int32).toInt = 2 := rfl
        refine g_callV (n := 1) hk (j128_X12_fail l D zt r g I A L 2 hIv (by decide) (by decide)) (SP.same _) (fun _ h => h) (gi_V (List.mem_cons_of_mem _ (List.mem_append_left _ (List.mem_of_getElem? (i := 15) rfl))) (List.mem_cons_of_mem _ (List.mem_append_left _ (List.mem_of_getElem? (i := 16) rfl))) (List.mem_cons_of_mem _ (List.mem_append_left _ (List.mem_of_getElem? (i := 17) rfl))) (List.mem_cons_of_mem _ (List.mem_append_left _ (List.mem_of_getElem? (i := 5) rfl))) (gi_sub (fun w h => (List.mem_cons_of_mem _ (List.mem_append_right _ (List.mem_append_right _ (List.mem_append_right _ (List.mem_append_right _ (List.mem_append_right _ (List.mem_append_left _ h)))))))) zg_j128_X12_fail)) rfl rfl rfl (by decide +kernel) ⟨Nat.le_of_ble_eq_true rfl, Nat.le_of_ble_eq_true rfl⟩ 0 rfl rfl rfl rfl (Nat.le_of_ble_eq_true rfl) ⟨Nat.le_of_ble_eq_true rfl, Nat.le_of_ble_eq_true rfl⟩ dX12_tellOne_81 (fun v ty' w' hp hk' => ?_)
        obtain ⟨I15397, A15397, L15397, hI15397, hA15397, hV15397, r15398, r15399, r15400, rfl, rfl⟩ := hp
        have f15401 := IvM_f6 hIv
        have f15402 := IvM_f6 hV15397
        have f15403 := IvM_f8 hIv
        rw [show (I15397 8) = (I 8) from (hI15397 8 rfl)] at r15399
        show GW κ 1 0 0 (wM r g I15397 A15397 L15397) 84 [(0, .ref (r 0))] []
        refine g_aload_n hk dX12_tellOne_84 rfl ?_
        refine gM_i6 (v := (I15397 6)) hk hin12 (List.mem_cons_of_mem _ (List.mem_append_left _ (List.mem_of_getElem? (i := 6) rfl))) dX12_tellOne_85 rfl ?_
        refine g_if_ne (tgt := 95) (a := (I15397 6).toInt) hk dX12_tellOne_88 (by decide) rfl (fun c15404 => ?_) (fun c15404 => ?_)
        · skip
          refine g_aload_n hk dX12_tellOne_95 rfl ?_
          refine gM_i6 (v := (I15397 6)) hk hin12 (List.mem_cons_of_mem _ (List.mem_append_left _ (List.mem_of_getElem? (i := 6) rfl))) dX12_tellOne_96 rfl ?_
          refine g_if_ne (tgt := 190) (a := (I15397 6).toInt) hk dX12_tellOne_99 (by decide) rfl (fun _ => ?_) (fun z9 => absurd (show (I15397 6).toInt ≠ 0 from by omega) z9)
          exact g_vret hk hR ⟨I15397, A15397, L15397, (show Md [4, 6, 7, 8, 9, 11, 12, 13, 17] I I15397 from (Md.tr Md.rf hI15397 rfl)), (show Md [8, 9, 10, 11, 12, 13, 14, 15, 16] A A15397 from (Md.tr Md.rf hA15397 rfl)), hV15397, (by rw [show (I15397 4) = (I 4) from (hI15397 4 rfl)] <;> omega), (by omega), (by rw [show (I15397 8) = (I 8) from (hI15397 8 rfl)] <;> omega), (by rw [show (I15397 4) = (I 4) from (hI15397 4 rfl)] <;> omega), rfl, rfl⟩ dX12_tellOne_190
        · skip
          refine g_aload_n hk dX12_tellOne_91 rfl ?_
          refine g_callV (n := 0) hk (j127_X12_goesOn l D zt r g I15397 A15397 L15397  hV15397) (SP.same _) (fun _ h => h) (gi_V (List.mem_cons_of_mem _ (List.mem_append_left _ (List.mem_of_getElem? (i := 2) rfl))) (List.mem_cons_of_mem _ (List.mem_append_left _ (List.mem_of_getElem? (i := 3) rfl))) (List.mem_cons_of_mem _ (List.mem_append_left _ (List.mem_of_getElem? (i := 4) rfl))) (List.mem_cons_of_mem _ (List.mem_append_left _ (List.mem_of_getElem? (i := 5) rfl))) (gi_sub (fun w h => (List.mem_cons_of_mem _ (List.mem_append_right _ (List.mem_append_right _ (List.mem_append_left _ h))))) zg_j127_X12_goesOn)) rfl rfl rfl (by decide +kernel) ⟨Nat.le_of_ble_eq_true rfl, Nat.le_of_ble_eq_true rfl⟩ 0 rfl rfl rfl rfl (Nat.le_of_ble_eq_true rfl) ⟨Nat.le_of_ble_eq_true rfl, Nat.le_of_ble_eq_true rfl⟩ dX12_tellOne_92 (fun v ty' w' hp hk' => ?_)
          obtain ⟨I15406, A15406, L15406, hI15406, hA15406, hV15406, r15407, r15408, r15409, r15410, rfl, rfl⟩ := hp
          have f15411 := IvM_f4 hV15406
          rw [show (I15397 4) = (I 4) from (hI15397 4 rfl)] at r15407
          have f15412 := IvM_f6 hV15406
          rw [show (I15397 8) = (I 8) from (hI15397 8 rfl), show (I15406 8) = (I 8) from ((hI15406 8 rfl).trans (hI15397 8 rfl))] at r15409
          rw [show (I15397 4) = (I 4) from (hI15397 4 rfl)] at r15410
          show GW κ 1 0 0 (wM r g I15406 A15406 L15406) 95 [(0, .ref (r 0))] []
          refine g_aload_n hk dX12_tellOne_95 rfl ?_
          refine gM_i6 (v := (I15406 6)) hk hin12 (List.mem_cons_of_mem _ (List.mem_append_left _ (List.mem_of_getElem? (i := 6) rfl))) dX12_tellOne_96 rfl ?_
          refine g_if_ne (tgt := 190) (a := (I15406 6).toInt) hk dX12_tellOne_99 (by decide) rfl (fun c15413 => ?_) (fun c15413 => ?_)
          · skip
            exact g_vret hk hR ⟨I15406, A15406, L15406, (show Md [4, 6, 7, 8, 9, 11, 12, 13, 17] I I15406 from (Md.tr (Md.tr Md.rf hI15397 rfl) hI15406 rfl)), (show Md [8, 9, 10, 11, 12, 13, 14, 15, 16] A A15406 from (Md.tr (Md.tr Md.rf hA15397 rfl) hA15406 rfl)), hV15406, (by omega), (by omega), (by rw [show (I15406 8) = (I 8) from ((hI15406 8 rfl).trans (hI15397 8 rfl))] <;> omega), (by omega), rfl, rfl⟩ dX12_tellOne_190
          · skip
            refine g_aload_n hk dX12_tellOne_102 rfl ?_
            have f15414 := IvM_f15 hIv
            have f15415 := IvM_s10_1 hIv
            refine g_callV (n := 0) hk (j135_X12_tellQuery l D zt r g I15406 A15406 L15406  hV15406 (by first | (rw [show (I15406 15) = (I 15) from ((hI15406 15 rfl).trans (hI15397 15 rfl)), show (I15406 16) = (I 16) from ((hI15406 16 rfl).trans (hI15397 16 rfl))] <;> omega) | omega) (by first | (rw [show (I15406 16) = (I 16) from ((hI15406 16 rfl).trans (hI15397 16 rfl)), show (A15406 10 0) = (A 10 0) from ((congrFun (hA15406 10 rfl) _).trans (congrFun (hA15397 10 rfl) _))] <;> omega) | omega) (by first | (rw [show (I15406 16) = (I 16) from ((hI15406 16 rfl).trans (hI15397 16 rfl)), show (A15406 10 1) = (A 10 1) from ((congrFun (hA15406 10 rfl) _).trans (congrFun (hA15397 10 rfl) _))] <;> omega) | omega)) (SP.same _) (fun _ h => h) (gi_V (List.mem_cons_of_mem _ (List.mem_append_left _ (List.mem_of_getElem? (i := 12) rfl))) (List.mem_cons_of_mem _ (List.mem_append_left _ (List.mem_of_getElem? (i := 13) rfl))) (List.mem_cons_of_mem _ (List.mem_append_left _ (List.mem_of_getElem? (i := 14) rfl))) (List.mem_cons_of_mem _ (List.mem_append_left _ (List.mem_of_getElem? (i := 5) rfl))) (gi_sub (fun w h => (List.mem_cons_of_mem _ (List.mem_append_right _ (List.mem_append_right _ (List.mem_append_right _ (List.mem_append_right _ (List.mem_append_left _ h))))))) zg_j135_X12_tellQuery)) rfl rfl rfl (by decide +kernel) ⟨Nat.le_of_ble_eq_true rfl, Nat.le_of_ble_eq_true rfl⟩ 0 rfl rfl rfl rfl (Nat.le_of_ble_eq_true rfl) ⟨Nat.le_of_ble_eq_true rfl, Nat.le_of_ble_eq_true rfl⟩ dX12_tellOne_103 (fun v ty' w' hp hk' => ?_)
            obtain ⟨I15417, A15417, L15417, hI15417, hA15417, hV15417, r15418, r15419, r15420, rfl, rfl⟩ := hp
            have f15421 := IvM_f4 hV15417
            have f15422 := IvM_f6 hV15417
            have f15423 := IvM_f8 hV15417
            rw [show (I15406 8) = (I 8) from ((hI15406 8 rfl).trans (hI15397 8 rfl))] at r15420
            show GW κ 1 0 0 (wM r g I15417 A15417 L15417) 106 [(0, .ref (r 0))] []
            refine g_goto (tgt := 190) hk dX12_tellOne_106 (by decide) ?_
            exact g_vret hk hR ⟨I15417, A15417, L15417, (show Md [4, 6, 7, 8, 9, 11, 12, 13, 17] I I15417 from (Md.tr (Md.tr (Md.tr Md.rf hI15397 rfl) hI15406 rfl) hI15417 rfl)), (show Md [8, 9, 10, 11, 12, 13, 14, 15, 16] A A15417 from (Md.tr (Md.tr (Md.tr Md.rf hA15397 rfl) hA15406 rfl) hA15417 rfl)), hV15417, (by omega), (by omega), (by omega), (by omega), rfl, rfl⟩ dX12_tellOne_190
    by_cases c15424 : (I 16).toInt = 1
    · have ec15424 : (I 16) = 1 := Int32.toInt_inj.mp c15424
      rw [ec15424]
      show GW κ 1 0 0 (wM r g I A L) 74 [(0, .ref (r 0))] [.int 1, .ref (r 11)]
      refine lM_10 (v := (A 10 1)) hk (vp_in_iff.mpr ⟨by decide, by decide⟩) rfl dX12_tellOne_74 ?_
      have f15425 := IvM_s10_1 hIv
      refine g_iconst (v := 5) hk dX12_tellOne_75 (by decide) ?_
      refine g_icmp_ne (tgt := 84) (a := (A 10 1).toInt) (b := 5) hk dX12_tellOne_76 (by decide) rfl rfl (fun c15426 => ?_) (fun c15426 => ?_)
      · skip
        refine g_aload_n hk dX12_tellOne_84 rfl ?_
        refine gM_i6 (v := (I 6)) hk hin12 (List.mem_cons_of_mem _ (List.mem_append_left _ (List.mem_of_getElem? (i := 6) rfl))) dX12_tellOne_85 rfl ?_
        have f15427 := IvM_f6 hIv
        refine g_if_ne (tgt := 95) (a := (I 6).toInt) hk dX12_tellOne_88 (by decide) rfl (fun c15428 => ?_) (fun c15428 => ?_)
        · skip
          refine g_aload_n hk dX12_tellOne_95 rfl ?_
          refine gM_i6 (v := (I 6)) hk hin12 (List.mem_cons_of_mem _ (List.mem_append_left _ (List.mem_of_getElem? (i := 6) rfl))) dX12_tellOne_96 rfl ?_
          refine g_if_ne (tgt := 190) (a := (I 6).toInt) hk dX12_tellOne_99 (by decide) rfl (fun _ => ?_) (fun z9 => absurd (show (I 6).toInt ≠ 0 from by omega) z9)
          have f15429 := IvM_f8 hIv
          exact g_vret hk hR ⟨I, A, L, (show Md [4, 6, 7, 8, 9, 11, 12, 13, 17] I I from Md.rf), (show Md [8, 9, 10, 11, 12, 13, 14, 15, 16] A A from Md.rf), hIv, (by omega), (by omega), (by omega), (by omega), rfl, rfl⟩ dX12_tellOne_190
        · skip
          refine g_aload_n hk dX12_tellOne_91 rfl ?_
          refine g_callV (n := 0) hk (j127_X12_goesOn l D zt r g I A L  hIv) (SP.same _) (fun _ h => h) (gi_V (List.mem_cons_of_mem _ (List.mem_append_left _ (List.mem_of_getElem? (i := 2) rfl))) (List.mem_cons_of_mem _ (List.mem_append_left _ (List.mem_of_getElem? (i := 3) rfl))) (List.mem_cons_of_mem _ (List.mem_append_left _ (List.mem_of_getElem? (i := 4) rfl))) (List.mem_cons_of_mem _ (List.mem_append_left _ (List.mem_of_getElem? (i := 5) rfl))) (gi_sub (fun w h => (List.mem_cons_of_mem _ (List.mem_append_right _ (List.mem_append_right _ (List.mem_append_left _ h))))) zg_j127_X12_goesOn)) rfl rfl rfl (by decide +kernel) ⟨Nat.le_of_ble_eq_true rfl, Nat.le_of_ble_eq_true rfl⟩ 0 rfl rfl rfl rfl (Nat.le_of_ble_eq_true rfl) ⟨Nat.le_of_ble_eq_true rfl, Nat.le_of_ble_eq_true rfl⟩ dX12_tellOne_92 (fun v ty' w' hp hk' => ?_)
          obtain ⟨I15431, A15431, L15431, hI15431, hA15431, hV15431, r15432, r15433, r15434, r15435, rfl, rfl⟩ := hp
          have f15436 := IvM_f4 hV15431
          have f15437 := IvM_f6 hV15431
          have f15438 := IvM_f8 hIv
          rw [show (I15431 8) = (I 8) from (hI15431 8 rfl)] at r15434
          show GW κ 1 0 0 (wM r g I15431 A15431 L15431) 95 [(0, .ref (r 0))] []
          refine g_aload_n hk dX12_tellOne_95 rfl ?_
          refine gM_i6 (v := (I15431 6)) hk hin12 (List.mem_cons_of_mem _ (List.mem_append_left _ (List.mem_of_getElem? (i := 6) rfl))) dX12_tellOne_96 rfl ?_
          refine g_if_ne (tgt := 190) (a := (I15431 6).toInt) hk dX12_tellOne_99 (by decide) rfl (fun c15439 => ?_) (fun c15439 => ?_)
          · skip
            exact g_vret hk hR ⟨I15431, A15431, L15431, (show Md [4, 6, 7, 8, 9, 11, 12, 13, 17] I I15431 from (Md.tr Md.rf hI15431 rfl)), (show Md [8, 9, 10, 11, 12, 13, 14, 15, 16] A A15431 from (Md.tr Md.rf hA15431 rfl)), hV15431, (by omega), (by omega), (by rw [show (I15431 8) = (I 8) from (hI15431 8 rfl)] <;> omega), (by omega), rfl, rfl⟩ dX12_tellOne_190
          · skip
            refine g_aload_n hk dX12_tellOne_102 rfl ?_
            have f15440 := IvM_f15 hIv
            have f15441 := IvM_s10_0 hIv
            refine g_callV (n := 0) hk (j135_X12_tellQuery l D zt r g I15431 A15431 L15431  hV15431 (by first | (rw [show (I15431 15) = (I 15) from (hI15431 15 rfl), show (I15431 16) = (I 16) from (hI15431 16 rfl)] <;> omega) | omega) (by first | (rw [show (I15431 16) = (I 16) from (hI15431 16 rfl), show (A15431 10 0) = (A 10 0) from (congrFun (hA15431 10 rfl) _)] <;> omega) | omega) (by first | (rw [show (I15431 16) = (I 16) from (hI15431 16 rfl), show (A15431 10 1) = (A 10 1) from (congrFun (hA15431 10 rfl) _)] <;> omega) | omega)) (SP.same _) (fun _ h => h) (gi_V (List.mem_cons_of_mem _ (List.mem_append_left _ (List.mem_of_getElem? (i := 12) rfl))) (List.mem_cons_of_mem _ (List.mem_append_left _ (List.mem_of_getElem? (i := 13) rfl))) (List.mem_cons_of_mem _ (List.mem_append_left _ (List.mem_of_getElem? (i := 14) rfl))) (List.mem_cons_of_mem _ (List.mem_append_left _ (List.mem_of_getElem? (i := 5) rfl))) (gi_sub (fun w h => (List.mem_cons_of_mem _ (List.mem_append_right _ (List.mem_append_right _ (List.mem_append_right _ (List.mem_append_right _ (List.mem_append_left _ h))))))) zg_j135_X12_tellQuery)) rfl rfl rfl (by decide +kernel) ⟨Nat.le_of_ble_eq_true rfl, Nat.le_of_ble_eq_true rfl⟩ 0 rfl rfl rfl rfl (Nat.le_of_ble_eq_true rfl) ⟨Nat.le_of_ble_eq_true rfl, Nat.le_of_ble_eq_true rfl⟩ dX12_tellOne_103 (fun v ty' w' hp hk' => ?_)
            obtain ⟨I15443, A15443, L15443, hI15443, hA15443, hV15443, r15444, r15445, r15446, rfl, rfl⟩ := hp
            have f15447 := IvM_f4 hV15443
            have f15448 := IvM_f6 hV15443
            have f15449 := IvM_f8 hV15443
            rw [show (I15431 8) = (I 8) from (hI15431 8 rfl)] at r15446
            show GW κ 1 0 0 (wM r g I15443 A15443 L15443) 106 [(0, .ref (r 0))] []
            refine g_goto (tgt := 190) hk dX12_tellOne_106 (by decide) ?_
            exact g_vret hk hR ⟨I15443, A15443, L15443, (show Md [4, 6, 7, 8, 9, 11, 12, 13, 17] I I15443 from (Md.tr (Md.tr Md.rf hI15431 rfl) hI15443 rfl)), (show Md [8, 9, 10, 11, 12, 13, 14, 15, 16] A A15443 from (Md.tr (Md.tr Md.rf hA15431 rfl) hA15443 rfl)), hV15443, (by omega), (by omega), (by omega), (by omega), rfl, rfl⟩ dX12_tellOne_190
      · skip
        refine g_aload_n hk dX12_tellOne_79 rfl ?_
        refine g_iconst (v := 2) hk dX12_tellOne_80 (by decide) ?_
        have k15450 : (2 : Int32).toInt = 2 := rfl
        refine g_callV (n := 1) hk (j128_X12_fail l D zt r g I A L 2 hIv (by decide) (by decide)) (SP.same _) (fun _ h => h) (gi_V (List.mem_cons_of_mem _ (List.mem_append_left _ (List.mem_of_getElem? (i := 15) rfl))) (List.mem_cons_of_mem _ (List.mem_append_left _ (List.mem_of_getElem? (i := 16) rfl))) (List.mem_cons_of_mem _ (List.mem_append_left _ (List.mem_of_getElem? (i := 17) rfl))) (List.mem_cons_of_mem _ (List.mem_append_left _ (List.mem_of_getElem? (i := 5) rfl))) (gi_sub (fun w h => (List.mem_cons_of_mem _ (List.mem_append_right _ (List.mem_append_right _ (List.mem_append_right _ (List.mem_append_right _ (List.mem_append_right _ (List.mem_append_left _ h)))))))) zg_j128_X12_fail)) rfl rfl rfl (by decide +kernel) ⟨Nat.le_of_ble_eq_true rfl, Nat.le_of_ble_eq_true rfl⟩ 0 rfl rfl rfl rfl (Nat.le_of_ble_eq_true rfl) ⟨Nat.le_of_ble_eq_true rfl, Nat.le_of_ble_eq_true rfl⟩ dX12_tellOne_81 (fun v ty' w' hp hk' => ?_)
        obtain ⟨I15452, A15452, L15452, hI15452, hA15452, hV15452, r15453, r15454, r15455, rfl, rfl⟩ := hp
        have f15456 := IvM_f6 hIv
        have f15457 := IvM_f6 hV15452
        have f15458 := IvM_f8 hIv
        rw [show (I15452 8) = (I 8) from (hI15452 8 rfl)] at r15454
        show GW κ 1 0 0 (wM r g I15452 A15452 L15452) 84 [(0, .ref (r 0))] []
        refine g_aload_n hk dX12_tellOne_84 rfl ?_
        refine gM_i6 (v := (I15452 6)) hk hin12 (List.mem_cons_of_mem _ (List.mem_append_left _ (List.mem_of_getElem? (i := 6) rfl))) dX12_tellOne_85 rfl ?_
        refine g_if_ne (tgt := 95) (a := (I15452 6).toInt) hk dX12_tellOne_88 (by decide) rfl (fun c15459 => ?_) (fun c15459 => ?_)
        · skip
          refine g_aload_n hk dX12_tellOne_95 rfl ?_
          refine gM_i6 (v := (I15452 6)) hk hin12 (List.mem_cons_of_mem _ (List.mem_append_left _ (List.mem_of_getElem? (i := 6) rfl))) dX12_tellOne_96 rfl ?_
          refine g_if_ne (tgt := 190) (a := (I15452 6).toInt) hk dX12_tellOne_99 (by decide) rfl (fun _ => ?_) (fun z9 => absurd (show (I15452 6).toInt ≠ 0 from by omega) z9)
          exact g_vret hk hR ⟨I15452, A15452, L15452, (show Md [4, 6, 7, 8, 9, 11, 12, 13, 17] I I15452 from (Md.tr Md.rf hI15452 rfl)), (show Md [8, 9, 10, 11, 12, 13, 14, 15, 16] A A15452 from (Md.tr Md.rf hA15452 rfl)), hV15452, (by rw [show (I15452 4) = (I 4) from (hI15452 4 rfl)] <;> omega), (by omega), (by rw [show (I15452 8) = (I 8) from (hI15452 8 rfl)] <;> omega), (by rw [show (I15452 4) = (I 4) from (hI15452 4 rfl)] <;> omega), rfl, rfl⟩ dX12_tellOne_190
        · skip
          refine g_aload_n hk dX12_tellOne_91 rfl ?_
          refine g_callV (n := 0) hk (j127_X12_goesOn l D zt r g I15452 A15452 L15452  hV15452) (SP.same _) (fun _ h => h) (gi_V (List.mem_cons_of_mem _ (List.mem_append_left _ (List.mem_of_getElem? (i := 2) rfl))) (List.mem_cons_of_mem _ (List.mem_append_left _ (List.mem_of_getElem? (i := 3) rfl))) (List.mem_cons_of_mem _ (List.mem_append_left _ (List.mem_of_getElem? (i := 4) rfl))) (List.mem_cons_of_mem _ (List.mem_append_left _ (List.mem_of_getElem? (i := 5) rfl))) (gi_sub (fun w h => (List.mem_cons_of_mem _ (List.mem_append_right _ (List.mem_append_right _ (List.mem_append_left _ h))))) zg_j127_X12_goesOn)) rfl rfl rfl (by decide +kernel) ⟨Nat.le_of_ble_eq_true rfl, Nat.le_of_ble_eq_true rfl⟩ 0 rfl rfl rfl rfl (Nat.le_of_ble_eq_true rfl) ⟨Nat.le_of_ble_eq_true rfl, Nat.le_of_ble_eq_true rfl⟩ dX12_tellOne_92 (fun v ty' w' hp hk' => ?_)
          obtain ⟨I15461, A15461, L15461, hI15461, hA15461, hV15461, r15462, r15463, r15464, r15465, rfl, rfl⟩ := hp
          have f15466 := IvM_f4 hV15461
          rw [show (I15452 4) = (I 4) from (hI15452 4 rfl)] at r15462
          have f15467 := IvM_f6 hV15461
          rw [show (I15452 8) = (I 8) from (hI15452 8 rfl), show (I15461 8) = (I 8) from ((hI15461 8 rfl).trans (hI15452 8 rfl))] at r15464
          rw [show (I15452 4) = (I 4) from (hI15452 4 rfl)] at r15465
          show GW κ 1 0 0 (wM r g I15461 A15461 L15461) 95 [(0, .ref (r 0))] []
          refine g_aload_n hk dX12_tellOne_95 rfl ?_
          refine gM_i6 (v := (I15461 6)) hk hin12 (List.mem_cons_of_mem _ (List.mem_append_left _ (List.mem_of_getElem? (i := 6) rfl))) dX12_tellOne_96 rfl ?_
          refine g_if_ne (tgt := 190) (a := (I15461 6).toInt) hk dX12_tellOne_99 (by decide) rfl (fun c15468 => ?_) (fun c15468 => ?_)
          · skip
            exact g_vret hk hR ⟨I15461, A15461, L15461, (show Md [4, 6, 7, 8, 9, 11, 12, 13, 17] I I15461 from (Md.tr (Md.tr Md.rf hI15452 rfl) hI15461 rfl)), (show Md [8, 9, 10, 11, 12, 13, 14, 15, 16] A A15461 from (Md.tr (Md.tr Md.rf hA15452 rfl) hA15461 rfl)), hV15461, (by omega), (by omega), (by rw [show (I15461 8) = (I 8) from ((hI15461 8 rfl).trans (hI15452 8 rfl))] <;> omega), (by omega), rfl, rfl⟩ dX12_tellOne_190
          · skip
            refine g_aload_n hk dX12_tellOne_102 rfl ?_
            have f15469 := IvM_f15 hIv
            have f15470 := IvM_s10_0 hIv
            refine g_callV (n := 0) hk (j135_X12_tellQuery l D zt r g I15461 A15461 L15461  hV15461 (by first | (rw [show (I15461 15) = (I 15) from ((hI15461 15 rfl).trans (hI15452 15 rfl)), show (I15461 16) = (I 16) from ((hI15461 16 rfl).trans (hI15452 16 rfl))] <;> omega) | omega) (by first | (rw [show (I15461 16) = (I 16) from ((hI15461 16 rfl).trans (hI15452 16 rfl)), show (A15461 10 0) = (A 10 0) from ((congrFun (hA15461 10 rfl) _).trans (congrFun (hA15452 10 rfl) _))] <;> omega) | omega) (by first | (rw [show (I15461 16) = (I 16) from ((hI15461 16 rfl).trans (hI15452 16 rfl)), show (A15461 10 1) = (A 10 1) from ((congrFun (hA15461 10 rfl) _).trans (congrFun (hA15452 10 rfl) _))] <;> omega) | omega)) (SP.same _) (fun _ h => h) (gi_V (List.mem_cons_of_mem _ (List.mem_append_left _ (List.mem_of_getElem? (i := 12) rfl))) (List.mem_cons_of_mem _ (List.mem_append_left _ (List.mem_of_getElem? (i := 13) rfl))) (List.mem_cons_of_mem _ (List.mem_append_left _ (List.mem_of_getElem? (i := 14) rfl))) (List.mem_cons_of_mem _ (List.mem_append_left _ (List.mem_of_getElem? (i := 5) rfl))) (gi_sub (fun w h => (List.mem_cons_of_mem _ (List.mem_append_right _ (List.mem_append_right _ (List.mem_append_right _ (List.mem_append_right _ (List.mem_append_left _ h))))))) zg_j135_X12_tellQuery)) rfl rfl rfl (by decide +kernel) ⟨Nat.le_of_ble_eq_true rfl, Nat.le_of_ble_eq_true rfl⟩ 0 rfl rfl rfl rfl (Nat.le_of_ble_eq_true rfl) ⟨Nat.le_of_ble_eq_true rfl, Nat.le_of_ble_eq_true rfl⟩ dX12_tellOne_103 (fun v ty' w' hp hk' => ?_)
            obtain ⟨I15472, A15472, L15472, hI15472, hA15472, hV15472, r15473, r15474, r15475, rfl, rfl⟩ := hp
            have f15476 := IvM_f4 hV15472
            have f15477 := IvM_f6 hV15472
            have f15478 := IvM_f8 hV15472
            rw [show (I15461 8) = (I 8) from ((hI15461 8 rfl).trans (hI15452 8 rfl))] at r15475
            show GW κ 1 0 0 (wM r g I15472 A15472 L15472) 106 [(0, .ref (r 0))] []
            refine g_goto (tgt := 190) hk dX12_tellOne_106 (by decide) ?_
            exact g_vret hk hR ⟨I15472, A15472, L15472, (show Md [4, 6, 7, 8, 9, 11, 12, 13, 17] I I15472 from (Md.tr (Md.tr (Md.tr Md.rf hI15452 rfl) hI15461 rfl) hI15472 rfl)), (show Md [8, 9, 10, 11, 12, 13, 14, 15, 16] A A15472 from (Md.tr (Md.tr (Md.tr Md.rf hA15452 rfl) hA15461 rfl) hA15472 rfl)), hV15472, (by omega), (by omega), (by omega), (by omega), rfl, rfl⟩ dX12_tellOne_190
    exfalso; omega
  by_cases c15479 : (A 2 (I 4).toNatClampNeg).toInt = 22
  · refine g_tabIn (tgt := 109) (a := 22) hk dX12_tellOne_9 c15479 (by decide) (by decide) rfl (by decide) ?_
    refine g_aload_n hk dX12_tellOne_109 rfl ?_
    refine gM_r0_31 hk hin12 (List.mem_cons_of_mem _ (List.mem_append_left _ (List.mem_of_getElem? (i := 18) rfl))) dX12_tellOne_110 ?_
    refine g_aload_n hk dX12_tellOne_113 rfl ?_
    refine gM_i16 (v := (I 16)) hk hin12 (List.mem_cons_of_mem _ (List.mem_append_left _ (List.mem_of_getElem? (i := 11) rfl))) dX12_tellOne_114 rfl ?_
    have f15480 := IvM_f16 hIv
    by_cases c15481 : (I 16).toInt = 0
    · have ec15481 : (I 16) = 0 := Int32.toInt_inj.mp c15481
      rw [ec15481]
      show GW κ 1 0 0 (wM r g I A L) 117 [(0, .ref (r 0))] [.int 0, .ref (r 14)]
      refine g_aload_n hk dX12_tellOne_117 rfl ?_
      refine g_iconst (v := 0) hk dX12_tellOne_118 (by decide) ?_
      refine g_bipush (v := 15) hk dX12_tellOne_119 (by decide) ?_
      have k15515 : (0 : Int32).toInt = 0 := rfl
      have k15516 : (15 : Int32).toInt = 15 := rfl
      refine g_callV (n := 2) hk (j136_X12_toldInt l D zt r g I A L 0 15 hIv) (SP.same _) (fun _ h => h) (gi_V (List.mem_cons_of_mem _ (List.mem_append_left _ (List.mem_of_getElem? (i := 19) rfl))) (List.mem_cons_of_mem _ (List.mem_append_left _ (List.mem_of_getElem? (i := 20) rfl))) (List.mem_cons_of_mem _ (List.mem_append_left _ (List.mem_of_getElem? (i := 21) rfl))) (List.mem_cons_of_mem _ (List.mem_append_left _ (List.mem_of_getElem? (i := 5) rfl))) (gi_sub (fun w h => (List.mem_cons_of_mem _ (List.mem_append_right _ (List.mem_append_right _ (List.mem_append_right _ (List.mem_append_right _ (List.mem_append_right _ (List.mem_append_right _ (List.mem_append_left _ h))))))))) zg_j136_X12_toldInt)) rfl rfl rfl (by decide +kernel) ⟨Nat.le_of_ble_eq_true rfl, Nat.le_of_ble_eq_true rfl⟩ 0 rfl rfl rfl rfl (Nat.le_of_ble_eq_true rfl) ⟨Nat.le_of_ble_eq_true rfl, Nat.le_of_ble_eq_true rfl⟩ dX12_tellOne_121 (fun v ty' w' hp hk' => ?_)
      obtain ⟨I15518, A15518, L15518, hI15518, hA15518, hV15518, y15517, r15519, r15520, r15521, r15522, r15523, rfl, rfl⟩ := hp
      have f15524 := IvM_f4 hV15518
      have f15525 := IvM_f6 hIv
      have f15526 := IvM_f6 hV15518
      have f15527 := IvM_f8 hIv
      have f15528 := IvM_f8 hV15518
      have b15529l := Int32.le_toInt y15517
      have b15529h := Int32.toInt_lt y15517
      show GW κ 1 0 0 (wM r g I15518 A15518 L15518) 124 [(0, .ref (r 0))] [.int y15517, .int 0, .ref (r 14)]
      refine sM_13 (j := 0) hk (vp_in_iff.mpr ⟨by decide, by decide⟩) (by decide) dX12_tellOne_124 ?_
      refine g_goto (tgt := 190) hk dX12_tellOne_125 (by decide) ?_
      exact g_vret hk hR ⟨I15518, (up3 A15518 13 0 y15517), L15518, (show Md [4, 6, 7, 8, 9, 11, 12, 13, 17] I I15518 from (Md.tr Md.rf hI15518 rfl)), (show Md [8, 9, 10, 11, 12, 13, 14, 15, 16] A (up3 A15518 13 0 y15517) from (Md.up3 (Md.tr Md.rf hA15518 rfl) rfl)), ⟨(IvM_f1 (I := I15518) (A := A15518) hV15518), (IvM_f2 (I := I15518) (A := A15518) hV15518), (IvM_f3 (I := I15518) (A := A15518) hV15518), (IvM_f4 (I := I15518) (A := A15518) hV15518), (IvM_f6 (I := I15518) (A := A15518) hV15518), (IvM_f8 (I := I15518) (A := A15518) hV15518), (IvM_f15 (I := I15518) (A := A15518) hV15518), (IvM_f16 (I := I15518) (A := A15518) hV15518), (IvM_f17 (I := I15518) (A := A15518) hV15518), (IvM_f18 (I := I15518) (A := A15518) hV15518), (IvM_f22 (I := I15518) (A := A15518) hV15518), (IvM_f23 (I := I15518) (A := A15518) hV15518), (IvM_f24 (I := I15518) (A := A15518) hV15518), (IvM_a11 (I := I15518) (A := A15518) hV15518), (IvM_a26 (I := I15518) (A := A15518) hV15518), (IvM_s8_0 (I := I15518) (A := A15518) hV15518), (IvM_s8_1 (I := I15518) (A := A15518) hV15518), (IvM_s10_0 (I := I15518) (A := A15518) hV15518), (IvM_s10_1 (I := I15518) (A := A15518) hV15518), (IvM_s17_0 (I := I15518) (A := A15518) hV15518), (IvM_s17_164 (I := I15518) (A := A15518) hV15518), (IvM_lv (I := I15518) (A := A15518) hV15518), (IvM_sd (I := I15518) (A := A15518) hV15518), (IvM_nq (I := I15518) (A := A15518) hV15518), (IvM_hr (I := I15518) (A := A15518) hV15518), (IvM_hh (I := I15518) (A := A15518) hV15518), trivial⟩, (by omega), (by omega), (by omega), (by omega), rfl, rfl⟩ dX12_tellOne_190
    by_cases c15530 : (I 16).toInt = 1
    · have ec15530 : (I 16) = 1 := Int32.toInt_inj.mp c15530
      rw [ec15530]
      show GW κ 1 0 0 (wM r g I A L) 117 [(0, .ref (r 0))] [.int 1, .ref (r 14)]
      refine g_aload_n hk dX12_tellOne_117 rfl ?_
      refine g_iconst (v := 0) hk dX12_tellOne_118 (by decide) ?_
      refine g_bipush (v := 15) hk dX12_tellOne_119 (by decide) ?_
      have k15531 : (0 : Int32).toInt = 0 := rfl
      have k15532 : (15 : Int32).toInt = 15 := rfl
      refine g_callV (n := 2) hk (j136_X12_toldInt l D zt r g I A L 0 15 hIv) (SP.same _) (fun _ h => h) (gi_V (List.mem_cons_of_mem _ (List.mem_append_left _ (List.mem_of_getElem? (i := 19) rfl))) (List.mem_cons_of_mem _ (List.mem_append_left _ (List.mem_of_getElem? (i := 20) rfl))) (List.mem_cons_of_mem _ (List.mem_append_left _ (List.mem_of_getElem? (i := 21) rfl))) (List.mem_cons_of_mem _ (List.mem_append_left _ (List.mem_of_getElem? (i := 5) rfl))) (gi_sub (fun w h => (List.mem_cons_of_mem _ (List.mem_append_right _ (List.mem_append_right _ (List.mem_append_right _ (List.mem_append_right _ (List.mem_append_right _ (List.mem_append_right _ (List.mem_append_left _ h))))))))) zg_j136_X12_toldInt)) rfl rfl rfl (by decide +kernel) ⟨Nat.le_of_ble_eq_true rfl, Nat.le_of_ble_eq_true rfl⟩ 0 rfl rfl rfl rfl (Nat.le_of_ble_eq_true rfl) ⟨Nat.le_of_ble_eq_true rfl, Nat.le_of_ble_eq_true rfl⟩ dX12_tellOne_121 (fun v ty' w' hp hk' => ?_)
      obtain ⟨I15534, A15534, L15534, hI15534, hA15534, hV15534, y15533, r15535, r15536, r15537, r15538, r15539, rfl, rfl⟩ := hp
      have f15540 := IvM_f4 hV15534
      have f15541 := IvM_f6 hIv
      have f15542 := IvM_f6 hV15534
      have f15543 := IvM_f8 hIv
      have f15544 := IvM_f8 hV15534
      have b15545l := Int32.le_toInt y15533
      have b15545h := Int32.toInt_lt y15533
      show GW κ 1 0 0 (wM r g I15534 A15534 L15534) 124 [(0, .ref (r 0))] [.int y15533, .int 1, .ref (r 14)]
      refine sM_13 (j := 1) hk (vp_in_iff.mpr ⟨by decide, by decide⟩) (by decide) dX12_tellOne_124 ?_
      refine g_goto (tgt := 190) hk dX12_tellOne_125 (by decide) ?_
      exact g_vret hk hR ⟨I15534, (up3 A15534 13 1 y15533), L15534, (show Md [4, 6, 7, 8, 9, 11, 12, 13, 17] I I15534 from (Md.tr Md.rf hI15534 rfl)), (show Md [8, 9, 10, 11, 12, 13, 14, 15, 16] A (up3 A15534 13 1 y15533) from (Md.up3 (Md.tr Md.rf hA15534 rfl) rfl)), ⟨(IvM_f1 (I := I15534) (A := A15534) hV15534), (IvM_f2 (I := I15534) (A := A15534) hV15534), (IvM_f3 (I := I15534) (A := A15534) hV15534), (IvM_f4 (I := I15534) (A := A15534) hV15534), (IvM_f6 (I := I15534) (A := A15534) hV15534), (IvM_f8 (I := I15534) (A := A15534) hV15534), (IvM_f15 (I := I15534) (A := A15534) hV15534), (IvM_f16 (I := I15534) (A := A15534) hV15534), (IvM_f17 (I := I15534) (A := A15534) hV15534), (IvM_f18 (I := I15534) (A := A15534) hV15534), (IvM_f22 (I := I15534) (A := A15534) hV15534), (IvM_f23 (I := I15534) (A := A15534) hV15534), (IvM_f24 (I := I15534) (A := A15534) hV15534), (IvM_a11 (I := I15534) (A := A15534) hV15534), (IvM_a26 (I := I15534) (A := A15534) hV15534), (IvM_s8_0 (I := I15534) (A := A15534) hV15534), (IvM_s8_1 (I := I15534) (A := A15534) hV15534), (IvM_s10_0 (I := I15534) (A := A15534) hV15534), (IvM_s10_1 (I := I15534) (A := A15534) hV15534), (IvM_s17_0 (I := I15534) (A := A15534) hV15534), (IvM_s17_164 (I := I15534) (A := A15534) hV15534), (IvM_lv (I := I15534) (A := A15534) hV15534), (IvM_sd (I := I15534) (A := A15534) hV15534), (IvM_nq (I := I15534) (A := A15534) hV15534), (IvM_hr (I := I15534) (A := A15534) hV15534), (IvM_hh (I := I15534) (A := A15534) hV15534), trivial⟩, (by omega), (by omega), (by omega), (by omega), rfl, rfl⟩ dX12_tellOne_190
    exfalso; omega
  by_cases c15546 : (A 2 (I 4).toNatClampNeg).toInt = 23
  · refine g_tabIn (tgt := 128) (a := 23) hk dX12_tellOne_9 c15546 (by decide) (by decide) rfl (by decide) ?_
    refine g_aload_n hk dX12_tellOne_128 rfl ?_
    refine gM_r0_32 hk hin12 (List.mem_cons_of_mem _ (List.mem_append_left _ (List.mem_of_getElem? (i := 22) rfl))) dX12_tellOne_129 ?_
    refine g_aload_n hk dX12_tellOne_132 rfl ?_
    refine gM_i16 (v := (I 16)) hk hin12 (List.mem_cons_of_mem _ (List.mem_append_left _ (List.mem_of_getElem? (i := 11) rfl))) dX12_tellOne_133 rfl ?_
    have f15547 := IvM_f16 hIv
    by_cases c15548 : (I 16).toInt = 0
    · have ec15548 : (I 16) = 0 := Int32.toInt_inj.mp c15548
      rw [ec15548]
      show GW κ 1 0 0 (wM r g I A L) 136 [(0, .ref (r 0))] [.int 0, .ref (r 15)]
      refine g_aload_n hk dX12_tellOne_136 rfl ?_
      refine g_bipush (v := 27) hk dX12_tellOne_137 (by decide) ?_
      refine g_iconst (v := 4) hk dX12_tellOne_139 (by decide) ?_
      have k15694 : (27 : Int32).toInt = 27 := rfl
      have k15695 : (4 : Int32).toInt = 4 := rfl
      refine g_callV (n := 2) hk (j137_X12_toldWord l D zt r g I A L 27 4 hIv) (SP.same _) (fun _ h => h) (gi_V (List.mem_cons_of_mem _ (List.mem_append_left _ (List.mem_of_getElem? (i := 23) rfl))) (List.mem_cons_of_mem _ (List.mem_append_left _ (List.mem_of_getElem? (i := 24) rfl))) (List.mem_cons_of_mem _ (List.mem_append_left _ (List.mem_of_getElem? (i := 25) rfl))) (List.mem_cons_of_mem _ (List.mem_append_left _ (List.mem_of_getElem? (i := 5) rfl))) (gi_sub (fun w h => (List.mem_cons_of_mem _ (List.mem_append_right _ (List.mem_append_right _ (List.mem_append_right _ (List.mem_append_right _ (List.mem_append_right _ (List.mem_append_right _ (List.mem_append_right _ (List.mem_append_left _ h)))))))))) zg_j137_X12_toldWord)) rfl rfl rfl (by decide +kernel) ⟨Nat.le_of_ble_eq_true rfl, Nat.le_of_ble_eq_true rfl⟩ 0 rfl rfl rfl rfl (Nat.le_of_ble_eq_true rfl) ⟨Nat.le_of_ble_eq_true rfl, Nat.le_of_ble_eq_true rfl⟩ dX12_tellOne_140 (fun v ty' w' hp hk' => ?_)
      obtain ⟨I15697, A15697, L15697, hI15697, hA15697, hV15697, y15696, r15698, r15699, r15700, r15701, rfl, rfl⟩ := hp
      have f15702 := IvM_f4 hV15697
      have f15703 := IvM_f6 hIv
      have f15704 := IvM_f6 hV15697
      have f15705 := IvM_f8 hIv
      rw [show (I15697 8) = (I 8) from (hI15697 8 rfl)] at r15700
      show GW κ 1 0 0 (wM r g I15697 A15697 L15697) 143 [(0, .ref (r 0))] [.int y15696, .int 0, .ref (r 15)]
      refine sM_14 (j := 0) hk (vp_in_iff.mpr ⟨by decide, by decide⟩) (by decide) dX12_tellOne_143 ?_
      refine g_goto (tgt := 190) hk dX12_tellOne_144 (by decide) ?_
      exact g_vret hk hR ⟨I15697, (up3 A15697 14 0 y15696), L15697, (show Md [4, 6, 7, 8, 9, 11, 12, 13, 17] I I15697 from (Md.tr Md.rf hI15697 rfl)), (show Md [8, 9, 10, 11, 12, 13, 14, 15, 16] A (up3 A15697 14 0 y15696) from (Md.up3 (Md.tr Md.rf hA15697 rfl) rfl)), ⟨(IvM_f1 (I := I15697) (A := A15697) hV15697), (IvM_f2 (I := I15697) (A := A15697) hV15697), (IvM_f3 (I := I15697) (A := A15697) hV15697), (IvM_f4 (I := I15697) (A := A15697) hV15697), (IvM_f6 (I := I15697) (A := A15697) hV15697), (IvM_f8 (I := I15697) (A := A15697) hV15697), (IvM_f15 (I := I15697) (A := A15697) hV15697), (IvM_f16 (I := I15697) (A := A15697) hV15697), (IvM_f17 (I := I15697) (A := A15697) hV15697), (IvM_f18 (I := I15697) (A := A15697) hV15697), (IvM_f22 (I := I15697) (A := A15697) hV15697), (IvM_f23 (I := I15697) (A := A15697) hV15697), (IvM_f24 (I := I15697) (A := A15697) hV15697), (IvM_a11 (I := I15697) (A := A15697) hV15697), (IvM_a26 (I := I15697) (A := A15697) hV15697), (IvM_s8_0 (I := I15697) (A := A15697) hV15697), (IvM_s8_1 (I := I15697) (A := A15697) hV15697), (IvM_s10_0 (I := I15697) (A := A15697) hV15697), (IvM_s10_1 (I := I15697) (A := A15697) hV15697), (IvM_s17_0 (I := I15697) (A := A15697) hV15697), (IvM_s17_164 (I := I15697) (A := A15697) hV15697), (IvM_lv (I := I15697) (A := A15697) hV15697), (IvM_sd (I := I15697) (A := A15697) hV15697), (IvM_nq (I := I15697) (A := A15697) hV15697), (IvM_hr (I := I15697) (A := A15697) hV15697), (IvM_hh (I := I15697) (A := A15697) hV15697), trivial⟩, (by omega), (by omega), (by rw [show (I15697 8) = (I 8) from (hI15697 8 rfl)] <;> omega), (by omega), rfl, rfl⟩ dX12_tellOne_190
    by_cases c15706 : (I 16).toInt = 1
    · have ec15706 : (I 16) = 1 := Int32.toInt_inj.mp c15706
      rw [ec15706]
      show GW κ 1 0 0 (wM r g I A L) 136 [(0, .ref (r 0))] [.int 1, .ref (r 15)]
      refine g_aload_n hk dX12_tellOne_136 rfl ?_
      refine g_bipush (v := 27) hk dX12_tellOne_137 (by decide) ?_
      refine g_iconst (v := 4) hk dX12_tellOne_139 (by decide) ?_
      have k15707 : (27 : Int32).toInt = 27 := rfl
      have k15708 : (4 : Int32).toInt = 4 := rfl
      refine g_callV (n := 2) hk (j137_X12_toldWord l D zt r g I A L 27 4 hIv) (SP.same _) (fun _ h => h) (gi_V (List.mem_cons_of_mem _ (List.mem_append_left _ (List.mem_of_getElem? (i := 23) rfl))) (List.mem_cons_of_mem _ (List.mem_append_left _ (List.mem_of_getElem? (i := 24) rfl))) (List.mem_cons_of_mem _ (List.mem_append_left _ (List.mem_of_getElem? (i := 25) rfl))) (List.mem_cons_of_mem _ (List.mem_append_left _ (List.mem_of_getElem? (i := 5) rfl))) (gi_sub (fun w h => (List.mem_cons_of_mem _ (List.mem_append_right _ (List.mem_append_right _ (List.mem_append_right _ (List.mem_append_right _ (List.mem_append_right _ (List.mem_append_right _ (List.mem_append_right _ (List.mem_append_left _ h)))))))))) zg_j137_X12_toldWord)) rfl rfl rfl (by decide +kernel) ⟨Nat.le_of_ble_eq_true rfl, Nat.le_of_ble_eq_true rfl⟩ 0 rfl rfl rfl rfl (Nat.le_of_ble_eq_true rfl) ⟨Nat.le_of_ble_eq_true rfl, Nat.le_of_ble_eq_true rfl⟩ dX12_tellOne_140 (fun v ty' w' hp hk' => ?_)
      obtain ⟨I15710, A15710, L15710, hI15710, hA15710, hV15710, y15709, r15711, r15712, r15713, r15714, rfl, rfl⟩ := hp
      have f15715 := IvM_f4 hV15710
      have f15716 := IvM_f6 hIv
      have f15717 := IvM_f6 hV15710
      have f15718 := IvM_f8 hIv
      rw [show (I15710 8) = (I 8) from (hI15710 8 rfl)] at r15713
      show GW κ 1 0 0 (wM r g I15710 A15710 L15710) 143 [(0, .ref (r 0))] [.int y15709, .int 1, .ref (r 15)]
      refine sM_14 (j := 1) hk (vp_in_iff.mpr ⟨by decide, by decide⟩) (by decide) dX12_tellOne_143 ?_
      refine g_goto (tgt := 190) hk dX12_tellOne_144 (by decide) ?_
      exact g_vret hk hR ⟨I15710, (up3 A15710 14 1 y15709), L15710, (show Md [4, 6, 7, 8, 9, 11, 12, 13, 17] I I15710 from (Md.tr Md.rf hI15710 rfl)), (show Md [8, 9, 10, 11, 12, 13, 14, 15, 16] A (up3 A15710 14 1 y15709) from (Md.up3 (Md.tr Md.rf hA15710 rfl) rfl)), ⟨(IvM_f1 (I := I15710) (A := A15710) hV15710), (IvM_f2 (I := I15710) (A := A15710) hV15710), (IvM_f3 (I := I15710) (A := A15710) hV15710), (IvM_f4 (I := I15710) (A := A15710) hV15710), (IvM_f6 (I := I15710) (A := A15710) hV15710), (IvM_f8 (I := I15710) (A := A15710) hV15710), (IvM_f15 (I := I15710) (A := A15710) hV15710), (IvM_f16 (I := I15710) (A := A15710) hV15710), (IvM_f17 (I := I15710) (A := A15710) hV15710), (IvM_f18 (I := I15710) (A := A15710) hV15710), (IvM_f22 (I := I15710) (A := A15710) hV15710), (IvM_f23 (I := I15710) (A := A15710) hV15710), (IvM_f24 (I := I15710) (A := A15710) hV15710), (IvM_a11 (I := I15710) (A := A15710) hV15710), (IvM_a26 (I := I15710) (A := A15710) hV15710), (IvM_s8_0 (I := I15710) (A := A15710) hV15710), (IvM_s8_1 (I := I15710) (A := A15710) hV15710), (IvM_s10_0 (I := I15710) (A := A15710) hV15710), (IvM_s10_1 (I := I15710) (A := A15710) hV15710), (IvM_s17_0 (I := I15710) (A := A15710) hV15710), (IvM_s17_164 (I := I15710) (A := A15710) hV15710), (IvM_lv (I := I15710) (A := A15710) hV15710), (IvM_sd (I := I15710) (A := A15710) hV15710), (IvM_nq (I := I15710) (A := A15710) hV15710), (IvM_hr (I := I15710) (A := A15710) hV15710), (IvM_hh (I := I15710) (A := A15710) hV15710), trivial⟩, (by omega), (by omega), (by rw [show (I15710 8) = (I 8) from (hI15710 8 rfl)] <;> omega), (by omega), rfl, rfl⟩ dX12_tellOne_190
    exfalso; omega
  by_cases c15719 : (A 2 (I 4).toNatClampNeg).toInt = 24
  · refine g_tabIn (tgt := 147) (a := 24) hk dX12_tellOne_9 c15719 (by decide) (by decide) rfl (by decide) ?_
    refine g_aload_n hk dX12_tellOne_147 rfl ?_
    refine gM_r0_33 hk hin12 (List.mem_cons_of_mem _ (List.mem_append_left _ (List.mem_of_getElem? (i := 26) rfl))) dX12_tellOne_148 ?_
    refine g_aload_n hk dX12_tellOne_151 rfl ?_
    refine gM_i16 (v := (I 16)) hk hin12 (List.mem_cons_of_mem _ (List.mem_append_left _ (List.mem_of_getElem? (i := 11) rfl))) dX12_tellOne_152 rfl ?_
    have f15720 := IvM_f16 hIv
    by_cases c15721 : (I 16).toInt = 0
    · have ec15721 : (I 16) = 0 := Int32.toInt_inj.mp c15721
      rw [ec15721]
      show GW κ 1 0 0 (wM r g I A L) 155 [(0, .ref (r 0))] [.int 0, .ref (r 16)]
      refine g_aload_n hk dX12_tellOne_155 rfl ?_
      refine g_bipush (v := 31) hk dX12_tellOne_156 (by decide) ?_
      refine g_iconst (v := 2) hk dX12_tellOne_158 (by decide) ?_
      have k15722 : (31 : Int32).toInt = 31 := rfl
      have k15723 : (2 : Int32).toInt = 2 := rfl
      refine g_callV (n := 2) hk (j137_X12_toldWord l D zt r g I A L 31 2 hIv) (SP.same _) (fun _ h => h) (gi_V (List.mem_cons_of_mem _ (List.mem_append_left _ (List.mem_of_getElem? (i := 23) rfl))) (List.mem_cons_of_mem _ (List.mem_append_left _ (List.mem_of_getElem? (i := 24) rfl))) (List.mem_cons_of_mem _ (List.mem_append_left _ (List.mem_of_getElem? (i := 25) rfl))) (List.mem_cons_of_mem _ (List.mem_append_left _ (List.mem_of_getElem? (i := 5) rfl))) (gi_sub (fun w h => (List.mem_cons_of_mem _ (List.mem_append_right _ (List.mem_append_right _ (List.mem_append_right _ (List.mem_append_right _ (List.mem_append_right _ (List.mem_append_right _ (List.mem_append_right _ (List.mem_append_left _ h)))))))))) zg_j137_X12_toldWord)) rfl rfl rfl (by decide +kernel) ⟨Nat.le_of_ble_eq_true rfl, Nat.le_of_ble_eq_true rfl⟩ 0 rfl rfl rfl rfl (Nat.le_of_ble_eq_true rfl) ⟨Nat.le_of_ble_eq_true rfl, Nat.le_of_ble_eq_true rfl⟩ dX12_tellOne_159 (fun v ty' w' hp hk' => ?_)
      obtain ⟨I15725, A15725, L15725, hI15725, hA15725, hV15725, y15724, r15726, r15727, r15728, r15729, rfl, rfl⟩ := hp
      have f15730 := IvM_f4 hV15725
      have f15731 := IvM_f6 hIv
      have f15732 := IvM_f6 hV15725
      have f15733 := IvM_f8 hIv
      rw [show (I15725 8) = (I 8) from (hI15725 8 rfl)] at r15728
      show GW κ 1 0 0 (wM r g I15725 A15725 L15725) 162 [(0, .ref (r 0))] [.int y15724, .int 0, .ref (r 16)]
      refine sM_15 (j := 0) hk (vp_in_iff.mpr ⟨by decide, by decide⟩) (by decide) dX12_tellOne_162 ?_
      refine g_goto (tgt := 190) hk dX12_tellOne_163 (by decide) ?_
      exact g_vret hk hR ⟨I15725, (up3 A15725 15 0 y15724), L15725, (show Md [4, 6, 7, 8, 9, 11, 12, 13, 17] I I15725 from (Md.tr Md.rf hI15725 rfl)), (show Md [8, 9, 10, 11, 12, 13, 14, 15, 16] A (up3 A15725 15 0 y15724) from (Md.up3 (Md.tr Md.rf hA15725 rfl) rfl)), ⟨(IvM_f1 (I := I15725) (A := A15725) hV15725), (IvM_f2 (I := I15725) (A := A15725) hV15725), (IvM_f3 (I := I15725) (A := A15725) hV15725), (IvM_f4 (I := I15725) (A := A15725) hV15725), (IvM_f6 (I := I15725) (A := A15725) hV15725), (IvM_f8 (I := I15725) (A := A15725) hV15725), (IvM_f15 (I := I15725) (A := A15725) hV15725), (IvM_f16 (I := I15725) (A := A15725) hV15725), (IvM_f17 (I := I15725) (A := A15725) hV15725), (IvM_f18 (I := I15725) (A := A15725) hV15725), (IvM_f22 (I := I15725) (A := A15725) hV15725), (IvM_f23 (I := I15725) (A := A15725) hV15725), (IvM_f24 (I := I15725) (A := A15725) hV15725), (IvM_a11 (I := I15725) (A := A15725) hV15725), (IvM_a26 (I := I15725) (A := A15725) hV15725), (IvM_s8_0 (I := I15725) (A := A15725) hV15725), (IvM_s8_1 (I := I15725) (A := A15725) hV15725), (IvM_s10_0 (I := I15725) (A := A15725) hV15725), (IvM_s10_1 (I := I15725) (A := A15725) hV15725), (IvM_s17_0 (I := I15725) (A := A15725) hV15725), (IvM_s17_164 (I := I15725) (A := A15725) hV15725), (IvM_lv (I := I15725) (A := A15725) hV15725), (IvM_sd (I := I15725) (A := A15725) hV15725), (IvM_nq (I := I15725) (A := A15725) hV15725), (IvM_hr (I := I15725) (A := A15725) hV15725), (IvM_hh (I := I15725) (A := A15725) hV15725), trivial⟩, (by omega), (by omega), (by rw [show (I15725 8) = (I 8) from (hI15725 8 rfl)] <;> omega), (by omega), rfl, rfl⟩ dX12_tellOne_190
    by_cases c15734 : (I 16).toInt = 1
    · have ec15734 : (I 16) = 1 := Int32.toInt_inj.mp c15734
      rw [ec15734]
      show GW κ 1 0 0 (wM r g I A L) 155 [(0, .ref (r 0))] [.int 1, .ref (r 16)]
      refine g_aload_n hk dX12_tellOne_155 rfl ?_
      refine g_bipush (v := 31) hk dX12_tellOne_156 (by decide) ?_
      refine g_iconst (v := 2) hk dX12_tellOne_158 (by decide) ?_
      have k15735 : (31 : Int32).toInt = 31 := rfl
      have k15736 : (2 : Int32).toInt = 2 := rfl
      refine g_callV (n := 2) hk (j137_X12_toldWord l D zt r g I A L 31 2 hIv) (SP.same _) (fun _ h => h) (gi_V (List.mem_cons_of_mem _ (List.mem_append_left _ (List.mem_of_getElem? (i := 23) rfl))) (List.mem_cons_of_mem _ (List.mem_append_left _ (List.mem_of_getElem? (i := 24) rfl))) (List.mem_cons_of_mem _ (List.mem_append_left _ (List.mem_of_getElem? (i := 25) rfl))) (List.mem_cons_of_mem _ (List.mem_append_left _ (List.mem_of_getElem? (i := 5) rfl))) (gi_sub (fun w h => (List.mem_cons_of_mem _ (List.mem_append_right _ (List.mem_append_right _ (List.mem_append_right _ (List.mem_append_right _ (List.mem_append_right _ (List.mem_append_right _ (List.mem_append_right _ (List.mem_append_left _ h)))))))))) zg_j137_X12_toldWord)) rfl rfl rfl (by decide +kernel) ⟨Nat.le_of_ble_eq_true rfl, Nat.le_of_ble_eq_true rfl⟩ 0 rfl rfl rfl rfl (Nat.le_of_ble_eq_true rfl) ⟨Nat.le_of_ble_eq_true rfl, Nat.le_of_ble_eq_true rfl⟩ dX12_tellOne_159 (fun v ty' w' hp hk' => ?_)
      obtain ⟨I15738, A15738, L15738, hI15738, hA15738, hV15738, y15737, r15739, r15740, r15741, r15742, rfl, rfl⟩ := hp
      have f15743 := IvM_f4 hV15738
      have f15744 := IvM_f6 hIv
      have f15745 := IvM_f6 hV15738
      have f15746 := IvM_f8 hIv
      rw [show (I15738 8) = (I 8) from (hI15738 8 rfl)] at r15741
      show GW κ 1 0 0 (wM r g I15738 A15738 L15738) 162 [(0, .ref (r 0))] [.int y15737, .int 1, .ref (r 16)]
      refine sM_15 (j := 1) hk (vp_in_iff.mpr ⟨by decide, by decide⟩) (by decide) dX12_tellOne_162 ?_
      refine g_goto (tgt := 190) hk dX12_tellOne_163 (by decide) ?_
      exact g_vret hk hR ⟨I15738, (up3 A15738 15 1 y15737), L15738, (show Md [4, 6, 7, 8, 9, 11, 12, 13, 17] I I15738 from (Md.tr Md.rf hI15738 rfl)), (show Md [8, 9, 10, 11, 12, 13, 14, 15, 16] A (up3 A15738 15 1 y15737) from (Md.up3 (Md.tr Md.rf hA15738 rfl) rfl)), ⟨(IvM_f1 (I := I15738) (A := A15738) hV15738), (IvM_f2 (I := I15738) (A := A15738) hV15738), (IvM_f3 (I := I15738) (A := A15738) hV15738), (IvM_f4 (I := I15738) (A := A15738) hV15738), (IvM_f6 (I := I15738) (A := A15738) hV15738), (IvM_f8 (I := I15738) (A := A15738) hV15738), (IvM_f15 (I := I15738) (A := A15738) hV15738), (IvM_f16 (I := I15738) (A := A15738) hV15738), (IvM_f17 (I := I15738) (A := A15738) hV15738), (IvM_f18 (I := I15738) (A := A15738) hV15738), (IvM_f22 (I := I15738) (A := A15738) hV15738), (IvM_f23 (I := I15738) (A := A15738) hV15738), (IvM_f24 (I := I15738) (A := A15738) hV15738), (IvM_a11 (I := I15738) (A := A15738) hV15738), (IvM_a26 (I := I15738) (A := A15738) hV15738), (IvM_s8_0 (I := I15738) (A := A15738) hV15738), (IvM_s8_1 (I := I15738) (A := A15738) hV15738), (IvM_s10_0 (I := I15738) (A := A15738) hV15738), (IvM_s10_1 (I := I15738) (A := A15738) hV15738), (IvM_s17_0 (I := I15738) (A := A15738) hV15738), (IvM_s17_164 (I := I15738) (A := A15738) hV15738), (IvM_lv (I := I15738) (A := A15738) hV15738), (IvM_sd (I := I15738) (A := A15738) hV15738), (IvM_nq (I := I15738) (A := A15738) hV15738), (IvM_hr (I := I15738) (A := A15738) hV15738), (IvM_hh (I := I15738) (A := A15738) hV15738), trivial⟩, (by omega), (by omega), (by rw [show (I15738 8) = (I 8) from (hI15738 8 rfl)] <;> omega), (by omega), rfl, rfl⟩ dX12_tellOne_190
    exfalso; omega
  by_cases c15747 : (A 2 (I 4).toNatClampNeg).toInt = 25
  · refine g_tabIn (tgt := 166) (a := 25) hk dX12_tellOne_9 c15747 (by decide) (by decide) rfl (by decide) ?_
    refine g_aload_n hk dX12_tellOne_166 rfl ?_
    refine gM_r0_34 hk hin12 (List.mem_cons_of_mem _ (List.mem_append_left _ (List.mem_of_getElem? (i := 27) rfl))) dX12_tellOne_167 ?_
    refine g_aload_n hk dX12_tellOne_170 rfl ?_
    refine gM_i16 (v := (I 16)) hk hin12 (List.mem_cons_of_mem _ (List.mem_append_left _ (List.mem_of_getElem? (i := 11) rfl))) dX12_tellOne_171 rfl ?_
    have f15748 := IvM_f16 hIv
    by_cases c15749 : (I 16).toInt = 0
    · have ec15749 : (I 16) = 0 := Int32.toInt_inj.mp c15749
      rw [ec15749]
      show GW κ 1 0 0 (wM r g I A L) 174 [(0, .ref (r 0))] [.int 0, .ref (r 17)]
      refine g_aload_n hk dX12_tellOne_174 rfl ?_
      refine g_iconst (v := 1) hk dX12_tellOne_175 (by decide) ?_
      refine g_bipush (v := 99) hk dX12_tellOne_176 (by decide) ?_
      have k15750 : (1 : Int32).toInt = 1 := rfl
      have k15751 : (99 : Int32).toInt = 99 := rfl
      refine g_callV (n := 2) hk (j136_X12_toldInt l D zt r g I A L 1 99 hIv) (SP.same _) (fun _ h => h) (gi_V (List.mem_cons_of_mem _ (List.mem_append_left _ (List.mem_of_getElem? (i := 19) rfl))) (List.mem_cons_of_mem _ (List.mem_append_left _ (List.mem_of_getElem? (i := 20) rfl))) (List.mem_cons_of_mem _ (List.mem_append_left _ (List.mem_of_getElem? (i := 21) rfl))) (List.mem_cons_of_mem _ (List.mem_append_left _ (List.mem_of_getElem? (i := 5) rfl))) (gi_sub (fun w h => (List.mem_cons_of_mem _ (List.mem_append_right _ (List.mem_append_right _ (List.mem_append_right _ (List.mem_append_right _ (List.mem_append_right _ (List.mem_append_right _ (List.mem_append_left _ h))))))))) zg_j136_X12_toldInt)) rfl rfl rfl (by decide +kernel) ⟨Nat.le_of_ble_eq_true rfl, Nat.le_of_ble_eq_true rfl⟩ 0 rfl rfl rfl rfl (Nat.le_of_ble_eq_true rfl) ⟨Nat.le_of_ble_eq_true rfl, Nat.le_of_ble_eq_true rfl⟩ dX12_tellOne_178 (fun v ty' w' hp hk' => ?_)
      obtain ⟨I15753, A15753, L15753, hI15753, hA15753, hV15753, y15752, r15754, r15755, r15756, r15757, r15758, rfl, rfl⟩ := hp
      have f15759 := IvM_f4 hV15753
      have f15760 := IvM_f6 hIv
      have f15761 := IvM_f6 hV15753
      have f15762 := IvM_f8 hIv
      have f15763 := IvM_f8 hV15753
      have b15764l := Int32.le_toInt y15752
      have b15764h := Int32.toInt_lt y15752
      show GW κ 1 0 0 (wM r g I15753 A15753 L15753) 181 [(0, .ref (r 0))] [.int y15752, .int 0, .ref (r 17)]
      refine sM_16 (j := 0) hk (vp_in_iff.mpr ⟨by decide, by decide⟩) (by decide) dX12_tellOne_181 ?_
      refine g_goto (tgt := 190) hk dX12_tellOne_182 (by decide) ?_
      have g15765 : (I15753 15).toInt = (I 15).toInt := by rw [show (I15753 15) = (I 15) from (hI15753 15 rfl)]
      have g15766 : (I15753 16).toInt = (I 16).toInt := by rw [show (I15753 16) = (I 16) from (hI15753 16 rfl)]
      have g15767 := IvM_s10_0 (I := I15753) (A := A15753) hV15753
      have g15768 := IvM_s10_1 (I := I15753) (A := A15753) hV15753
      exact g_vret hk hR ⟨I15753, (up3 A15753 16 0 y15752), L15753, (show Md [4, 6, 7, 8, 9, 11, 12, 13, 17] I I15753 from (Md.tr Md.rf hI15753 rfl)), (show Md [8, 9, 10, 11, 12, 13, 14, 15, 16] A (up3 A15753 16 0 y15752) from (Md.up3 (Md.tr Md.rf hA15753 rfl) rfl)), ⟨(IvM_f1 (I := I15753) (A := A15753) hV15753), (IvM_f2 (I := I15753) (A := A15753) hV15753), (IvM_f3 (I := I15753) (A := A15753) hV15753), (IvM_f4 (I := I15753) (A := A15753) hV15753), (IvM_f6 (I := I15753) (A := A15753) hV15753), (IvM_f8 (I := I15753) (A := A15753) hV15753), (IvM_f15 (I := I15753) (A := A15753) hV15753), (IvM_f16 (I := I15753) (A := A15753) hV15753), (IvM_f17 (I := I15753) (A := A15753) hV15753), (IvM_f18 (I := I15753) (A := A15753) hV15753), (IvM_f22 (I := I15753) (A := A15753) hV15753), (IvM_f23 (I := I15753) (A := A15753) hV15753), (IvM_f24 (I := I15753) (A := A15753) hV15753), (IvM_a11 (I := I15753) (A := A15753) hV15753), (IvM_a26 (I := I15753) (A := A15753) hV15753), (IvM_s8_0 (I := I15753) (A := A15753) hV15753), (IvM_s8_1 (I := I15753) (A := A15753) hV15753), (IvM_s10_0 (I := I15753) (A := A15753) hV15753), (IvM_s10_1 (I := I15753) (A := A15753) hV15753), (IvM_s17_0 (I := I15753) (A := A15753) hV15753), (IvM_s17_164 (I := I15753) (A := A15753) hV15753), ⟨fun e => by have e : (I15753 15).toInt = 0 := e; first | exact (IvM_lv (I := I15753) (A := A15753) hV15753).1 e | (exfalso; omega), fun e => by have e : (I15753 15).toInt = 1 := e; first | exact (IvM_lv (I := I15753) (A := A15753) hV15753).2 e | (exfalso; omega)⟩, (by by_cases g6 : (I15753 6).toInt ≠ 0; exact Or.inl g6; by_cases g8 : (I15753 8).toInt ≠ 0; exact Or.inr (Or.inl g8); rcases (IvM_sd (I := I15753) (A := A15753) hV15753) with h9 | h9 | h9; exact absurd h9 g6; exact absurd h9 g8; exact Or.inr (Or.inr ⟨fun e => by have e : (I15753 16).toInt = 0 := e; first | exact ghf_a (a2 := y15752) (h9.1 e) (by omega) | (exfalso; omega), fun e => by have e : (I15753 16).toInt = 1 := e; first | exact ghf_a (a2 := (A15753 16 1)) (h9.2 e) (by omega) | (exfalso; omega)⟩)), (IvM_nq (I := I15753) (A := A15753) hV15753), (IvM_hr (I := I15753) (A := A15753) hV15753), (IvM_hh (I := I15753) (A := A15753) hV15753), trivial⟩, (by omega), (by omega), (by omega), (by omega), rfl, rfl⟩ dX12_tellOne_190
    by_cases c15769 : (I 16).toInt = 1
    · have ec15769 : (I 16) = 1 := Int32.toInt_inj.mp c15769
      rw [ec15769]
      show GW κ 1 0 0 (wM r g I A L) 174 [(0, .ref (r 0))] [.int 1, .ref (r 17)]
      refine g_aload_n hk dX12_tellOne_174 rfl ?_
      refine g_iconst (v := 1) hk dX12_tellOne_175 (by decide) ?_
      refine g_bipush (v := 99) hk dX12_tellOne_176 (by decide) ?_
      have k15770 : (1 : Int32).toInt = 1 := rfl
      have k15771 : (99 : Int32).toInt = 99 := rfl
      refine g_callV (n := 2) hk (j136_X12_toldInt l D zt r g I A L 1 99 hIv) (SP.same _) (fun _ h => h) (gi_V (List.mem_cons_of_mem _ (List.mem_append_left _ (List.mem_of_getElem? (i := 19) rfl))) (List.mem_cons_of_mem _ (List.mem_append_left _ (List.mem_of_getElem? (i := 20) rfl))) (List.mem_cons_of_mem _ (List.mem_append_left _ (List.mem_of_getElem? (i := 21) rfl))) (List.mem_cons_of_mem _ (List.mem_append_left _ (List.mem_of_getElem? (i := 5) rfl))) (gi_sub (fun w h => (List.mem_cons_of_mem _ (List.mem_append_right _ (List.mem_append_right _ (List.mem_append_right _ (List.mem_append_right _ (List.mem_append_right _ (List.mem_append_right _ (List.mem_append_left _ h))))))))) zg_j136_X12_toldInt)) rfl rfl rfl (by decide +kernel) ⟨Nat.le_of_ble_eq_true rfl, Nat.le_of_ble_eq_true rfl⟩ 0 rfl rfl rfl rfl (Nat.le_of_ble_eq_true rfl) ⟨Nat.le_of_ble_eq_true rfl, Nat.le_of_ble_eq_true rfl⟩ dX12_tellOne_178 (fun v ty' w' hp hk' => ?_)
      obtain ⟨I15773, A15773, L15773, hI15773, hA15773, hV15773, y15772, r15774, r15775, r15776, r15777, r15778, rfl, rfl⟩ := hp
      have f15779 := IvM_f4 hV15773
      have f15780 := IvM_f6 hIv
      have f15781 := IvM_f6 hV15773
      have f15782 := IvM_f8 hIv
      have f15783 := IvM_f8 hV15773
      have b15784l := Int32.le_toInt y15772
      have b15784h := Int32.toInt_lt y15772
      show GW κ 1 0 0 (wM r g I15773 A15773 L15773) 181 [(0, .ref (r 0))] [.int y15772, .int 1, .ref (r 17)]
      refine sM_16 (j := 1) hk (vp_in_iff.mpr ⟨by decide, by decide⟩) (by decide) dX12_tellOne_181 ?_
      refine g_goto (tgt := 190) hk dX12_tellOne_182 (by decide) ?_
      have g15785 : (I15773 15).toInt = (I 15).toInt := by rw [show (I15773 15) = (I 15) from (hI15773 15 rfl)]
      have g15786 : (I15773 16).toInt = (I 16).toInt := by rw [show (I15773 16) = (I 16) from (hI15773 16 rfl)]
      have g15787 := IvM_s10_0 (I := I15773) (A := A15773) hV15773
      have g15788 := IvM_s10_1 (I := I15773) (A := A15773) hV15773
      exact g_vret hk hR ⟨I15773, (up3 A15773 16 1 y15772), L15773, (show Md [4, 6, 7, 8, 9, 11, 12, 13, 17] I I15773 from (Md.tr Md.rf hI15773 rfl)), (show Md [8, 9, 10, 11, 12, 13, 14, 15, 16] A (up3 A15773 16 1 y15772) from (Md.up3 (Md.tr Md.rf hA15773 rfl) rfl)), ⟨(IvM_f1 (I := I15773) (A := A15773) hV15773), (IvM_f2 (I := I15773) (A := A15773) hV15773), (IvM_f3 (I := I15773) (A := A15773) hV15773), (IvM_f4 (I := I15773) (A := A15773) hV15773), (IvM_f6 (I := I15773) (A := A15773) hV15773), (IvM_f8 (I := I15773) (A := A15773) hV15773), (IvM_f15 (I := I15773) (A := A15773) hV15773), (IvM_f16 (I := I15773) (A := A15773) hV15773), (IvM_f17 (I := I15773) (A := A15773) hV15773), (IvM_f18 (I := I15773) (A := A15773) hV15773), (IvM_f22 (I := I15773) (A := A15773) hV15773), (IvM_f23 (I := I15773) (A := A15773) hV15773), (IvM_f24 (I := I15773) (A := A15773) hV15773), (IvM_a11 (I := I15773) (A := A15773) hV15773), (IvM_a26 (I := I15773) (A := A15773) hV15773), (IvM_s8_0 (I := I15773) (A := A15773) hV15773), (IvM_s8_1 (I := I15773) (A := A15773) hV15773), (IvM_s10_0 (I := I15773) (A := A15773) hV15773), (IvM_s10_1 (I := I15773) (A := A15773) hV15773), (IvM_s17_0 (I := I15773) (A := A15773) hV15773), (IvM_s17_164 (I := I15773) (A := A15773) hV15773), ⟨fun e => by have e : (I15773 15).toInt = 0 := e; first | exact (IvM_lv (I := I15773) (A := A15773) hV15773).1 e | (exfalso; omega), fun e => by have e : (I15773 15).toInt = 1 := e; first | exact (IvM_lv (I := I15773) (A := A15773) hV15773).2 e | (exfalso; omega)⟩, (by by_cases g6 : (I15773 6).toInt ≠ 0; exact Or.inl g6; by_cases g8 : (I15773 8).toInt ≠ 0; exact Or.inr (Or.inl g8); rcases (IvM_sd (I := I15773) (A := A15773) hV15773) with h9 | h9 | h9; exact absurd h9 g6; exact absurd h9 g8; exact Or.inr (Or.inr ⟨fun e => by have e : (I15773 16).toInt = 0 := e; first | exact ghf_a (a2 := (A15773 16 0)) (h9.1 e) (by omega) | (exfalso; omega), fun e => by have e : (I15773 16).toInt = 1 := e; first | exact ghf_a (a2 := y15772) (h9.2 e) (by omega) | (exfalso; omega)⟩)), (IvM_nq (I := I15773) (A := A15773) hV15773), (IvM_hr (I := I15773) (A := A15773) hV15773), (IvM_hh (I := I15773) (A := A15773) hV15773), trivial⟩, (by omega), (by omega), (by omega), (by omega), rfl, rfl⟩ dX12_tellOne_190
    exfalso; omega
  refine g_tabOut (tgt := 185) (a := (A 2 (I 4).toNatClampNeg).toInt) hk dX12_tellOne_9 rfl (by omega) (by decide) ?_
  refine g_aload_n hk dX12_tellOne_185 rfl ?_
  refine g_iconst (v := 1) hk dX12_tellOne_186 (by decide) ?_
  have k15789 : (1 : Int32).toInt = 1 := rfl
  refine g_callV (n := 1) hk (j128_X12_fail l D zt r g I A L 1 hIv (by decide) (by decide)) (SP.same _) (fun _ h => h) (gi_V (List.mem_cons_of_mem _ (List.mem_append_left _ (List.mem_of_getElem? (i := 15) rfl))) (List.mem_cons_of_mem _ (List.mem_append_left _ (List.mem_of_getElem? (i := 16) rfl))) (List.mem_cons_of_mem _ (List.mem_append_left _ (List.mem_of_getElem? (i := 17) rfl))) (List.mem_cons_of_mem _ (List.mem_append_left _ (List.mem_of_getElem? (i := 5) rfl))) (gi_sub (fun w h => (List.mem_cons_of_mem _ (List.mem_append_right _ (List.mem_append_right _ (List.mem_append_right _ (List.mem_append_right _ (List.mem_append_right _ (List.mem_append_left _ h)))))))) zg_j128_X12_fail)) rfl rfl rfl (by decide +kernel) ⟨Nat.le_of_ble_eq_true rfl, Nat.le_of_ble_eq_true rfl⟩ 0 rfl rfl rfl rfl (Nat.le_of_ble_eq_true rfl) ⟨Nat.le_of_ble_eq_true rfl, Nat.le_of_ble_eq_true rfl⟩ dX12_tellOne_187 (fun v ty' w' hp hk' => ?_)
  obtain ⟨I15791, A15791, L15791, hI15791, hA15791, hV15791, r15792, r15793, r15794, rfl, rfl⟩ := hp
  have f15795 := IvM_f6 hIv
  have f15796 := IvM_f6 hV15791
  have f15797 := IvM_f8 hIv
  rw [show (I15791 8) = (I 8) from (hI15791 8 rfl)] at r15793
  show GW κ 1 0 0 (wM r g I15791 A15791 L15791) 190 [(0, .ref (r 0))] []
  exact g_vret hk hR ⟨I15791, A15791, L15791, (show Md [4, 6, 7, 8, 9, 11, 12, 13, 17] I I15791 from (Md.tr Md.rf hI15791 rfl)), (show Md [8, 9, 10, 11, 12, 13, 14, 15, 16] A A15791 from (Md.tr Md.rf hA15791 rfl)), hV15791, (by rw [show (I15791 4) = (I 4) from (hI15791 4 rfl)] <;> omega), (by omega), (by rw [show (I15791 8) = (I 8) from (hI15791 8 rfl)] <;> omega), (by rw [show (I15791 4) = (I 4) from (hI15791 4 rfl)] <;> omega), rfl, rfl⟩ dX12_tellOne_190
def wo_j138_X12_begins : List Cond := [Cond.fieldLink RX12 73 "WarpDeskModel" "row" "[I", Cond.fieldLink RX12 43 "WarpDeskModel" "placesTold" "[I", Cond.fieldLink RX12 197 "WarpDeskModel" "live" "I", Cond.fieldLink RX12 58 "WarpDeskModel" "bandTold" "[I", Cond.fieldLink RX12 61 "WarpDeskModel" "levelTold" "[I", Cond.fieldLink RX12 64 "WarpDeskModel" "costTold" "[I", Cond.fieldLink RX12 67 "WarpDeskModel" "apartTold" "[I", Cond.fieldLink RX12 46 "WarpDeskModel" "seriesTold" "[I"]
def wz_j138_X12_begins : List Cond := .code yX12_begins cX12_begins 2 none :: (wo_j138_X12_begins ++ (wsX120 ++ ([] : List Cond)))
theorem zg_j138_X12_begins : ∀ w ∈ wz_j138_X12_begins, goodWord w = true := zg_cons rfl (zg_app (by decide +kernel) (zg_app zgU_wsX120 zg_nil))
theorem zi_j138_X12_begins : ∀ w ∈ wz_j138_X12_begins, w ∈ lw_tbl := zi_cons zw_1375 (zi_app (zi_cons zw_1414 (zi_cons zw_1404 (zi_cons zw_1400 (zi_cons zw_1409 (zi_cons zw_1410 (zi_cons zw_1411 (zi_cons zw_1412 (zi_cons zw_1405 zi_nil)))))))) (zi_app inX12 zi_nil))
set_option maxHeartbeats 4000000 in
set_option maxRecDepth 100000 in
theorem j138_X12_begins (l : Launch) (D : va_G) (zt : Nat × Nat × Nat × (Nat → Nat) × (Nat → Nat)) (r : Nat → Nat) (g : Nat → ClassId) (I : Nat → Int32) (A : Nat → Nat → Int32) (L : Nat → Nat → Int64) (hIv : IvM I A) : GM l D zt (tyM g) yX12_begins wz_j138_X12_begins ({ frames := 0, cells := 0, slots := 0, locals := 0 } : Room) [.ref (r 0)] (wM r g I A L) (fun v _ w' => ∃ (I' : Nat → Int32) (A' : Nat → Nat → Int32) (L' : Nat → Nat → Int64), Md [] I I' ∧ Md [18] A A' ∧ IvM I' A' ∧ (0 ≤ (A' 18 0).toInt) ∧ ((A' 18 0).toInt ≤ 160) ∧ (1 ≤ (A' 18 164).toInt) ∧ v = none ∧ w' = wM r g I' A' L') 0 0 := by
  refine GM.of (cc := cX12_begins) (maxL := 2) (ret := none) (own := RX12) (lv := [(0, .ref (r 0))]) (by decide) rfl rfl (Nat.le_of_ble_eq_true rfl) rfl (fun κ sz hk hR hN => ?_)
  have hin12 : ∀ w ∈ u_ws RX12 TX12 55, w ∈ wz_j138_X12_begins := fun w h => (List.mem_cons_of_mem _ (List.mem_append_right _ (List.mem_append_left _ h)))
  refine g_iconst (v := 0) hk dX12_begins_0 (by decide) ?_
  refine g_istore_n (lv' := [(1, .int 0), (0, .ref (r 0))]) hk dX12_begins_1 (by decide) rfl ?_
  have lp15807 : ∀ (n15809 k15808 : Nat), k15808 + n15809 = 165 → GW κ 2 0 0 (wM r g I (up2 A 18 (cpo (fun _ => 0) (A 18) 0 k15808)) L) 2 [(1, .int (nI k15808)), (0, .ref (r 0))] [] := by
    intro n15809
    induction n15809 with
    | zero =>
      intro k15808 hk15808
      obtain rfl : k15808 = 165 := by omega
      show GW κ 2 0 0 (wM r g I (up2 A 18 (cpo (fun _ => 0) (A 18) 0 165)) L) 2 [(1, .int 165), (0, .ref (r 0))] []
      refine g_iload_n hk dX12_begins_2 rfl ?_
      refine g_sipush (v := 165) hk dX12_begins_3 (by decide) ?_
      refine g_icmp_ge (tgt := 22) (a := 165) (b := 165) hk dX12_begins_6 (by decide) rfl rfl (fun _ => ?_) (fun z9 => absurd (show (165 : Int) ≤ (165 : Int) from by decide) z9)
      refine g_aload_n hk dX12_begins_22 rfl ?_
      refine gM_r0_36 hk hin12 (List.mem_cons_of_mem _ (List.mem_append_left _ (List.mem_of_getElem? (i := 0) rfl))) dX12_begins_23 ?_
      refine g_iconst (v := 0) hk dX12_begins_26 (by decide) ?_
      refine g_aload_n hk dX12_begins_27 rfl ?_
      refine gM_r0_26 hk hin12 (List.mem_cons_of_mem _ (List.mem_append_left _ (List.mem_of_getElem? (i := 1) rfl))) dX12_begins_28 ?_
      refine g_aload_n hk dX12_begins_31 rfl ?_
      refine gM_i15 (v := (I 15)) hk hin12 (List.mem_cons_of_mem _ (List.mem_append_left _ (List.mem_of_getElem? (i := 2) rfl))) dX12_begins_32 rfl ?_
      have f15812 := IvM_f15 hIv
      by_cases c15813 : (I 15).toInt = 0
      · have ec15813 : (I 15) = 0 := Int32.toInt_inj.mp c15813
        rw [ec15813]
        show GW κ 2 0 0 (wM r g I (up2 A 18 (cpo (fun _ => 0) (A 18) 0 165)) L) 35 [(1, .int 165), (0, .ref (r 0))] [.int 0, .ref (r 9), .int 0, .ref (r 19)]
        refine lM_8 (v := (A 8 0)) hk (vp_in_iff.mpr ⟨by decide, by decide⟩) rfl dX12_begins_35 ?_
        have f15814 := IvM_s8_0 hIv
        refine sM_18 (j := 0) hk (vp_in_iff.mpr ⟨by decide, by decide⟩) (by decide) dX12_begins_36 ?_
        refine g_iconst (v := 0) hk dX12_begins_37 (by decide) ?_
        refine g_istore_n (lv' := [(1, .int 0), (0, .ref (r 0))]) hk dX12_begins_38 (by decide) rfl ?_
        have lp15844 : ∀ (n15845 : Nat) (x15815 : Int32) (I15817 : Nat → Int32) (A15817 : Nat → Nat → Int32) (L15817 : Nat → Nat → Int64), (Md [] I I15817) → (Md [18] (up3 (up2 A 18 (cpo (fun _ => 0) (A 18) 0 165)) 18 0 (A 8 0)) A15817) → (IvM I15817 A15817) → (0 ≤ x15815.toInt) → (x15815.toInt ≤ 160) → (0 ≤ (A15817 18 0).toInt) → ((A15817 18 0).toInt ≤ 160) → (161 - x15815.toInt < (n15845 : Int)) → (0 < n15845) → GW κ 2 0 0 (wM r g I15817 A15817 L15817) 39 [(1, .int x15815), (0, .ref (r 0))] [] := by
          intro n15845
          induction n15845 with
          | zero =>
            intro x15815 I15817 A15817 L15817 hI15817 hA15817 hV15817 h15840 h15841 h15842 h15843 m15846 m15846z
            exact absurd m15846z (Nat.lt_irrefl 0)
          | succ n15845 ih15847 =>
            intro x15815 I15817 A15817 L15817 hI15817 hA15817 hV15817 h15840 h15841 h15842 h15843 m15846 m15846z
            refine g_iload_n hk dX12_begins_39 rfl ?_
            refine g_aload_n hk dX12_begins_40 rfl ?_
            refine gM_r0_36 hk hin12 (List.mem_cons_of_mem _ (List.mem_append_left _ (List.mem_of_getElem? (i := 0) rfl))) dX12_begins_41 ?_
            refine g_iconst (v := 0) hk dX12_begins_44 (by decide) ?_
            refine lM_18 (v := (A15817 18 0)) hk (vp_in_iff.mpr ⟨by decide, by decide⟩) rfl dX12_begins_45 ?_
            refine g_icmp_ge (tgt := 78) (a := x15815.toInt) (b := (A15817 18 0).toInt) hk dX12_begins_46 (by decide) rfl rfl (fun c15848 => ?_) (fun c15848 => ?_)
            · skip
              refine g_aload_n hk dX12_begins_78 rfl ?_
              refine gM_r0_36 hk hin12 (List.mem_cons_of_mem _ (List.mem_append_left _ (List.mem_of_getElem? (i := 0) rfl))) dX12_begins_79 ?_
              refine g_sipush (v := 161) hk dX12_begins_82 (by decide) ?_
              refine g_aload_n hk dX12_begins_85 rfl ?_
              refine gM_r0_31 hk hin12 (List.mem_cons_of_mem _ (List.mem_append_left _ (List.mem_of_getElem? (i := 3) rfl))) dX12_begins_86 ?_
              refine g_aload_n hk dX12_begins_89 rfl ?_
              refine gM_i15 (v := (I 15)) hk hin12 (List.mem_cons_of_mem _ (List.mem_append_left _ (List.mem_of_getElem? (i := 2) rfl))) dX12_begins_90 (hI15817 15 rfl) ?_
              by_cases c15849 : (I 15).toInt = 0
              · have ec15849 : (I 15) = 0 := Int32.toInt_inj.mp c15849
                rw [ec15849]
                show GW κ 2 0 0 (wM r g I15817 A15817 L15817) 93 [(1, .int x15815), (0, .ref (r 0))] [.int 0, .ref (r 14), .int 161, .ref (r 19)]
                refine lM_13 (v := (A 13 0)) hk (vp_in_iff.mpr ⟨by decide, by decide⟩) (congrFun (hA15817 13 rfl) _) dX12_begins_93 ?_
                refine sM_18 (j := 161) hk (vp_in_iff.mpr ⟨by decide, by decide⟩) (by decide) dX12_begins_94 ?_
                refine g_aload_n hk dX12_begins_95 rfl ?_
                refine gM_r0_36 hk hin12 (List.mem_cons_of_mem _ (List.mem_append_left _ (List.mem_of_getElem? (i := 0) rfl))) dX12_begins_96 ?_
                refine g_sipush (v := 162) hk dX12_begins_99 (by decide) ?_
                refine g_aload_n hk dX12_begins_102 rfl ?_
                refine gM_r0_32 hk hin12 (List.mem_cons_of_mem _ (List.mem_append_left _ (List.mem_of_getElem? (i := 4) rfl))) dX12_begins_103 ?_
                refine g_aload_n hk dX12_begins_106 rfl ?_
                refine gM_i15 (v := (I 15)) hk hin12 (List.mem_cons_of_mem _ (List.mem_append_left _ (List.mem_of_getElem? (i := 2) rfl))) dX12_begins_107 (hI15817 15 rfl) ?_
                by_cases c15850 : (I 15).toInt = 0
                · have ec15850 : (I 15) = 0 := Int32.toInt_inj.mp c15850
                  rw [ec15850]
                  show GW κ 2 0 0 (wM r g I15817 (up3 A15817 18 161 (A 13 0)) L15817) 110 [(1, .int x15815), (0, .ref (r 0))] [.int 0, .ref (r 15), .int 162, .ref (r 19)]
                  refine lM_14 (v := (A 14 0)) hk (vp_in_iff.mpr ⟨by decide, by decide⟩) (congrFun (hA15817 14 rfl) _) dX12_begins_110 ?_
                  refine sM_18 (j := 162) hk (vp_in_iff.mpr ⟨by decide, by decide⟩) (by decide) dX12_begins_111 ?_
                  refine g_aload_n hk dX12_begins_112 rfl ?_
                  refine gM_r0_36 hk hin12 (List.mem_cons_of_mem _ (List.mem_append_left _ (List.mem_of_getElem? (i := 0) rfl))) dX12_begins_113 ?_
                  refine g_sipush (v := 163) hk dX12_begins_116 (by decide) ?_
                  refine g_aload_n hk dX12_begins_119 rfl ?_
                  refine gM_r0_33 hk hin12 (List.mem_cons_of_mem _ (List.mem_append_left _ (List.mem_of_getElem? (i := 5) rfl))) dX12_begins_120 ?_
                  refine g_aload_n hk dX12_begins_123 rfl ?_
                  refine gM_i15 (v := (I 15)) hk hin12 (List.mem_cons_of_mem _ (List.mem_append_left _ (List.mem_of_getElem? (i := 2) rfl))) dX12_begins_124 (hI15817 15 rfl) ?_
                  by_cases c15851 : (I 15).toInt = 0
                  · have ec15851 : (I 15) = 0 := Int32.toInt_inj.mp c15851
                    rw [ec15851]
                    show GW κ 2 0 0 (wM r g I15817 (up3 (up3 A15817 18 161 (A 13 0)) 18 162 (A 14 0)) L15817) 127 [(1, .int x15815), (0, .ref (r 0))] [.int 0, .ref (r 16), .int 163, .ref (r 19)]
                    refine lM_15 (v := (A 15 0)) hk (vp_in_iff.mpr ⟨by decide, by decide⟩) (congrFun (hA15817 15 rfl) _) dX12_begins_127 ?_
                    refine sM_18 (j := 163) hk (vp_in_iff.mpr ⟨by decide, by decide⟩) (by decide) dX12_begins_128 ?_
                    refine g_aload_n hk dX12_begins_129 rfl ?_
                    refine gM_r0_36 hk hin12 (List.mem_cons_of_mem _ (List.mem_append_left _ (List.mem_of_getElem? (i := 0) rfl))) dX12_begins_130 ?_
                    refine g_sipush (v := 164) hk dX12_begins_133 (by decide) ?_
                    refine g_aload_n hk dX12_begins_136 rfl ?_
                    refine gM_r0_34 hk hin12 (List.mem_cons_of_mem _ (List.mem_append_left _ (List.mem_of_getElem? (i := 6) rfl))) dX12_begins_137 ?_
                    refine g_aload_n hk dX12_begins_140 rfl ?_
                    refine gM_i15 (v := (I 15)) hk hin12 (List.mem_cons_of_mem _ (List.mem_append_left _ (List.mem_of_getElem? (i := 2) rfl))) dX12_begins_141 (hI15817 15 rfl) ?_
                    by_cases c15852 : (I 15).toInt = 0
                    · have ec15852 : (I 15) = 0 := Int32.toInt_inj.mp c15852
                      rw [ec15852]
                      show GW κ 2 0 0 (wM r g I15817 (up3 (up3 (up3 A15817 18 161 (A 13 0)) 18 162 (A 14 0)) 18 163 (A 15 0)) L15817) 144 [(1, .int x15815), (0, .ref (r 0))] [.int 0, .ref (r 17), .int 164, .ref (r 19)]
                      refine lM_16 (v := (A 16 0)) hk (vp_in_iff.mpr ⟨by decide, by decide⟩) (congrFun (hA15817 16 rfl) _) dX12_begins_144 ?_
                      refine sM_18 (j := 164) hk (vp_in_iff.mpr ⟨by decide, by decide⟩) (by decide) dX12_begins_145 ?_
                      have g15853 : 1 ≤ (A 16 0).toInt := ((IvM_lv (I := I) (A := A) hIv).1 (by omega)).1
                      exact g_vret hk hR ⟨I15817, (up3 (up3 (up3 (up3 A15817 18 161 (A 13 0)) 18 162 (A 14 0)) 18 163 (A 15 0)) 18 164 (A 16 0)), L15817, (show Md [] I I15817 from (Md.tr Md.rf hI15817 rfl)), (show Md [18] A (up3 (up3 (up3 (up3 A15817 18 161 (A 13 0)) 18 162 (A 14 0)) 18 163 (A 15 0)) 18 164 (A 16 0)) from (Md.up3 (Md.up3 (Md.up3 (Md.up3 (Md.tr (Md.up3 (Md.up2 Md.rf rfl) rfl) hA15817 rfl) rfl) rfl) rfl) rfl)), ⟨(IvM_f1 (I := I15817) (A := A15817) hV15817), (IvM_f2 (I := I15817) (A := A15817) hV15817), (IvM_f3 (I := I15817) (A := A15817) hV15817), (IvM_f4 (I := I15817) (A := A15817) hV15817), (IvM_f6 (I := I15817) (A := A15817) hV15817), (IvM_f8 (I := I15817) (A := A15817) hV15817), (IvM_f15 (I := I15817) (A := A15817) hV15817), (IvM_f16 (I := I15817) (A := A15817) hV15817), (IvM_f17 (I := I15817) (A := A15817) hV15817), (IvM_f18 (I := I15817) (A := A15817) hV15817), (IvM_f22 (I := I15817) (A := A15817) hV15817), (IvM_f23 (I := I15817) (A := A15817) hV15817), (IvM_f24 (I := I15817) (A := A15817) hV15817), (IvM_a11 (I := I15817) (A := A15817) hV15817), (IvM_a26 (I := I15817) (A := A15817) hV15817), (IvM_s8_0 (I := I15817) (A := A15817) hV15817), (IvM_s8_1 (I := I15817) (A := A15817) hV15817), (IvM_s10_0 (I := I15817) (A := A15817) hV15817), (IvM_s10_1 (I := I15817) (A := A15817) hV15817), (IvM_s17_0 (I := I15817) (A := A15817) hV15817), (IvM_s17_164 (I := I15817) (A := A15817) hV15817), (IvM_lv (I := I15817) (A := A15817) hV15817), (IvM_sd (I := I15817) (A := A15817) hV15817), (IvM_nq (I := I15817) (A := A15817) hV15817), (IvM_hr (I := I15817) (A := A15817) hV15817), (IvM_hh (I := I15817) (A := A15817) hV15817), trivial⟩, (by rw [show ((up3 (up3 (up3 (up3 A15817 18 161 (A 13 0)) 18 162 (A 14 0)) 18 163 (A 15 0)) 18 164 (A 16 0)) 18 0) = (A15817 18 0) from rfl] <;> omega), (by rw [show ((up3 (up3 (up3 (up3 A15817 18 161 (A 13 0)) 18 162 (A 14 0)) 18 163 (A 15 0)) 18 164 (A 16 0)) 18 0) = (A15817 18 0) from rfl] <;> omega), (by rw [show ((up3 (up3 (up3 (up3 A15817 18 161 (A 13 0)) 18 162 (A 14 0)) 18 163 (A 15 0)) 18 164 (A 16 0)) 18 164) = (A 16 0) from rfl] <;> omega), rfl, rfl⟩ dX12_begins_146
                    exfalso; omega
                  exfalso; omega
                exfalso; omega
              exfalso; omega
            · skip
              refine g_aload_n hk dX12_begins_49 rfl ?_
              refine gM_r0_36 hk hin12 (List.mem_cons_of_mem _ (List.mem_append_left _ (List.mem_of_getElem? (i := 0) rfl))) dX12_begins_50 ?_
              refine g_iconst (v := 1) hk dX12_begins_53 (by decide) ?_
              refine g_iload_n hk dX12_begins_54 rfl ?_
              refine g_iadd hk dX12_begins_55 ?_
              refine g_topi (fun y15854 ey15854 => ?_)
              have hy15854 : y15854.toInt = 1 + x15815.toInt := i32_add ey15854 rfl rfl (by omega) (by omega)
              refine g_aload_n hk dX12_begins_56 rfl ?_
              refine gM_r0_27 hk hin12 (List.mem_cons_of_mem _ (List.mem_append_left _ (List.mem_of_getElem? (i := 7) rfl))) dX12_begins_57 ?_
              refine g_sipush (v := 160) hk dX12_begins_60 (by decide) ?_
              refine g_aload_n hk dX12_begins_63 rfl ?_
              refine gM_i15 (v := (I 15)) hk hin12 (List.mem_cons_of_mem _ (List.mem_append_left _ (List.mem_of_getElem? (i := 2) rfl))) dX12_begins_64 (hI15817 15 rfl) ?_
              by_cases c15855 : (I 15).toInt = 0
              · have ec15855 : (I 15) = 0 := Int32.toInt_inj.mp c15855
                rw [ec15855]
                show GW κ 2 0 0 (wM r g I15817 A15817 L15817) 67 [(1, .int x15815), (0, .ref (r 0))] [.int 0, .int 160, .ref (r 10), .int y15854, .ref (r 19)]
                refine g_imul hk dX12_begins_67 ?_
                refine g_norm (v := 0) (by decide) ?_
                refine g_iload_n hk dX12_begins_68 rfl ?_
                refine g_iadd hk dX12_begins_69 ?_
                refine g_topi (fun y15856 ey15856 => ?_)
                have hy15856 : y15856.toInt = 0 + x15815.toInt := i32_add ey15856 rfl rfl (by omega) (by omega)
                refine lM_9 (v := (A 9 y15856.toNatClampNeg)) hk (vp_in_iff.mpr ⟨by omega, by omega⟩) (congrFun (hA15817 9 rfl) _) dX12_begins_70 ?_
                refine sM_18 (j := y15854.toNatClampNeg) hk (vp_in_iff.mpr ⟨by omega, by omega⟩) rfl dX12_begins_71 ?_
                have hS15857 : (up3 A15817 18 (y15854.toNatClampNeg) (A 9 y15856.toNatClampNeg)) 18 0 = (A15817 18 0) := (up3_ne (by have := cl_int (y := y15854) (by omega); omega)).trans (show A15817 18 0 = (A15817 18 0) from rfl)
                have hS15858 : (up3 A15817 18 (y15854.toNatClampNeg) (A 9 y15856.toNatClampNeg)) 18 164 = (A15817 18 164) := (up3_ne (by have := cl_int (y := y15854) (by omega); omega)).trans (show A15817 18 164 = (A15817 18 164) from rfl)
                obtain ⟨y15859, ey15859⟩ : ∃ y : Int32, y = x15815 + Int32.ofInt 1 := ⟨_, rfl⟩
                have hy15859 : y15859.toInt = x15815.toInt + 1 := i32_add ey15859 rfl (by decide) (by omega) (by omega)
                refine g_iinc (v := y15859) (lv' := [(1, .int y15859), (0, .ref (r 0))]) hk 0 dX12_begins_72 rfl ey15859.symm (by decide) rfl ?_
                refine g_goto (tgt := 39) hk dX12_begins_75 (by decide) ?_
                exact g_lv (List.forall_mem_cons.mpr ⟨List.mem_of_getElem? (i := 0) rfl, (List.forall_mem_cons.mpr ⟨List.mem_of_getElem? (i := 1) rfl, (fun _ h => absurd h List.not_mem_nil)⟩)⟩) (ih15847 y15859 I15817 (up3 A15817 18 (y15854.toNatClampNeg) (A 9 y15856.toNatClampNeg)) L15817 (show Md [] I I15817 from Md.tr hI15817 (show Md [] I15817 I15817 from Md.rf) rfl) (show Md [18] (up3 (up2 A 18 (cpo (fun _ => 0) (A 18) 0 165)) 18 0 (A 8 0)) (up3 A15817 18 (y15854.toNatClampNeg) (A 9 y15856.toNatClampNeg)) from Md.tr hA15817 (show Md [18] A15817 (up3 A15817 18 (y15854.toNatClampNeg) (A 9 y15856.toNatClampNeg)) from (Md.up3 Md.rf rfl)) rfl) ⟨(IvM_f1 (I := I15817) (A := A15817) hV15817), (IvM_f2 (I := I15817) (A := A15817) hV15817), (IvM_f3 (I := I15817) (A := A15817) hV15817), (IvM_f4 (I := I15817) (A := A15817) hV15817), (IvM_f6 (I := I15817) (A := A15817) hV15817), (IvM_f8 (I := I15817) (A := A15817) hV15817), (IvM_f15 (I := I15817) (A := A15817) hV15817), (IvM_f16 (I := I15817) (A := A15817) hV15817), (IvM_f17 (I := I15817) (A := A15817) hV15817), (IvM_f18 (I := I15817) (A := A15817) hV15817), (IvM_f22 (I := I15817) (A := A15817) hV15817), (IvM_f23 (I := I15817) (A := A15817) hV15817), (IvM_f24 (I := I15817) (A := A15817) hV15817), (IvM_a11 (I := I15817) (A := A15817) hV15817), (IvM_a26 (I := I15817) (A := A15817) hV15817), (IvM_s8_0 (I := I15817) (A := A15817) hV15817), (IvM_s8_1 (I := I15817) (A := A15817) hV15817), (IvM_s10_0 (I := I15817) (A := A15817) hV15817), (IvM_s10_1 (I := I15817) (A := A15817) hV15817), (IvM_s17_0 (I := I15817) (A := A15817) hV15817), (IvM_s17_164 (I := I15817) (A := A15817) hV15817), (IvM_lv (I := I15817) (A := A15817) hV15817), (IvM_sd (I := I15817) (A := A15817) hV15817), (IvM_nq (I := I15817) (A := A15817) hV15817), (IvM_hr (I := I15817) (A := A15817) hV15817), (IvM_hh (I := I15817) (A := A15817) hV15817), trivial⟩ (by omega) (by omega) (by first | (rw [show ((up3 A15817 18 (y15854.toNatClampNeg) (A 9 y15856.toNatClampNeg)) 18 0) = (A15817 18 0) from hS15857] <;> omega) | omega) (by first | (rw [show ((up3 A15817 18 (y15854.toNatClampNeg) (A 9 y15856.toNatClampNeg)) 18 0) = (A15817 18 0) from hS15857] <;> omega) | omega) (by omega) (by omega))
              exfalso; omega
        have k15860 : (0 : Int32).toInt = 0 := rfl
        obtain ⟨n15861, n15861a, n15861b⟩ : ∃ n : Nat, 161 - (0 : Int32).toInt < (n : Int) ∧ 0 < n := ⟨((161 - (0 : Int32).toInt : Int)).toNat + 1, by omega, by omega⟩
        exact lp15844 n15861 0 I (up3 (up2 A 18 (cpo (fun _ => 0) (A 18) 0 165)) 18 0 (A 8 0)) L Md.rf Md.rf ⟨(IvM_f1 (I := I) (A := A) hIv), (IvM_f2 (I := I) (A := A) hIv), (IvM_f3 (I := I) (A := A) hIv), (IvM_f4 (I := I) (A := A) hIv), (IvM_f6 (I := I) (A := A) hIv), (IvM_f8 (I := I) (A := A) hIv), (IvM_f15 (I := I) (A := A) hIv), (IvM_f16 (I := I) (A := A) hIv), (IvM_f17 (I := I) (A := A) hIv), (IvM_f18 (I := I) (A := A) hIv), (IvM_f22 (I := I) (A := A) hIv), (IvM_f23 (I := I) (A := A) hIv), (IvM_f24 (I := I) (A := A) hIv), (IvM_a11 (I := I) (A := A) hIv), (IvM_a26 (I := I) (A := A) hIv), (IvM_s8_0 (I := I) (A := A) hIv), (IvM_s8_1 (I := I) (A := A) hIv), (IvM_s10_0 (I := I) (A := A) hIv), (IvM_s10_1 (I := I) (A := A) hIv), (IvM_s17_0 (I := I) (A := A) hIv), (IvM_s17_164 (I := I) (A := A) hIv), (IvM_lv (I := I) (A := A) hIv), (IvM_sd (I := I) (A := A) hIv), (IvM_nq (I := I) (A := A) hIv), (IvM_hr (I := I) (A := A) hIv), (IvM_hh (I := I) (A := A) hIv), trivial⟩ (by omega) (by omega) (by first | (rw [show ((up3 (up2 A 18 (cpo (fun _ => 0) (A 18) 0 165)) 18 0 (A 8 0)) 18 0) = (A 8 0) from rfl] <;> omega) | omega) (by first | (rw [show ((up3 (up2 A 18 (cpo (fun _ => 0) (A 18) 0 165)) 18 0 (A 8 0)) 18 0) = (A 8 0) from rfl] <;> omega) | omega) n15861a n15861b
      by_cases c15862 : (I 15).toInt = 1
      · have ec15862 : (I 15) = 1 := Int32.toInt_inj.mp c15862
        rw [ec15862]
        show GW κ 2 0 0 (wM r g I (up2 A 18 (cpo (fun _ => 0) (A 18) 0 165)) L) 35 [(1, .int 165), (0, .ref (r 0))] [.int 1, .ref (r 9), .int 0, .ref (r 19)]
        refine lM_8 (v := (A 8 1)) hk (vp_in_iff.mpr ⟨by decide, by decide⟩) rfl dX12_begins_35 ?_
        have f15863 := IvM_s8_1 hIv
        refine sM_18 (j := 0) hk (vp_in_iff.mpr ⟨by decide, by decide⟩) (by decide) dX12_begins_36 ?_
        refine g_iconst (v := 0) hk dX12_begins_37 (by decide) ?_
        refine g_istore_n (lv' := [(1, .int 0), (0, .ref (r 0))]) hk dX12_begins_38 (by decide) rfl ?_
        have lp15893 : ∀ (n15894 : Nat) (x15864 : Int32) (I15866 : Nat → Int32) (A15866 : Nat → Nat → Int32) (L15866 : Nat → Nat → Int64), (Md [] I I15866) → (Md [18] (up3 (up2 A 18 (cpo (fun _ => 0) (A 18) 0 165)) 18 0 (A 8 1)) A15866) → (IvM I15866 A15866) → (0 ≤ x15864.toInt) → (x15864.toInt ≤ 160) → (0 ≤ (A15866 18 0).toInt) → ((A15866 18 0).toInt ≤ 160) → (161 - x15864.toInt < (n15894 : Int)) → (0 < n15894) → GW κ 2 0 0 (wM r g I15866 A15866 L15866) 39 [(1, .int x15864), (0, .ref (r 0))] [] := by
          intro n15894
          induction n15894 with
          | zero =>
            intro x15864 I15866 A15866 L15866 hI15866 hA15866 hV15866 h15889 h15890 h15891 h15892 m15895 m15895z
            exact absurd m15895z (Nat.lt_irrefl 0)
          | succ n15894 ih15896 =>
            intro x15864 I15866 A15866 L15866 hI15866 hA15866 hV15866 h15889 h15890 h15891 h15892 m15895 m15895z
            refine g_iload_n hk dX12_begins_39 rfl ?_
            refine g_aload_n hk dX12_begins_40 rfl ?_
            refine gM_r0_36 hk hin12 (List.mem_cons_of_mem _ (List.mem_append_left _ (List.mem_of_getElem? (i := 0) rfl))) dX12_begins_41 ?_
            refine g_iconst (v := 0) hk dX12_begins_44 (by decide) ?_
            refine lM_18 (v := (A15866 18 0)) hk (vp_in_iff.mpr ⟨by decide, by decide⟩) rfl dX12_begins_45 ?_
            refine g_icmp_ge (tgt := 78) (a := x15864.toInt) (b := (A15866 18 0).toInt) hk dX12_begins_46 (by decide) rfl rfl (fun c15897 => ?_) (fun c15897 => ?_)
            · skip
              refine g_aload_n hk dX12_begins_78 rfl ?_
              refine gM_r0_36 hk hin12 (List.mem_cons_of_mem _ (List.mem_append_left _ (List.mem_of_getElem? (i := 0) rfl))) dX12_begins_79 ?_
              refine g_sipush (v := 161) hk dX12_begins_82 (by decide) ?_
              refine g_aload_n hk dX12_begins_85 rfl ?_
              refine gM_r0_31 hk hin12 (List.mem_cons_of_mem _ (List.mem_append_left _ (List.mem_of_getElem? (i := 3) rfl))) dX12_begins_86 ?_
              refine g_aload_n hk dX12_begins_89 rfl ?_
              refine gM_i15 (v := (I 15)) hk hin12 (List.mem_cons_of_mem _ (List.mem_append_left _ (List.mem_of_getElem? (i := 2) rfl))) dX12_begins_90 (hI15866 15 rfl) ?_
              by_cases c15898 : (I 15).toInt = 1
              · have ec15898 : (I 15) = 1 := Int32.toInt_inj.mp c15898
                rw [ec15898]
                show GW κ 2 0 0 (wM r g I15866 A15866 L15866) 93 [(1, .int x15864), (0, .ref (r 0))] [.int 1, .ref (r 14), .int 161, .ref (r 19)]
                refine lM_13 (v := (A 13 1)) hk (vp_in_iff.mpr ⟨by decide, by decide⟩) (congrFun (hA15866 13 rfl) _) dX12_begins_93 ?_
                refine sM_18 (j := 161) hk (vp_in_iff.mpr ⟨by decide, by decide⟩) (by decide) dX12_begins_94 ?_
                refine g_aload_n hk dX12_begins_95 rfl ?_
                refine gM_r0_36 hk hin12 (List.mem_cons_of_mem _ (List.mem_append_left _ (List.mem_of_getElem? (i := 0) rfl))) dX12_begins_96 ?_
                refine g_sipush (v := 162) hk dX12_begins_99 (by decide) ?_
                refine g_aload_n hk dX12_begins_102 rfl ?_
                refine gM_r0_32 hk hin12 (List.mem_cons_of_mem _ (List.mem_append_left _ (List.mem_of_getElem? (i := 4) rfl))) dX12_begins_103 ?_
                refine g_aload_n hk dX12_begins_106 rfl ?_
                refine gM_i15 (v := (I 15)) hk hin12 (List.mem_cons_of_mem _ (List.mem_append_left _ (List.mem_of_getElem? (i := 2) rfl))) dX12_begins_107 (hI15866 15 rfl) ?_
                by_cases c15899 : (I 15).toInt = 1
                · have ec15899 : (I 15) = 1 := Int32.toInt_inj.mp c15899
                  rw [ec15899]
                  show GW κ 2 0 0 (wM r g I15866 (up3 A15866 18 161 (A 13 1)) L15866) 110 [(1, .int x15864), (0, .ref (r 0))] [.int 1, .ref (r 15), .int 162, .ref (r 19)]
                  refine lM_14 (v := (A 14 1)) hk (vp_in_iff.mpr ⟨by decide, by decide⟩) (congrFun (hA15866 14 rfl) _) dX12_begins_110 ?_
                  refine sM_18 (j := 162) hk (vp_in_iff.mpr ⟨by decide, by decide⟩) (by decide) dX12_begins_111 ?_
                  refine g_aload_n hk dX12_begins_112 rfl ?_
                  refine gM_r0_36 hk hin12 (List.mem_cons_of_mem _ (List.mem_append_left _ (List.mem_of_getElem? (i := 0) rfl))) dX12_begins_113 ?_
                  refine g_sipush (v := 163) hk dX12_begins_116 (by decide) ?_
                  refine g_aload_n hk dX12_begins_119 rfl ?_
                  refine gM_r0_33 hk hin12 (List.mem_cons_of_mem _ (List.mem_append_left _ (List.mem_of_getElem? (i := 5) rfl))) dX12_begins_120 ?_
                  refine g_aload_n hk dX12_begins_123 rfl ?_
                  refine gM_i15 (v := (I 15)) hk hin12 (List.mem_cons_of_mem _ (List.mem_append_left _ (List.mem_of_getElem? (i := 2) rfl))) dX12_begins_124 (hI15866 15 rfl) ?_
                  by_cases c15900 : (I 15).toInt = 1
                  · have ec15900 : (I 15) = 1 := Int32.toInt_inj.mp c15900
                    rw [ec15900]
                    show GW κ 2 0 0 (wM r g I15866 (up3 (up3 A15866 18 161 (A 13 1)) 18 162 (A 14 1)) L15866) 127 [(1, .int x15864), (0, .ref (r 0))] [.int 1, .ref (r 16), .int 163, .ref (r 19)]
                    refine lM_15 (v := (A 15 1)) hk (vp_in_iff.mpr ⟨by decide, by decide⟩) (congrFun (hA15866 15 rfl) _) dX12_begins_127 ?_
                    refine sM_18 (j := 163) hk (vp_in_iff.mpr ⟨by decide, by decide⟩) (by decide) dX12_begins_128 ?_
                    refine g_aload_n hk dX12_begins_129 rfl ?_
                    refine gM_r0_36 hk hin12 (List.mem_cons_of_mem _ (List.mem_append_left _ (List.mem_of_getElem? (i := 0) rfl))) dX12_begins_130 ?_
                    refine g_sipush (v := 164) hk dX12_begins_133 (by decide) ?_
                    refine g_aload_n hk dX12_begins_136 rfl ?_
                    refine gM_r0_34 hk hin12 (List.mem_cons_of_mem _ (List.mem_append_left _ (List.mem_of_getElem? (i := 6) rfl))) dX12_begins_137 ?_
                    refine g_aload_n hk dX12_begins_140 rfl ?_
                    refine gM_i15 (v := (I 15)) hk hin12 (List.mem_cons_of_mem _ (List.mem_append_left _ (List.mem_of_getElem? (i := 2) rfl))) dX12_begins_141 (hI15866 15 rfl) ?_
                    by_cases c15901 : (I 15).toInt = 1
                    · have ec15901 : (I 15) = 1 := Int32.toInt_inj.mp c15901
                      rw [ec15901]
                      show GW κ 2 0 0 (wM r g I15866 (up3 (up3 (up3 A15866 18 161 (A 13 1)) 18 162 (A 14 1)) 18 163 (A 15 1)) L15866) 144 [(1, .int x15864), (0, .ref (r 0))] [.int 1, .ref (r 17), .int 164, .ref (r 19)]
                      refine lM_16 (v := (A 16 1)) hk (vp_in_iff.mpr ⟨by decide, by decide⟩) (congrFun (hA15866 16 rfl) _) dX12_begins_144 ?_
                      refine sM_18 (j := 164) hk (vp_in_iff.mpr ⟨by decide, by decide⟩) (by decide) dX12_begins_145 ?_
                      have g15902 : 1 ≤ (A 16 1).toInt := ((IvM_lv (I := I) (A := A) hIv).2 (by omega)).1
                      exact g_vret hk hR ⟨I15866, (up3 (up3 (up3 (up3 A15866 18 161 (A 13 1)) 18 162 (A 14 1)) 18 163 (A 15 1)) 18 164 (A 16 1)), L15866, (show Md [] I I15866 from (Md.tr Md.rf hI15866 rfl)), (show Md [18] A (up3 (up3 (up3 (up3 A15866 18 161 (A 13 1)) 18 162 (A 14 1)) 18 163 (A 15 1)) 18 164 (A 16 1)) from (Md.up3 (Md.up3 (Md.up3 (Md.up3 (Md.tr (Md.up3 (Md.up2 Md.rf rfl) rfl) hA15866 rfl) rfl) rfl) rfl) rfl)), ⟨(IvM_f1 (I := I15866) (A := A15866) hV15866), (IvM_f2 (I := I15866) (A := A15866) hV15866), (IvM_f3 (I := I15866) (A := A15866) hV15866), (IvM_f4 (I := I15866) (A := A15866) hV15866), (IvM_f6 (I := I15866) (A := A15866) hV15866), (IvM_f8 (I := I15866) (A := A15866) hV15866), (IvM_f15 (I := I15866) (A := A15866) hV15866), (IvM_f16 (I := I15866) (A := A15866) hV15866), (IvM_f17 (I := I15866) (A := A15866) hV15866), (IvM_f18 (I := I15866) (A := A15866) hV15866), (IvM_f22 (I := I15866) (A := A15866) hV15866), (IvM_f23 (I := I15866) (A := A15866) hV15866), (IvM_f24 (I := I15866) (A := A15866) hV15866), (IvM_a11 (I := I15866) (A := A15866) hV15866), (IvM_a26 (I := I15866) (A := A15866) hV15866), (IvM_s8_0 (I := I15866) (A := A15866) hV15866), (IvM_s8_1 (I := I15866) (A := A15866) hV15866), (IvM_s10_0 (I := I15866) (A := A15866) hV15866), (IvM_s10_1 (I := I15866) (A := A15866) hV15866), (IvM_s17_0 (I := I15866) (A := A15866) hV15866), (IvM_s17_164 (I := I15866) (A := A15866) hV15866), (IvM_lv (I := I15866) (A := A15866) hV15866), (IvM_sd (I := I15866) (A := A15866) hV15866), (IvM_nq (I := I15866) (A := A15866) hV15866), (IvM_hr (I := I15866) (A := A15866) hV15866), (IvM_hh (I := I15866) (A := A15866) hV15866), trivial⟩, (by rw [show ((up3 (up3 (up3 (up3 A15866 18 161 (A 13 1)) 18 162 (A 14 1)) 18 163 (A 15 1)) 18 164 (A 16 1)) 18 0) = (A15866 18 0) from rfl] <;> omega), (by rw [show ((up3 (up3 (up3 (up3 A15866 18 161 (A 13 1)) 18 162 (A 14 1)) 18 163 (A 15 1)) 18 164 (A 16 1)) 18 0) = (A15866 18 0) from rfl] <;> omega), (by rw [show ((up3 (up3 (up3 (up3 A15866 18 161 (A 13 1)) 18 162 (A 14 1)) 18 163 (A 15 1)) 18 164 (A 16 1)) 18 164) = (A 16 1) from rfl] <;> omega), rfl, rfl⟩ dX12_begins_146
                    exfalso; omega
                  exfalso; omega
                exfalso; omega
              exfalso; omega
            · skip
              refine g_aload_n hk dX12_begins_49 rfl ?_
              refine gM_r0_36 hk hin12 (List.mem_cons_of_mem _ (List.mem_append_left _ (List.mem_of_getElem? (i := 0) rfl))) dX12_begins_50 ?_
              refine g_iconst (v := 1) hk dX12_begins_53 (by decide) ?_
              refine g_iload_n hk dX12_begins_54 rfl ?_
              refine g_iadd hk dX12_begins_55 ?_
              refine g_topi (fun y15903 ey15903 => ?_)
              have hy15903 : y15903.toInt = 1 + x15864.toInt := i32_add ey15903 rfl rfl (by omega) (by omega)
              refine g_aload_n hk dX12_begins_56 rfl ?_
              refine gM_r0_27 hk hin12 (List.mem_cons_of_mem _ (List.mem_append_left _ (List.mem_of_getElem? (i := 7) rfl))) dX12_begins_57 ?_
              refine g_sipush (v := 160) hk dX12_begins_60 (by decide) ?_
              refine g_aload_n hk dX12_begins_63 rfl ?_
              refine gM_i15 (v := (I 15)) hk hin12 (List.mem_cons_of_mem _ (List.mem_append_left _ (List.mem_of_getElem? (i := 2) rfl))) dX12_begins_64 (hI15866 15 rfl) ?_
              by_cases c15904 : (I 15).toInt = 1
              · have ec15904 : (I 15) = 1 := Int32.toInt_inj.mp c15904
                rw [ec15904]
                show GW κ 2 0 0 (wM r g I15866 A15866 L15866) 67 [(1, .int x15864), (0, .ref (r 0))] [.int 1, .int 160, .ref (r 10), .int y15903, .ref (r 19)]
                refine g_imul hk dX12_begins_67 ?_
                refine g_norm (v := 160) (by decide) ?_
                refine g_iload_n hk dX12_begins_68 rfl ?_
                refine g_iadd hk dX12_begins_69 ?_
                refine g_topi (fun y15905 ey15905 => ?_)
                have hy15905 : y15905.toInt = 160 + x15864.toInt := i32_add ey15905 rfl rfl (by omega) (by omega)
                refine lM_9 (v := (A 9 y15905.toNatClampNeg)) hk (vp_in_iff.mpr ⟨by omega, by omega⟩) (congrFun (hA15866 9 rfl) _) dX12_begins_70 ?_
                refine sM_18 (j := y15903.toNatClampNeg) hk (vp_in_iff.mpr ⟨by omega, by omega⟩) rfl dX12_begins_71 ?_
                have hS15906 : (up3 A15866 18 (y15903.toNatClampNeg) (A 9 y15905.toNatClampNeg)) 18 0 = (A15866 18 0) := (up3_ne (by have := cl_int (y := y15903) (by omega); omega)).trans (show A15866 18 0 = (A15866 18 0) from rfl)
                have hS15907 : (up3 A15866 18 (y15903.toNatClampNeg) (A 9 y15905.toNatClampNeg)) 18 164 = (A15866 18 164) := (up3_ne (by have := cl_int (y := y15903) (by omega); omega)).trans (show A15866 18 164 = (A15866 18 164) from rfl)
                obtain ⟨y15908, ey15908⟩ : ∃ y : Int32, y = x15864 + Int32.ofInt 1 := ⟨_, rfl⟩
                have hy15908 : y15908.toInt = x15864.toInt + 1 := i32_add ey15908 rfl (by decide) (by omega) (by omega)
                refine g_iinc (v := y15908) (lv' := [(1, .int y15908), (0, .ref (r 0))]) hk 0 dX12_begins_72 rfl ey15908.symm (by decide) rfl ?_
                refine g_goto (tgt := 39) hk dX12_begins_75 (by decide) ?_
                exact g_lv (List.forall_mem_cons.mpr ⟨List.mem_of_getElem? (i := 0) rfl, (List.forall_mem_cons.mpr ⟨List.mem_of_getElem? (i := 1) rfl, (fun _ h => absurd h List.not_mem_nil)⟩)⟩) (ih15896 y15908 I15866 (up3 A15866 18 (y15903.toNatClampNeg) (A 9 y15905.toNatClampNeg)) L15866 (show Md [] I I15866 from Md.tr hI15866 (show Md [] I15866 I15866 from Md.rf) rfl) (show Md [18] (up3 (up2 A 18 (cpo (fun _ => 0) (A 18) 0 165)) 18 0 (A 8 1)) (up3 A15866 18 (y15903.toNatClampNeg) (A 9 y15905.toNatClampNeg)) from Md.tr hA15866 (show Md [18] A15866 (up3 A15866 18 (y15903.toNatClampNeg) (A 9 y15905.toNatClampNeg)) from (Md.up3 Md.rf rfl)) rfl) ⟨(IvM_f1 (I := I15866) (A := A15866) hV15866), (IvM_f2 (I := I15866) (A := A15866) hV15866), (IvM_f3 (I := I15866) (A := A15866) hV15866), (IvM_f4 (I := I15866) (A := A15866) hV15866), (IvM_f6 (I := I15866) (A := A15866) hV15866), (IvM_f8 (I := I15866) (A := A15866) hV15866), (IvM_f15 (I := I15866) (A := A15866) hV15866), (IvM_f16 (I := I15866) (A := A15866) hV15866), (IvM_f17 (I := I15866) (A := A15866) hV15866), (IvM_f18 (I := I15866) (A := A15866) hV15866), (IvM_f22 (I := I15866) (A := A15866) hV15866), (IvM_f23 (I := I15866) (A := A15866) hV15866), (IvM_f24 (I := I15866) (A := A15866) hV15866), (IvM_a11 (I := I15866) (A := A15866) hV15866), (IvM_a26 (I := I15866) (A := A15866) hV15866), (IvM_s8_0 (I := I15866) (A := A15866) hV15866), (IvM_s8_1 (I := I15866) (A := A15866) hV15866), (IvM_s10_0 (I := I15866) (A := A15866) hV15866), (IvM_s10_1 (I := I15866) (A := A15866) hV15866), (IvM_s17_0 (I := I15866) (A := A15866) hV15866), (IvM_s17_164 (I := I15866) (A := A15866) hV15866), (IvM_lv (I := I15866) (A := A15866) hV15866), (IvM_sd (I := I15866) (A := A15866) hV15866), (IvM_nq (I := I15866) (A := A15866) hV15866), (IvM_hr (I := I15866) (A := A15866) hV15866), (IvM_hh (I := I15866) (A := A15866) hV15866), trivial⟩ (by omega) (by omega) (by first | (rw [show ((up3 A15866 18 (y15903.toNatClampNeg) (A 9 y15905.toNatClampNeg)) 18 0) = (A15866 18 0) from hS15906] <;> omega) | omega) (by first | (rw [show ((up3 A15866 18 (y15903.toNatClampNeg) (A 9 y15905.toNatClampNeg)) 18 0) = (A15866 18 0) from hS15906] <;> omega) | omega) (by omega) (by omega))
              exfalso; omega
        have k15909 : (0 : Int32).toInt = 0 := rfl
        obtain ⟨n15910, n15910a, n15910b⟩ : ∃ n : Nat, 161 - (0 : Int32).toInt < (n : Int) ∧ 0 < n := ⟨((161 - (0 : Int32).toInt : Int)).toNat + 1, by omega, by omega⟩
        exact lp15893 n15910 0 I (up3 (up2 A 18 (cpo (fun _ => 0) (A 18) 0 165)) 18 0 (A 8 1)) L Md.rf Md.rf ⟨(IvM_f1 (I := I) (A := A) hIv), (IvM_f2 (I := I) (A := A) hIv), (IvM_f3 (I := I) (A := A) hIv), (IvM_f4 (I := I) (A := A) hIv), (IvM_f6 (I := I) (A := A) hIv), (IvM_f8 (I := I) (A := A) hIv), (IvM_f15 (I := I) (A := A) hIv), (IvM_f16 (I := I) (A := A) hIv), (IvM_f17 (I := I) (A := A) hIv), (IvM_f18 (I := I) (A := A) hIv), (IvM_f22 (I := I) (A := A) hIv), (IvM_f23 (I := I) (A := A) hIv), (IvM_f24 (I := I) (A := A) hIv), (IvM_a11 (I := I) (A := A) hIv), (IvM_a26 (I := I) (A := A) hIv), (IvM_s8_0 (I := I) (A := A) hIv), (IvM_s8_1 (I := I) (A := A) hIv), (IvM_s10_0 (I := I) (A := A) hIv), (IvM_s10_1 (I := I) (A := A) hIv), (IvM_s17_0 (I := I) (A := A) hIv), (IvM_s17_164 (I := I) (A := A) hIv), (IvM_lv (I := I) (A := A) hIv), (IvM_sd (I := I) (A := A) hIv), (IvM_nq (I := I) (A := A) hIv), (IvM_hr (I := I) (A := A) hIv), (IvM_hh (I := I) (A := A) hIv), trivial⟩ (by omega) (by omega) (by first | (rw [show ((up3 (up2 A 18 (cpo (fun _ => 0) (A 18) 0 165)) 18 0 (A 8 1)) 18 0) = (A 8 1) from rfl] <;> omega) | omega) (by first | (rw [show ((up3 (up2 A 18 (cpo (fun _ => 0) (A 18) 0 165)) 18 0 (A 8 1)) 18 0) = (A 8 1) from rfl] <;> omega) | omega) n15910a n15910b
      exfalso; omega
    | succ n15809 ih15811 =>
      intro k15808 hk15808
      obtain ⟨x15810, ex15810⟩ : ∃ x : Int32, x = nI k15808 := ⟨_, rfl⟩
      have hx15810 : x15810.toInt = (k15808 : Int) := by rw [ex15810]; exact nI_toInt (by omega)
      have cx15810 : x15810.toNatClampNeg = k15808 := cl_nat hx15810
      rw [← ex15810]
      refine g_iload_n hk dX12_begins_2 rfl ?_
      refine g_sipush (v := 165) hk dX12_begins_3 (by decide) ?_
      refine g_icmp_ge (tgt := 22) (a := x15810.toInt) (b := 165) hk dX12_begins_6 (by decide) rfl rfl (fun z9 => absurd z9 (show ¬ (165 ≤ x15810.toInt) from by omega)) (fun _ => ?_)
      refine g_aload_n hk dX12_begins_9 rfl ?_
      refine gM_r0_36 hk hin12 (List.mem_cons_of_mem _ (List.mem_append_left _ (List.mem_of_getElem? (i := 0) rfl))) dX12_begins_10 ?_
      refine g_iload_n hk dX12_begins_13 rfl ?_
      refine g_iconst (v := 0) hk dX12_begins_14 (by decide) ?_
      have k15911 : (0 : Int32).toInt = 0 := rfl
      refine sM_18 (j := x15810.toNatClampNeg) hk (vp_in_iff.mpr ⟨by omega, by omega⟩) rfl dX12_begins_15 ?_
      obtain ⟨y15912, ey15912⟩ : ∃ y : Int32, y = x15810 + Int32.ofInt 1 := ⟨_, rfl⟩
      have hy15912 : y15912.toInt = x15810.toInt + 1 := i32_add ey15912 rfl (by decide) (by omega) (by omega)
      refine g_iinc (v := y15912) (lv' := [(1, .int y15912), (0, .ref (r 0))]) hk 0 dX12_begins_16 rfl ey15912.symm (by decide) rfl ?_
      refine g_goto (tgt := 2) hk dX12_begins_19 (by decide) ?_
      have q15913 := cl_int (y := x15810) (by omega)
      have eW : (up3 (up2 A 18 (cpo (fun _ => 0) (A 18) 0 k15808)) 18 (x15810.toNatClampNeg) 0) = (up2 A 18 (cpo (fun _ => 0) (A 18) 0 (k15808 + 1))) := cpo_st (by omega) rfl
      have fy : y15912 = nI (k15808 + 1) := nI_of_toInt (by omega) (by omega)
      rw [eW, fy]
      exact g_lv (List.forall_mem_cons.mpr ⟨List.mem_of_getElem? (i := 0) rfl, (List.forall_mem_cons.mpr ⟨List.mem_of_getElem? (i := 1) rfl, (fun _ h => absurd h List.not_mem_nil)⟩)⟩) (ih15811 (k15808 + 1) (by omega))
  have lp15807e := lp15807 165 0 (by omega)
  rw [cpo_0] at lp15807e
  exact lp15807e
def wo_j139_X12_keepsRow : List Cond := [Cond.fieldLink RX12 70 "WarpDeskModel" "now" "[I", Cond.fieldLink RX12 73 "WarpDeskModel" "row" "[I"]
def wz_j139_X12_keepsRow : List Cond := .code yX12_keepsRow cX12_keepsRow 2 none :: (wo_j139_X12_keepsRow ++ (wsX120 ++ ([] : List Cond)))
theorem zg_j139_X12_keepsRow : ∀ w ∈ wz_j139_X12_keepsRow, goodWord w = true := zg_cons rfl (zg_app (by decide +kernel) (zg_app zgU_wsX120 zg_nil))
theorem zi_j139_X12_keepsRow : ∀ w ∈ wz_j139_X12_keepsRow, w ∈ lw_tbl := zi_cons zw_1379 (zi_app (zi_cons zw_1413 (zi_cons zw_1414 zi_nil)) (zi_app inX12 zi_nil))
set_option maxHeartbeats 4000000 in
set_option maxRecDepth 100000 in
theorem j139_X12_keepsRow (l : Launch) (D : va_G) (zt : Nat × Nat × Nat × (Nat → Nat) × (Nat → Nat)) (r : Nat → Nat) (g : Nat → ClassId) (I : Nat → Int32) (A : Nat → Nat → Int32) (L : Nat → Nat → Int64) (hIv : IvM I A) (hp0 : 0 ≤ (A 18 0).toInt) (hp1 : (A 18 0).toInt ≤ 160) (hp2 : 1 ≤ (A 18 164).toInt) : GM l D zt (tyM g) yX12_keepsRow wz_j139_X12_keepsRow ({ frames := 0, cells := 0, slots := 0, locals := 0 } : Room) [.ref (r 0)] (wM r g I A L) (fun v _ w' => ∃ (I' : Nat → Int32) (A' : Nat → Nat → Int32) (L' : Nat → Nat → Int64), Md [] I I' ∧ Md [17] A A' ∧ IvM I' A' ∧ v = none ∧ w' = wM r g I' A' L') 0 0 := by
  refine GM.of (cc := cX12_keepsRow) (maxL := 2) (ret := none) (own := RX12) (lv := [(0, .ref (r 0))]) (by decide) rfl rfl (Nat.le_of_ble_eq_true rfl) rfl (fun κ sz hk hR hN => ?_)
  have hin12 : ∀ w ∈ u_ws RX12 TX12 55, w ∈ wz_j139_X12_keepsRow := fun w h => (List.mem_cons_of_mem _ (List.mem_append_right _ (List.mem_append_left _ h)))
  refine g_iconst (v := 0) hk dX12_keepsRow_0 (by decide) ?_
  refine g_istore_n (lv' := [(1, .int 0), (0, .ref (r 0))]) hk dX12_keepsRow_1 (by decide) rfl ?_
  have lp15919 : ∀ (n15921 k15920 : Nat), k15920 + n15921 = 165 → GW κ 2 0 0 (wM r g I (up2 A 17 (cpo (A 18) (A 17) 0 k15920)) L) 2 [(1, .int (nI k15920)), (0, .ref (r 0))] [] := by
    intro n15921
    induction n15921 with
    | zero =>
      intro k15920 hk15920
      obtain rfl : k15920 = 165 := by omega
      show GW κ 2 0 0 (wM r g I (up2 A 17 (cpo (A 18) (A 17) 0 165)) L) 2 [(1, .int 165), (0, .ref (r 0))] []
      refine g_iload_n hk dX12_keepsRow_2 rfl ?_
      refine g_sipush (v := 165) hk dX12_keepsRow_3 (by decide) ?_
      refine g_icmp_ge (tgt := 27) (a := 165) (b := 165) hk dX12_keepsRow_6 (by decide) rfl rfl (fun _ => ?_) (fun z9 => absurd (show (165 : Int) ≤ (165 : Int) from by decide) z9)
      have g15924 := Int32.toInt_lt (A 18 164)
      exact g_vret hk hR ⟨I, (up2 A 17 (cpo (A 18) (A 17) 0 165)), L, (show Md [] I I from Md.rf), (show Md [17] A (up2 A 17 (cpo (A 18) (A 17) 0 165)) from (Md.up2 Md.rf rfl)), ⟨(IvM_f1 (I := I) (A := A) hIv), (IvM_f2 (I := I) (A := A) hIv), (IvM_f3 (I := I) (A := A) hIv), (IvM_f4 (I := I) (A := A) hIv), (IvM_f6 (I := I) (A := A) hIv), (IvM_f8 (I := I) (A := A) hIv), (IvM_f15 (I := I) (A := A) hIv), (IvM_f16 (I := I) (A := A) hIv), (IvM_f17 (I := I) (A := A) hIv), (IvM_f18 (I := I) (A := A) hIv), (IvM_f22 (I := I) (A := A) hIv), (IvM_f23 (I := I) (A := A) hIv), (IvM_f24 (I := I) (A := A) hIv), (IvM_a11 (I := I) (A := A) hIv), (IvM_a26 (I := I) (A := A) hIv), (IvM_s8_0 (I := I) (A := A) hIv), (IvM_s8_1 (I := I) (A := A) hIv), (IvM_s10_0 (I := I) (A := A) hIv), (IvM_s10_1 (I := I) (A := A) hIv), (show 0 ≤ ((up2 A 17 (cpo (A 18) (A 17) 0 165)) 17 0).toInt ∧ ((up2 A 17 (cpo (A 18) (A 17) 0 165)) 17 0).toInt ≤ 160 from by rw [show (up2 A 17 (cpo (A 18) (A 17) 0 165)) 17 0 = (A 18 0) from rfl]; exact ⟨by omega, by omega⟩), (show 1 ≤ ((up2 A 17 (cpo (A 18) (A 17) 0 165)) 17 164).toInt ∧ ((up2 A 17 (cpo (A 18) (A 17) 0 165)) 17 164).toInt ≤ 2147483647 from by rw [show (up2 A 17 (cpo (A 18) (A 17) 0 165)) 17 164 = (A 18 164) from rfl]; exact ⟨by omega, by omega⟩), (IvM_lv (I := I) (A := A) hIv), (IvM_sd (I := I) (A := A) hIv), (IvM_nq (I := I) (A := A) hIv), (IvM_hr (I := I) (A := A) hIv), (IvM_hh (I := I) (A := A) hIv), trivial⟩, rfl, rfl⟩ dX12_keepsRow_27
    | succ n15921 ih15923 =>
      intro k15920 hk15920
      obtain ⟨x15922, ex15922⟩ : ∃ x : Int32, x = nI k15920 := ⟨_, rfl⟩
      have hx15922 : x15922.toInt = (k15920 : Int) := by rw [ex15922]; exact nI_toInt (by omega)
      have cx15922 : x15922.toNatClampNeg = k15920 := cl_nat hx15922
      rw [← ex15922]
      refine g_iload_n hk dX12_keepsRow_2 rfl ?_
      refine g_sipush (v := 165) hk dX12_keepsRow_3 (by decide) ?_
      refine g_icmp_ge (tgt := 27) (a := x15922.toInt) (b := 165) hk dX12_keepsRow_6 (by decide) rfl rfl (fun z9 => absurd z9 (show ¬ (165 ≤ x15922.toInt) from by omega)) (fun _ => ?_)
      refine g_aload_n hk dX12_keepsRow_9 rfl ?_
      refine gM_r0_35 hk hin12 (List.mem_cons_of_mem _ (List.mem_append_left _ (List.mem_of_getElem? (i := 0) rfl))) dX12_keepsRow_10 ?_
      refine g_iload_n hk dX12_keepsRow_13 rfl ?_
      refine g_aload_n hk dX12_keepsRow_14 rfl ?_
      refine gM_r0_36 hk hin12 (List.mem_cons_of_mem _ (List.mem_append_left _ (List.mem_of_getElem? (i := 1) rfl))) dX12_keepsRow_15 ?_
      refine g_iload_n hk dX12_keepsRow_18 rfl ?_
      refine lM_18 (v := (A 18 x15922.toNatClampNeg)) hk (vp_in_iff.mpr ⟨by omega, by omega⟩) rfl dX12_keepsRow_19 ?_
      refine sM_17 (j := x15922.toNatClampNeg) hk (vp_in_iff.mpr ⟨by omega, by omega⟩) rfl dX12_keepsRow_20 ?_
      obtain ⟨y15925, ey15925⟩ : ∃ y : Int32, y = x15922 + Int32.ofInt 1 := ⟨_, rfl⟩
      have hy15925 : y15925.toInt = x15922.toInt + 1 := i32_add ey15925 rfl (by decide) (by omega) (by omega)
      refine g_iinc (v := y15925) (lv' := [(1, .int y15925), (0, .ref (r 0))]) hk 0 dX12_keepsRow_21 rfl ey15925.symm (by decide) rfl ?_
      refine g_goto (tgt := 2) hk dX12_keepsRow_24 (by decide) ?_
      have q15926 := cl_int (y := x15922) (by omega)
      have q15927 := cl_int (y := x15922) (by omega)
      have eW : (up3 (up2 A 17 (cpo (A 18) (A 17) 0 k15920)) 17 (x15922.toNatClampNeg) (A 18 x15922.toNatClampNeg)) = (up2 A 17 (cpo (A 18) (A 17) 0 (k15920 + 1))) := cpo_st (by omega) (show (A 18 x15922.toNatClampNeg) = (A 18 k15920) from by rw [show x15922.toNatClampNeg = k15920 from by omega])
      have fy : y15925 = nI (k15920 + 1) := nI_of_toInt (by omega) (by omega)
      rw [eW, fy]
      exact g_lv (List.forall_mem_cons.mpr ⟨List.mem_of_getElem? (i := 0) rfl, (List.forall_mem_cons.mpr ⟨List.mem_of_getElem? (i := 1) rfl, (fun _ h => absurd h List.not_mem_nil)⟩)⟩) (ih15923 (k15920 + 1) (by omega))
  have lp15919e := lp15919 165 0 (by omega)
  rw [cpo_0] at lp15919e
  exact lp15919e
