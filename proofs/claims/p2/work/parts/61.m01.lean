def wo_j129_X12_tellSeries : List Cond := [Cond.fieldLink RX12 170 "WarpDeskModel" "here" "I", Cond.methodLink RX12 235 yX12_isReading, Cond.instanceMethod yX12_isReading, Cond.selects RX12 yX12_isReading yX12_isReading, Cond.initialized RX12, Cond.methodLink RX12 188 yX12_is, Cond.instanceMethod yX12_is, Cond.selects RX12 yX12_is yX12_is, Cond.methodLink RX12 216 yX12_must, Cond.instanceMethod yX12_must, Cond.selects RX12 yX12_must yX12_must, Cond.fieldLink RX12 161 "WarpDeskModel" "fault" "I", Cond.fieldLink RX12 43 "WarpDeskModel" "placesTold" "[I", Cond.fieldLink RX12 200 "WarpDeskModel" "side" "I", Cond.fieldLink RX12 46 "WarpDeskModel" "seriesTold" "[I", Cond.methodLink RX12 240 yX12_readingTold, Cond.instanceMethod yX12_readingTold, Cond.selects RX12 yX12_readingTold yX12_readingTold, Cond.methodLink RX12 191 yX12_goesOn, Cond.instanceMethod yX12_goesOn, Cond.selects RX12 yX12_goesOn yX12_goesOn, Cond.constant RX12 239 (100000), Cond.methodLink RX12 185 yX12_fail, Cond.instanceMethod yX12_fail, Cond.selects RX12 yX12_fail yX12_fail]
def wz_j129_X12_tellSeries : List Cond := .code yX12_tellSeries cX12_tellSeries 2 none :: (wo_j129_X12_tellSeries ++ (wsX120 ++ (wz_j130_X12_isReading ++ (wz_j125_X12_is ++ (wz_j131_X12_must ++ (wz_j132_X12_readingTold ++ (wz_j127_X12_goesOn ++ (wz_j128_X12_fail ++ ([] : List Cond)))))))))
theorem zg_j129_X12_tellSeries : ∀ w ∈ wz_j129_X12_tellSeries, goodWord w = true := zg_cons rfl (zg_app (by decide +kernel) (zg_app zgU_wsX120 (zg_app zg_j130_X12_isReading (zg_app zg_j125_X12_is (zg_app zg_j131_X12_must (zg_app zg_j132_X12_readingTold (zg_app zg_j127_X12_goesOn (zg_app zg_j128_X12_fail zg_nil))))))))
theorem zi_j129_X12_tellSeries : ∀ w ∈ wz_j129_X12_tellSeries, w ∈ lw_tbl := zi_cons zw_1602 (zi_app (zi_cons zw_1396 (zi_cons zw_1603 (zi_cons zw_1605 (zi_cons zw_57 (zi_cons zw_115 (zi_cons zw_1583 (zi_cons zw_1585 (zi_cons zw_52 (zi_cons zw_1620 (zi_cons zw_1622 (zi_cons zw_61 (zi_cons zw_1391 (zi_cons zw_1404 (zi_cons zw_1401 (zi_cons zw_1405 (zi_cons zw_1608 (zi_cons zw_1610 (zi_cons zw_58 (zi_cons zw_1591 (zi_cons zw_1593 (zi_cons zw_54 (zi_cons zw_1607 (zi_cons zw_1595 (zi_cons zw_1597 (zi_cons zw_55 zi_nil))))))))))))))))))))))))) (zi_app inX12 (zi_app zi_j130_X12_isReading (zi_app zi_j125_X12_is (zi_app zi_j131_X12_must (zi_app zi_j132_X12_readingTold (zi_app zi_j127_X12_goesOn (zi_app zi_j128_X12_fail zi_nil))))))))
set_option maxHeartbeats 4000000 in
set_option maxRecDepth 100000 in
theorem j129_X12_tellSeries (l : Launch) (D : va_G) (zt : Nat × Nat × Nat × (Nat → Nat) × (Nat → Nat)) (r : Nat → Nat) (g : Nat → ClassId) (I : Nat → Int32) (A : Nat → Nat → Int32) (L : Nat → Nat → Int64) (hIv : IvM I A) : GM l D zt (tyM g) yX12_tellSeries wz_j129_X12_tellSeries ({ frames := 4, cells := 0, slots := 0, locals := 86 } : Room) [.ref (r 0)] (wM r g I A L) (fun v _ w' => ∃ (I' : Nat → Int32) (A' : Nat → Nat → Int32) (L' : Nat → Nat → Int64), Md [4, 6, 7, 8, 9, 11, 12, 13] I I' ∧ Md [8, 9] A A' ∧ IvM I' A' ∧ ((I 4).toInt ≤ (I' 4).toInt) ∧ ((I 6).toInt ≤ (I' 6).toInt) ∧ ((I 8).toInt ≤ 9 * (I' 8).toInt) ∧ v = none ∧ w' = wM r g I' A' L') 0 0 := by
  refine GM.of (cc := cX12_tellSeries) (maxL := 2) (ret := none) (own := RX12) (lv := [(0, .ref (r 0))]) (by decide) rfl rfl (Nat.le_of_ble_eq_true rfl) rfl (fun κ sz hk hR hN => ?_)
  have hin12 : ∀ w ∈ u_ws RX12 TX12 55, w ∈ wz_j129_X12_tellSeries := fun w h => (List.mem_cons_of_mem _ (List.mem_append_right _ (List.mem_append_left _ h)))
  refine g_aload_n hk dX12_tellSeries_0 rfl ?_
  refine g_iconst (v := 0) hk dX12_tellSeries_1 (by decide) ?_
  refine pM_i11 hk hin12 (List.mem_cons_of_mem _ (List.mem_append_left _ (List.mem_of_getElem? (i := 0) rfl))) dX12_tellSeries_2 ?_
  have f5715 := IvM_f4 hIv
  have f5716 := IvM_f6 hIv
  have f5717 := IvM_f8 hIv
  have lp5721 : ∀ (n5722 : Nat) (I4688 : Nat → Int32) (A4688 : Nat → Nat → Int32) (L4688 : Nat → Nat → Int64), (Md [4, 6, 7, 8, 9, 11, 12, 13] (upd I 11 0) I4688) → (Md [8, 9] A A4688) → (IvM I4688 A4688) → ((I 4).toInt ≤ (I4688 4).toInt) → ((I 6).toInt ≤ (I4688 6).toInt) → ((I 8).toInt ≤ 9 * (I4688 8).toInt) → (401 - (I4688 4).toInt < (n5722 : Int)) → (0 < n5722) → GW κ 2 0 0 (wM r g I4688 A4688 L4688) 5 [(0, .ref (r 0))] [] := by
    intro n5722
    induction n5722 with
    | zero =>
      intro I4688 A4688 L4688 hI4688 hA4688 hV4688 h5718 h5719 h5720 m5723 m5723z
      exact absurd m5723z (Nat.lt_irrefl 0)
    | succ n5722 ih5724 =>
      intro I4688 A4688 L4688 hI4688 hA4688 hV4688 h5718 h5719 h5720 m5723 m5723z
      have f5725 := IvM_f4 hV4688
      have f5726 := IvM_f6 hV4688
      have f5727 := IvM_f8 hV4688
      refine g_aload_n hk dX12_tellSeries_5 rfl ?_
      refine g_callV (n := 0) hk (j130_X12_isReading l D zt r g I4688 A4688 L4688  hV4688) (SP.same _) (fun _ h => h) (gi_V (List.mem_cons_of_mem _ (List.mem_append_left _ (List.mem_of_getElem? (i := 1) rfl))) (List.mem_cons_of_mem _ (List.mem_append_left _ (List.mem_of_getElem? (i := 2) rfl))) (List.mem_cons_of_mem _ (List.mem_append_left _ (List.mem_of_getElem? (i := 3) rfl))) (List.mem_cons_of_mem _ (List.mem_append_left _ (List.mem_of_getElem? (i := 4) rfl))) (gi_sub (fun w h => (List.mem_cons_of_mem _ (List.mem_append_right _ (List.mem_append_right _ (List.mem_append_left _ h))))) zg_j130_X12_isReading)) rfl rfl rfl (by decide +kernel) ⟨Nat.le_of_ble_eq_true rfl, Nat.le_of_ble_eq_true rfl⟩ 0 rfl rfl rfl rfl (Nat.le_of_ble_eq_true rfl) ⟨Nat.le_of_ble_eq_true rfl, Nat.le_of_ble_eq_true rfl⟩ dX12_tellSeries_6 (fun v ty' w' hp hk' => ?_)
      rcases hp with ⟨rfl, rfl⟩ | ⟨rfl, rfl⟩
      · skip
        show GW κ 2 0 0 (wM r g I4688 A4688 L4688) 9 [(0, .ref (r 0))] [.int 0]
        refine g_if_ne (tgt := 21) (a := 0) hk dX12_tellSeries_9 (by decide) rfl (fun z9 => absurd z9 (show ¬ ((0 : Int) ≠ (0 : Int)) from by decide)) (fun _ => ?_)
        refine g_aload_n hk dX12_tellSeries_12 rfl ?_
        refine g_bipush (v := 26) hk dX12_tellSeries_13 (by decide) ?_
        have k5730 : (26 : Int32).toInt = 26 := rfl
        refine g_callV (n := 1) hk (j125_X12_is l D zt r g I4688 A4688 L4688 26 hV4688) (SP.same _) (fun _ h => h) (gi_V (List.mem_cons_of_mem _ (List.mem_append_left _ (List.mem_of_getElem? (i := 5) rfl))) (List.mem_cons_of_mem _ (List.mem_append_left _ (List.mem_of_getElem? (i := 6) rfl))) (List.mem_cons_of_mem _ (List.mem_append_left _ (List.mem_of_getElem? (i := 7) rfl))) (List.mem_cons_of_mem _ (List.mem_append_left _ (List.mem_of_getElem? (i := 4) rfl))) (gi_sub (fun w h => (List.mem_cons_of_mem _ (List.mem_append_right _ (List.mem_append_right _ (List.mem_append_right _ (List.mem_append_left _ h)))))) zg_j125_X12_is)) rfl rfl rfl (by decide +kernel) ⟨Nat.le_of_ble_eq_true rfl, Nat.le_of_ble_eq_true rfl⟩ 0 rfl rfl rfl rfl (Nat.le_of_ble_eq_true rfl) ⟨Nat.le_of_ble_eq_true rfl, Nat.le_of_ble_eq_true rfl⟩ dX12_tellSeries_15 (fun v ty' w' hp hk' => ?_)
        rcases hp with ⟨c5731, rfl, rfl⟩ | ⟨c5733, rfl, rfl⟩
        · skip
          rw [show (A4688 2 (I4688 4).toNatClampNeg) = (A 2 (I4688 4).toNatClampNeg) from (congrFun (hA4688 2 rfl) _)] at c5731
          show GW κ 2 0 0 (wM r g I4688 A4688 L4688) 18 [(0, .ref (r 0))] [.int 0]
          refine g_if_eq (tgt := 134) (a := 0) hk dX12_tellSeries_18 (by decide) rfl (fun _ => ?_) (fun z9 => absurd (show (0 : Int) = (0 : Int) from by decide) z9)
          refine g_aload_n hk dX12_tellSeries_134 rfl ?_
          refine g_iconst (v := 4) hk dX12_tellSeries_135 (by decide) ?_
          have k5735 : (4 : Int32).toInt = 4 := rfl
          refine g_callV (n := 1) hk (j131_X12_must l D zt r g I4688 A4688 L4688 4 hV4688) (SP.same _) (fun _ h => h) (gi_V (List.mem_cons_of_mem _ (List.mem_append_left _ (List.mem_of_getElem? (i := 8) rfl))) (List.mem_cons_of_mem _ (List.mem_append_left _ (List.mem_of_getElem? (i := 9) rfl))) (List.mem_cons_of_mem _ (List.mem_append_left _ (List.mem_of_getElem? (i := 10) rfl))) (List.mem_cons_of_mem _ (List.mem_append_left _ (List.mem_of_getElem? (i := 4) rfl))) (gi_sub (fun w h => (List.mem_cons_of_mem _ (List.mem_append_right _ (List.mem_append_right _ (List.mem_append_right _ (List.mem_append_right _ (List.mem_append_left _ h))))))) zg_j131_X12_must)) rfl rfl rfl (by decide +kernel) ⟨Nat.le_of_ble_eq_true rfl, Nat.le_of_ble_eq_true rfl⟩ 0 rfl rfl rfl rfl (Nat.le_of_ble_eq_true rfl) ⟨Nat.le_of_ble_eq_true rfl, Nat.le_of_ble_eq_true rfl⟩ dX12_tellSeries_136 (fun v ty' w' hp hk' => ?_)
          obtain ⟨I5737, A5737, L5737, hI5737, hA5737, hV5737, r5738, r5739, r5740, r5741, r5742, rfl, rfl⟩ := hp
          have f5743 := IvM_f4 hV5737
          have f5744 := IvM_f6 hV5737
          rw [show (I5737 8) = (I4688 8) from (hI5737 8 rfl)] at r5740
          rw [show (A4688 2 (I4688 4).toNatClampNeg) = (A 2 (I4688 4).toNatClampNeg) from (congrFun (hA4688 2 rfl) _)] at r5742
          show GW κ 2 0 0 (wM r g I5737 A5737 L5737) 139 [(0, .ref (r 0))] []
          refine g_aload_n hk dX12_tellSeries_139 rfl ?_
          refine gM_i6 (v := (I5737 6)) hk hin12 (List.mem_cons_of_mem _ (List.mem_append_left _ (List.mem_of_getElem? (i := 11) rfl))) dX12_tellSeries_140 rfl ?_
          refine g_if_ne (tgt := 152) (a := (I5737 6).toInt) hk dX12_tellSeries_143 (by decide) rfl (fun c5745 => ?_) (fun c5745 => ?_)
          · skip
            have f5746 := IvM_f4 hIv
            have f5747 := IvM_f6 hIv
            have f5748 := IvM_f8 hIv
            exact g_vret hk hR ⟨I5737, A5737, L5737, (show Md [4, 6, 7, 8, 9, 11, 12, 13] I I5737 from (Md.tr (Md.tr (Md.up Md.rf rfl) hI4688 rfl) hI5737 rfl)), (show Md [8, 9] A A5737 from (Md.tr (Md.tr Md.rf hA4688 rfl) hA5737 rfl)), hV5737, (by omega), (by omega), (by rw [show (I5737 8) = (I4688 8) from (hI5737 8 rfl)] <;> omega), rfl, rfl⟩ dX12_tellSeries_152
          · skip
            refine g_aload_n hk dX12_tellSeries_146 rfl ?_
            refine g_bipush (v := (-2)) hk dX12_tellSeries_147 (by decide) ?_
            refine pM_i11 hk hin12 (List.mem_cons_of_mem _ (List.mem_append_left _ (List.mem_of_getElem? (i := 0) rfl))) dX12_tellSeries_149 ?_
            have f5749 := IvM_f4 hIv
            have f5750 := IvM_f6 hIv
            have f5751 := IvM_f8 hIv
            exact g_vret hk hR ⟨(upd I5737 11 (-2)), A5737, L5737, (show Md [4, 6, 7, 8, 9, 11, 12, 13] I (upd I5737 11 (-2)) from (Md.up (Md.tr (Md.tr (Md.up Md.rf rfl) hI4688 rfl) hI5737 rfl) rfl)), (show Md [8, 9] A A5737 from (Md.tr (Md.tr Md.rf hA4688 rfl) hA5737 rfl)), ⟨(IvM_f1 (I := I5737) (A := A5737) hV5737), (IvM_f2 (I := I5737) (A := A5737) hV5737), (IvM_f3 (I := I5737) (A := A5737) hV5737), (IvM_f4 (I := I5737) (A := A5737) hV5737), (IvM_f6 (I := I5737) (A := A5737) hV5737), (IvM_f8 (I := I5737) (A := A5737) hV5737), (IvM_f15 (I := I5737) (A := A5737) hV5737), (IvM_f16 (I := I5737) (A := A5737) hV5737), (IvM_f17 (I := I5737) (A := A5737) hV5737), (IvM_f18 (I := I5737) (A := A5737) hV5737), (IvM_f22 (I := I5737) (A := A5737) hV5737), (IvM_f23 (I := I5737) (A := A5737) hV5737), (IvM_f24 (I := I5737) (A := A5737) hV5737), (IvM_a11 (I := I5737) (A := A5737) hV5737), (IvM_a26 (I := I5737) (A := A5737) hV5737), (IvM_s8_0 (I := I5737) (A := A5737) hV5737), (IvM_s8_1 (I := I5737) (A := A5737) hV5737), (IvM_s10_0 (I := I5737) (A := A5737) hV5737), (IvM_s10_1 (I := I5737) (A := A5737) hV5737), (IvM_s17_0 (I := I5737) (A := A5737) hV5737), (IvM_s17_164 (I := I5737) (A := A5737) hV5737), (IvM_lv (I := I5737) (A := A5737) hV5737), (IvM_sd (I := I5737) (A := A5737) hV5737), (IvM_nq (I := I5737) (A := A5737) hV5737), (IvM_hr (I := I5737) (A := A5737) hV5737), (IvM_hh (I := I5737) (A := A5737) hV5737), trivial⟩, (by rw [show ((upd I5737 11 (-2)) 4) = (I5737 4) from rfl] <;> omega), (by rw [show ((upd I5737 11 (-2)) 6) = (I5737 6) from rfl] <;> omega), (by rw [show ((upd I5737 11 (-2)) 8) = (I4688 8) from (hI5737 8 rfl)] <;> omega), rfl, rfl⟩ dX12_tellSeries_152
        · skip
          rw [show (A4688 2 (I4688 4).toNatClampNeg) = (A 2 (I4688 4).toNatClampNeg) from (congrFun (hA4688 2 rfl) _)] at c5733
          show GW κ 2 0 0 (wM r g I4688 A4688 L4688) 18 [(0, .ref (r 0))] [.int 1]
          refine g_if_eq (tgt := 134) (a := 1) hk dX12_tellSeries_18 (by decide) rfl (fun z9 => absurd z9 (show ¬ ((1 : Int) = (0 : Int)) from by decide)) (fun _ => ?_)
          refine g_aload_n hk dX12_tellSeries_21 rfl ?_
          refine gM_r0_26 hk hin12 (List.mem_cons_of_mem _ (List.mem_append_left _ (List.mem_of_getElem? (i := 12) rfl))) dX12_tellSeries_22 ?_
          refine g_aload_n hk dX12_tellSeries_25 rfl ?_
          refine gM_i16 (v := (I 16)) hk hin12 (List.mem_cons_of_mem _ (List.mem_append_left _ (List.mem_of_getElem? (i := 13) rfl))) dX12_tellSeries_26 (hI4688 16 rfl) ?_
          have f5752 := IvM_f16 hIv
          by_cases c5753 : (I 16).toInt = 0
          · have ec5753 : (I 16) = 0 := Int32.toInt_inj.mp c5753
            rw [ec5753]
            show GW κ 2 0 0 (wM r g I4688 A4688 L4688) 29 [(0, .ref (r 0))] [.int 0, .ref (r 9)]
            refine lM_8 (v := (A4688 8 0)) hk (vp_in_iff.mpr ⟨by decide, by decide⟩) rfl dX12_tellSeries_29 ?_
            have f5754 := IvM_s8_0 hV4688
            refine g_sipush (v := 160) hk dX12_tellSeries_30 (by decide) ?_
            refine g_icmp_ne (tgt := 41) (a := (A4688 8 0).toInt) (b := 160) hk dX12_tellSeries_33 (by decide) rfl rfl (fun c5755 => ?_) (fun c5755 => ?_)
            · skip
              refine g_aload_n hk dX12_tellSeries_41 rfl ?_
              refine gM_i6 (v := (I4688 6)) hk hin12 (List.mem_cons_of_mem _ (List.mem_append_left _ (List.mem_of_getElem? (i := 11) rfl))) dX12_tellSeries_42 rfl ?_
              refine g_if_le (tgt := 49) (a := (I4688 6).toInt) hk dX12_tellSeries_45 (by decide) rfl (fun c5756 => ?_) (fun c5756 => ?_)
              · skip
                refine g_aload_n hk dX12_tellSeries_49 rfl ?_
                refine g_bipush (v := 26) hk dX12_tellSeries_50 (by decide) ?_
                refine g_callV (n := 1) hk (j125_X12_is l D zt r g I4688 A4688 L4688 26 hV4688) (SP.same _) (fun _ h => h) (gi_V (List.mem_cons_of_mem _ (List.mem_append_left _ (List.mem_of_getElem? (i := 5) rfl))) (List.mem_cons_of_mem _ (List.mem_append_left _ (List.mem_of_getElem? (i := 6) rfl))) (List.mem_cons_of_mem _ (List.mem_append_left _ (List.mem_of_getElem? (i := 7) rfl))) (List.mem_cons_of_mem _ (List.mem_append_left _ (List.mem_of_getElem? (i := 4) rfl))) (gi_sub (fun w h => (List.mem_cons_of_mem _ (List.mem_append_right _ (List.mem_append_right _ (List.mem_append_right _ (List.mem_append_left _ h)))))) zg_j125_X12_is)) rfl rfl rfl (by decide +kernel) ⟨Nat.le_of_ble_eq_true rfl, Nat.le_of_ble_eq_true rfl⟩ 0 rfl rfl rfl rfl (Nat.le_of_ble_eq_true rfl) ⟨Nat.le_of_ble_eq_true rfl, Nat.le_of_ble_eq_true rfl⟩ dX12_tellSeries_52 (fun v ty' w' hp hk' => ?_)
                rcases hp with ⟨c5757, rfl, rfl⟩ | ⟨c5759, rfl, rfl⟩
                · skip
                  rw [show (A4688 2 (I4688 4).toNatClampNeg) = (A 2 (I4688 4).toNatClampNeg) from (congrFun (hA4688 2 rfl) _)] at c5757
                  show GW κ 2 0 0 (wM r g I4688 A4688 L4688) 55 [(0, .ref (r 0))] [.int 0]
                  refine g_istore_n (lv' := [(1, .int 0), (0, .ref (r 0))]) hk dX12_tellSeries_55 (by decide) rfl ?_
                  refine g_iload_n hk dX12_tellSeries_56 rfl ?_
                  refine g_if_eq (tgt := 64) (a := 0) hk dX12_tellSeries_57 (by decide) rfl (fun _ => ?_) (fun z9 => absurd (show (0 : Int) = (0 : Int) from by decide) z9)
                  refine g_aload_n hk dX12_tellSeries_64 rfl ?_
                  refine gM_r0_27 hk hin12 (List.mem_cons_of_mem _ (List.mem_append_left _ (List.mem_of_getElem? (i := 14) rfl))) dX12_tellSeries_65 ?_
                  refine g_sipush (v := 160) hk dX12_tellSeries_68 (by decide) ?_
                  refine g_aload_n hk dX12_tellSeries_71 rfl ?_
                  refine gM_i16 (v := (I 16)) hk hin12 (List.mem_cons_of_mem _ (List.mem_append_left _ (List.mem_of_getElem? (i := 13) rfl))) dX12_tellSeries_72 (hI4688 16 rfl) ?_
                  by_cases c5761 : (I 16).toInt = 0
                  · have ec5761 : (I 16) = 0 := Int32.toInt_inj.mp c5761
                    rw [ec5761]
                    show GW κ 2 0 0 (wM r g I4688 A4688 L4688) 75 [(1, .int 0), (0, .ref (r 0))] [.int 0, .int 160, .ref (r 10)]
                    refine g_imul hk dX12_tellSeries_75 ?_
                    refine g_norm (v := 0) (by decide) ?_
                    refine g_aload_n hk dX12_tellSeries_76 rfl ?_
                    refine gM_r0_26 hk hin12 (List.mem_cons_of_mem _ (List.mem_append_left _ (List.mem_of_getElem? (i := 12) rfl))) dX12_tellSeries_77 ?_
                    refine g_aload_n hk dX12_tellSeries_80 rfl ?_
                    refine gM_i16 (v := (I 16)) hk hin12 (List.mem_cons_of_mem _ (List.mem_append_left _ (List.mem_of_getElem? (i := 13) rfl))) dX12_tellSeries_81 (hI4688 16 rfl) ?_
                    by_cases c5762 : (I 16).toInt = 0
                    · have ec5762 : (I 16) = 0 := Int32.toInt_inj.mp c5762
                      rw [ec5762]
                      show GW κ 2 0 0 (wM r g I4688 A4688 L4688) 84 [(1, .int 0), (0, .ref (r 0))] [.int 0, .ref (r 9), .int 0, .ref (r 10)]
                      refine lM_8 (v := (A4688 8 0)) hk (vp_in_iff.mpr ⟨by decide, by decide⟩) rfl dX12_tellSeries_84 ?_
                      refine g_iadd hk dX12_tellSeries_85 ?_
                      refine g_topi (fun y5763 ey5763 => ?_)
                      have hy5763 : y5763.toInt = 0 + (A4688 8 0).toInt := i32_add ey5763 rfl rfl (by omega) (by omega)
                      refine g_iload_n hk dX12_tellSeries_86 rfl ?_
                      refine g_if_eq (tgt := 95) (a := 0) hk dX12_tellSeries_87 (by decide) rfl (fun _ => ?_) (fun z9 => absurd (show (0 : Int) = (0 : Int) from by decide) z9)
                      refine g_aload_n hk dX12_tellSeries_95 rfl ?_
                      refine g_callV (n := 0) hk (j132_X12_readingTold l D zt r g I4688 A4688 L4688  hV4688) (SP.same _) (fun _ h => h) (gi_V (List.mem_cons_of_mem _ (List.mem_append_left _ (List.mem_of_getElem? (i := 15) rfl))) (List.mem_cons_of_mem _ (List.mem_append_left _ (List.mem_of_getElem? (i := 16) rfl))) (List.mem_cons_of_mem _ (List.mem_append_left _ (List.mem_of_getElem? (i := 17) rfl))) (List.mem_cons_of_mem _ (List.mem_append_left _ (List.mem_of_getElem? (i := 4) rfl))) (gi_sub (fun w h => (List.mem_cons_of_mem _ (List.mem_append_right _ (List.mem_append_right _ (List.mem_append_right _ (List.mem_append_right _ (List.mem_append_right _ (List.mem_append_left _ h)))))))) zg_j132_X12_readingTold)) rfl rfl rfl (by decide +kernel) ⟨Nat.le_of_ble_eq_true rfl, Nat.le_of_ble_eq_true rfl⟩ 0 rfl rfl rfl rfl (Nat.le_of_ble_eq_true rfl) ⟨Nat.le_of_ble_eq_true rfl, Nat.le_of_ble_eq_true rfl⟩ dX12_tellSeries_96 (fun v ty' w' hp hk' => ?_)
                      obtain ⟨I5765, A5765, L5765, hI5765, hA5765, hV5765, y5764, r5766, r5767, r5768, r5769, rfl, rfl⟩ := hp
                      have f5770 := IvM_f4 hV5765
                      have f5771 := IvM_f6 hV5765
                      have f5772 := IvM_f8 hV5765
                      show GW κ 2 0 0 (wM r g I5765 A5765 L5765) 99 [(1, .int 0), (0, .ref (r 0))] [.int y5764, .int y5763, .ref (r 10)]
                      refine sM_9 (j := y5763.toNatClampNeg) hk (vp_in_iff.mpr ⟨by omega, by omega⟩) rfl dX12_tellSeries_99 ?_
                      refine g_aload_n hk dX12_tellSeries_100 rfl ?_
                      refine gM_i6 (v := (I5765 6)) hk hin12 (List.mem_cons_of_mem _ (List.mem_append_left _ (List.mem_of_getElem? (i := 11) rfl))) dX12_tellSeries_101 rfl ?_
                      refine g_if_le (tgt := 108) (a := (I5765 6).toInt) hk dX12_tellSeries_104 (by decide) rfl (fun c5773 => ?_) (fun c5773 => ?_)
                      · skip
                        refine g_aload_n hk dX12_tellSeries_108 rfl ?_
                        refine gM_r0_26 hk hin12 (List.mem_cons_of_mem _ (List.mem_append_left _ (List.mem_of_getElem? (i := 12) rfl))) dX12_tellSeries_109 ?_
                        refine g_aload_n hk dX12_tellSeries_112 rfl ?_
                        refine gM_i16 (v := (I 16)) hk hin12 (List.mem_cons_of_mem _ (List.mem_append_left _ (List.mem_of_getElem? (i := 13) rfl))) dX12_tellSeries_113 ((hI5765 16 rfl).trans (hI4688 16 rfl)) ?_
                        by_cases c5774 : (I 16).toInt = 0
                        · have ec5774 : (I 16) = 0 := Int32.toInt_inj.mp c5774
                          rw [ec5774]
                          show GW κ 2 0 0 (wM r g I5765 (up3 A5765 9 (y5763.toNatClampNeg) y5764) L5765) 116 [(1, .int 0), (0, .ref (r 0))] [.int 0, .ref (r 9)]
                          refine g_dup2 hk dX12_tellSeries_116 rfl rfl ?_
                          refine lM_8 (v := (A4688 8 0)) hk (vp_in_iff.mpr ⟨by decide, by decide⟩) (congrFun (hA5765 8 rfl) _) dX12_tellSeries_117 ?_
                          refine g_iconst (v := 1) hk dX12_tellSeries_118 (by decide) ?_
                          refine g_iadd hk dX12_tellSeries_119 ?_
                          refine g_topi (fun y5775 ey5775 => ?_)
                          have hy5775 : y5775.toInt = (A4688 8 0).toInt + 1 := i32_add ey5775 rfl rfl (by omega) (by omega)
                          refine sM_8 (j := 0) hk (vp_in_iff.mpr ⟨by decide, by decide⟩) (by decide) dX12_tellSeries_120 ?_
                          have f5776 := IvM_s8_0 hV5765
                          have f5777 := IvM_s8_1 hV5765
                          refine g_aload_n hk dX12_tellSeries_121 rfl ?_
                          refine g_dup hk dX12_tellSeries_122 rfl ?_
                          refine gM_i11 (v := (I4688 11)) hk hin12 (List.mem_cons_of_mem _ (List.mem_append_left _ (List.mem_of_getElem? (i := 0) rfl))) dX12_tellSeries_123 (hI5765 11 rfl) ?_
                          refine g_iconst (v := 1) hk dX12_tellSeries_126 (by decide) ?_
                          have b5778l := Int32.le_toInt (I4688 11)
                          have b5778h := Int32.toInt_lt (I4688 11)
                          refine g_iadd hk dX12_tellSeries_127 ?_
                          refine g_topi (fun y5779 ey5779 => ?_)
                          refine pM_i11 hk hin12 (List.mem_cons_of_mem _ (List.mem_append_left _ (List.mem_of_getElem? (i := 0) rfl))) dX12_tellSeries_128 ?_
                          refine g_goto (tgt := 5) hk dX12_tellSeries_131 (by decide) ?_
                          exact g_lv (List.forall_mem_cons.mpr ⟨List.mem_of_getElem? (i := 1) rfl, (fun _ h => absurd h List.not_mem_nil)⟩) (ih5724 (upd I5765 11 y5779) (up3 (up3 A5765 9 (y5763.toNatClampNeg) y5764) 8 0 y5775) L5765 (show Md [4, 6, 7, 8, 9, 11, 12, 13] (upd I 11 0) (upd I5765 11 y5779) from Md.tr hI4688 (show Md [4, 6, 7, 8, 9, 11, 12, 13] I4688 (upd I5765 11 y5779) from (Md.up (Md.tr Md.rf hI5765 rfl) rfl)) rfl) (show Md [8, 9] A (up3 (up3 A5765 9 (y5763.toNatClampNeg) y5764) 8 0 y5775) from Md.tr hA4688 (show Md [8, 9] A4688 (up3 (up3 A5765 9 (y5763.toNatClampNeg) y5764) 8 0 y5775) from (Md.up3 (Md.up3 (Md.tr Md.rf hA5765 rfl) rfl) rfl)) rfl) ⟨(IvM_f1 (I := I5765) (A := A5765) hV5765), (IvM_f2 (I := I5765) (A := A5765) hV5765), (IvM_f3 (I := I5765) (A := A5765) hV5765), (IvM_f4 (I := I5765) (A := A5765) hV5765), (IvM_f6 (I := I5765) (A := A5765) hV5765), (IvM_f8 (I := I5765) (A := A5765) hV5765), (IvM_f15 (I := I5765) (A := A5765) hV5765), (IvM_f16 (I := I5765) (A := A5765) hV5765), (IvM_f17 (I := I5765) (A := A5765) hV5765), (IvM_f18 (I := I5765) (A := A5765) hV5765), (IvM_f22 (I := I5765) (A := A5765) hV5765), (IvM_f23 (I := I5765) (A := A5765) hV5765), (IvM_f24 (I := I5765) (A := A5765) hV5765), (IvM_a11 (I := I5765) (A := A5765) hV5765), (IvM_a26 (I := I5765) (A := A5765) hV5765), (show 0 ≤ ((up3 (up3 A5765 9 (y5763.toNatClampNeg) y5764) 8 0 y5775) 8 0).toInt ∧ ((up3 (up3 A5765 9 (y5763.toNatClampNeg) y5764) 8 0 y5775) 8 0).toInt ≤ 160 from by rw [show (up3 (up3 A5765 9 (y5763.toNatClampNeg) y5764) 8 0 y5775) 8 0 = y5775 from rfl]; exact ⟨by omega, by omega⟩), (show 0 ≤ ((up3 (up3 A5765 9 (y5763.toNatClampNeg) y5764) 8 0 y5775) 8 1).toInt ∧ ((up3 (up3 A5765 9 (y5763.toNatClampNeg) y5764) 8 0 y5775) 8 1).toInt ≤ 160 from by rw [show (up3 (up3 A5765 9 (y5763.toNatClampNeg) y5764) 8 0 y5775) 8 1 = (A5765 8 1) from rfl]; exact ⟨by omega, by omega⟩), (IvM_s10_0 (I := I5765) (A := A5765) hV5765), (IvM_s10_1 (I := I5765) (A := A5765) hV5765), (IvM_s17_0 (I := I5765) (A := A5765) hV5765), (IvM_s17_164 (I := I5765) (A := A5765) hV5765), (IvM_lv (I := I5765) (A := A5765) hV5765), (IvM_sd (I := I5765) (A := A5765) hV5765), (IvM_nq (I := I5765) (A := A5765) hV5765), (IvM_hr (I := I5765) (A := A5765) hV5765), (IvM_hh (I := I5765) (A := A5765) hV5765), trivial⟩ (by first | (rw [show ((upd I5765 11 y5779) 4) = (I5765 4) from rfl] <;> omega) | omega) (by first | (rw [show ((upd I5765 11 y5779) 6) = (I5765 6) from rfl] <;> omega) | omega) (by first | (rw [show ((upd I5765 11 y5779) 8) = (I5765 8) from rfl] <;> omega) | omega) (by first | (rw [show ((upd I5765 11 y5779) 4) = (I5765 4) from rfl] <;> omega) | omega) (by omega))
                        exfalso; omega
                      · skip
                        have f5780 := IvM_f4 hIv
                        have f5781 := IvM_f6 hIv
                        have f5782 := IvM_f8 hIv
                        exact g_vret hk hR ⟨I5765, (up3 A5765 9 (y5763.toNatClampNeg) y5764), L5765, (show Md [4, 6, 7, 8, 9, 11, 12, 13] I I5765 from (Md.tr (Md.tr (Md.up Md.rf rfl) hI4688 rfl) hI5765 rfl)), (show Md [8, 9] A (up3 A5765 9 (y5763.toNatClampNeg) y5764) from (Md.up3 (Md.tr (Md.tr Md.rf hA4688 rfl) hA5765 rfl) rfl)), ⟨(IvM_f1 (I := I5765) (A := A5765) hV5765), (IvM_f2 (I := I5765) (A := A5765) hV5765), (IvM_f3 (I := I5765) (A := A5765) hV5765), (IvM_f4 (I := I5765) (A := A5765) hV5765), (IvM_f6 (I := I5765) (A := A5765) hV5765), (IvM_f8 (I := I5765) (A := A5765) hV5765), (IvM_f15 (I := I5765) (A := A5765) hV5765), (IvM_f16 (I := I5765) (A := A5765) hV5765), (IvM_f17 (I := I5765) (A := A5765) hV5765), (IvM_f18 (I := I5765) (A := A5765) hV5765), (IvM_f22 (I := I5765) (A := A5765) hV5765), (IvM_f23 (I := I5765) (A := A5765) hV5765), (IvM_f24 (I := I5765) (A := A5765) hV5765), (IvM_a11 (I := I5765) (A := A5765) hV5765), (IvM_a26 (I := I5765) (A := A5765) hV5765), (IvM_s8_0 (I := I5765) (A := A5765) hV5765), (IvM_s8_1 (I := I5765) (A := A5765) hV5765), (IvM_s10_0 (I := I5765) (A := A5765) hV5765), (IvM_s10_1 (I := I5765) (A := A5765) hV5765), (IvM_s17_0 (I := I5765) (A := A5765) hV5765), (IvM_s17_164 (I := I5765) (A := A5765) hV5765), (IvM_lv (I := I5765) (A := A5765) hV5765), (IvM_sd (I := I5765) (A := A5765) hV5765), (IvM_nq (I := I5765) (A := A5765) hV5765), (IvM_hr (I := I5765) (A := A5765) hV5765), (IvM_hh (I := I5765) (A := A5765) hV5765), trivial⟩, (by omega), (by omega), (by omega), rfl, rfl⟩ dX12_tellSeries_107
                    exfalso; omega
                  exfalso; omega
                · skip
                  rw [show (A4688 2 (I4688 4).toNatClampNeg) = (A 2 (I4688 4).toNatClampNeg) from (congrFun (hA4688 2 rfl) _)] at c5759
                  show GW κ 2 0 0 (wM r g I4688 A4688 L4688) 55 [(0, .ref (r 0))] [.int 1]
                  refine g_istore_n (lv' := [(1, .int 1), (0, .ref (r 0))]) hk dX12_tellSeries_55 (by decide) rfl ?_
                  refine g_iload_n hk dX12_tellSeries_56 rfl ?_
                  refine g_if_eq (tgt := 64) (a := 1) hk dX12_tellSeries_57 (by decide) rfl (fun z9 => absurd z9 (show ¬ ((1 : Int) = (0 : Int)) from by decide)) (fun _ => ?_)
                  refine g_aload_n hk dX12_tellSeries_60 rfl ?_
                  refine g_callV (n := 0) hk (j127_X12_goesOn l D zt r g I4688 A4688 L4688  hV4688) (SP.same _) (fun _ h => h) (gi_V (List.mem_cons_of_mem _ (List.mem_append_left _ (List.mem_of_getElem? (i := 18) rfl))) (List.mem_cons_of_mem _ (List.mem_append_left _ (List.mem_of_getElem? (i := 19) rfl))) (List.mem_cons_of_mem _ (List.mem_append_left _ (List.mem_of_getElem? (i := 20) rfl))) (List.mem_cons_of_mem _ (List.mem_append_left _ (List.mem_of_getElem? (i := 4) rfl))) (gi_sub (fun w h => (List.mem_cons_of_mem _ (List.mem_append_right _ (List.mem_append_right _ (List.mem_append_right _ (List.mem_append_right _ (List.mem_append_right _ (List.mem_append_right _ (List.mem_append_left _ h))))))))) zg_j127_X12_goesOn)) rfl rfl rfl (by decide +kernel) ⟨Nat.le_of_ble_eq_true rfl, Nat.le_of_ble_eq_true rfl⟩ 0 rfl rfl rfl rfl (Nat.le_of_ble_eq_true rfl) ⟨Nat.le_of_ble_eq_true rfl, Nat.le_of_ble_eq_true rfl⟩ dX12_tellSeries_61 (fun v ty' w' hp hk' => ?_)
                  obtain ⟨I5784, A5784, L5784, hI5784, hA5784, hV5784, r5785, r5786, r5787, r5788, rfl, rfl⟩ := hp
                  have f5789 := IvM_f4 hV5784
                  have f5790 := IvM_f6 hV5784
                  rw [show (I5784 8) = (I4688 8) from (hI5784 8 rfl)] at r5787
                  show GW κ 2 0 0 (wM r g I5784 A5784 L5784) 64 [(1, .int 1), (0, .ref (r 0))] []
                  refine g_aload_n hk dX12_tellSeries_64 rfl ?_
                  refine gM_r0_27 hk hin12 (List.mem_cons_of_mem _ (List.mem_append_left _ (List.mem_of_getElem? (i := 14) rfl))) dX12_tellSeries_65 ?_
                  refine g_sipush (v := 160) hk dX12_tellSeries_68 (by decide) ?_
                  refine g_aload_n hk dX12_tellSeries_71 rfl ?_
                  refine gM_i16 (v := (I 16)) hk hin12 (List.mem_cons_of_mem _ (List.mem_append_left _ (List.mem_of_getElem? (i := 13) rfl))) dX12_tellSeries_72 ((hI5784 16 rfl).trans (hI4688 16 rfl)) ?_
                  by_cases c5791 : (I 16).toInt = 0
                  · have ec5791 : (I 16) = 0 := Int32.toInt_inj.mp c5791
                    rw [ec5791]
                    show GW κ 2 0 0 (wM r g I5784 A5784 L5784) 75 [(1, .int 1), (0, .ref (r 0))] [.int 0, .int 160, .ref (r 10)]
                    refine g_imul hk dX12_tellSeries_75 ?_
                    refine g_norm (v := 0) (by decide) ?_
                    refine g_aload_n hk dX12_tellSeries_76 rfl ?_
                    refine gM_r0_26 hk hin12 (List.mem_cons_of_mem _ (List.mem_append_left _ (List.mem_of_getElem? (i := 12) rfl))) dX12_tellSeries_77 ?_
                    refine g_aload_n hk dX12_tellSeries_80 rfl ?_
                    refine gM_i16 (v := (I 16)) hk hin12 (List.mem_cons_of_mem _ (List.mem_append_left _ (List.mem_of_getElem? (i := 13) rfl))) dX12_tellSeries_81 ((hI5784 16 rfl).trans (hI4688 16 rfl)) ?_
                    by_cases c5792 : (I 16).toInt = 0
                    · have ec5792 : (I 16) = 0 := Int32.toInt_inj.mp c5792
                      rw [ec5792]
                      show GW κ 2 0 0 (wM r g I5784 A5784 L5784) 84 [(1, .int 1), (0, .ref (r 0))] [.int 0, .ref (r 9), .int 0, .ref (r 10)]
                      refine lM_8 (v := (A4688 8 0)) hk (vp_in_iff.mpr ⟨by decide, by decide⟩) (congrFun (hA5784 8 rfl) _) dX12_tellSeries_84 ?_
                      refine g_iadd hk dX12_tellSeries_85 ?_
                      refine g_topi (fun y5793 ey5793 => ?_)
                      have hy5793 : y5793.toInt = 0 + (A4688 8 0).toInt := i32_add ey5793 rfl rfl (by omega) (by omega)
                      refine g_iload_n hk dX12_tellSeries_86 rfl ?_
                      refine g_if_eq (tgt := 95) (a := 1) hk dX12_tellSeries_87 (by decide) rfl (fun z9 => absurd z9 (show ¬ ((1 : Int) = (0 : Int)) from by decide)) (fun _ => ?_)
                      refine g_ldc (v := 100000) hk (List.mem_cons_of_mem _ (List.mem_append_left _ (List.mem_of_getElem? (i := 21) rfl))) dX12_tellSeries_90 ?_
                      refine g_goto (tgt := 99) hk dX12_tellSeries_92 (by decide) ?_
                      have k5794 : (100000 : Int32).toInt = 100000 := rfl
                      refine sM_9 (j := y5793.toNatClampNeg) hk (vp_in_iff.mpr ⟨by omega, by omega⟩) rfl dX12_tellSeries_99 ?_
                      refine g_aload_n hk dX12_tellSeries_100 rfl ?_
                      refine gM_i6 (v := (I5784 6)) hk hin12 (List.mem_cons_of_mem _ (List.mem_append_left _ (List.mem_of_getElem? (i := 11) rfl))) dX12_tellSeries_101 rfl ?_
                      refine g_if_le (tgt := 108) (a := (I5784 6).toInt) hk dX12_tellSeries_104 (by decide) rfl (fun c5795 => ?_) (fun c5795 => ?_)
                      · skip
                        refine g_aload_n hk dX12_tellSeries_108 rfl ?_
                        refine gM_r0_26 hk hin12 (List.mem_cons_of_mem _ (List.mem_append_left _ (List.mem_of_getElem? (i := 12) rfl))) dX12_tellSeries_109 ?_
                        refine g_aload_n hk dX12_tellSeries_112 rfl ?_
                        refine gM_i16 (v := (I 16)) hk hin12 (List.mem_cons_of_mem _ (List.mem_append_left _ (List.mem_of_getElem? (i := 13) rfl))) dX12_tellSeries_113 ((hI5784 16 rfl).trans (hI4688 16 rfl)) ?_
                        by_cases c5796 : (I 16).toInt = 0
                        · have ec5796 : (I 16) = 0 := Int32.toInt_inj.mp c5796
                          rw [ec5796]
                          show GW κ 2 0 0 (wM r g I5784 (up3 A5784 9 (y5793.toNatClampNeg) 100000) L5784) 116 [(1, .int 1), (0, .ref (r 0))] [.int 0, .ref (r 9)]
                          refine g_dup2 hk dX12_tellSeries_116 rfl rfl ?_
                          refine lM_8 (v := (A4688 8 0)) hk (vp_in_iff.mpr ⟨by decide, by decide⟩) (congrFun (hA5784 8 rfl) _) dX12_tellSeries_117 ?_
                          refine g_iconst (v := 1) hk dX12_tellSeries_118 (by decide) ?_
                          refine g_iadd hk dX12_tellSeries_119 ?_
                          refine g_topi (fun y5797 ey5797 => ?_)
                          have hy5797 : y5797.toInt = (A4688 8 0).toInt + 1 := i32_add ey5797 rfl rfl (by omega) (by omega)
                          refine sM_8 (j := 0) hk (vp_in_iff.mpr ⟨by decide, by decide⟩) (by decide) dX12_tellSeries_120 ?_
                          have f5798 := IvM_s8_0 hV5784
                          have f5799 := IvM_s8_1 hV5784
                          refine g_aload_n hk dX12_tellSeries_121 rfl ?_
                          refine g_dup hk dX12_tellSeries_122 rfl ?_
                          refine gM_i11 (v := (I4688 11)) hk hin12 (List.mem_cons_of_mem _ (List.mem_append_left _ (List.mem_of_getElem? (i := 0) rfl))) dX12_tellSeries_123 (hI5784 11 rfl) ?_
                          refine g_iconst (v := 1) hk dX12_tellSeries_126 (by decide) ?_
                          have b5800l := Int32.le_toInt (I4688 11)
                          have b5800h := Int32.toInt_lt (I4688 11)
                          refine g_iadd hk dX12_tellSeries_127 ?_
                          refine g_topi (fun y5801 ey5801 => ?_)
                          refine pM_i11 hk hin12 (List.mem_cons_of_mem _ (List.mem_append_left _ (List.mem_of_getElem? (i := 0) rfl))) dX12_tellSeries_128 ?_
                          refine g_goto (tgt := 5) hk dX12_tellSeries_131 (by decide) ?_
                          exact g_lv (List.forall_mem_cons.mpr ⟨List.mem_of_getElem? (i := 1) rfl, (fun _ h => absurd h List.not_mem_nil)⟩) (ih5724 (upd I5784 11 y5801) (up3 (up3 A5784 9 (y5793.toNatClampNeg) 100000) 8 0 y5797) L5784 (show Md [4, 6, 7, 8, 9, 11, 12, 13] (upd I 11 0) (upd I5784 11 y5801) from Md.tr hI4688 (show Md [4, 6, 7, 8, 9, 11, 12, 13] I4688 (upd I5784 11 y5801) from (Md.up (Md.tr Md.rf hI5784 rfl) rfl)) rfl) (show Md [8, 9] A (up3 (up3 A5784 9 (y5793.toNatClampNeg) 100000) 8 0 y5797) from Md.tr hA4688 (show Md [8, 9] A4688 (up3 (up3 A5784 9 (y5793.toNatClampNeg) 100000) 8 0 y5797) from (Md.up3 (Md.up3 (Md.tr Md.rf hA5784 rfl) rfl) rfl)) rfl) ⟨(IvM_f1 (I := I5784) (A := A5784) hV5784), (IvM_f2 (I := I5784) (A := A5784) hV5784), (IvM_f3 (I := I5784) (A := A5784) hV5784), (IvM_f4 (I := I5784) (A := A5784) hV5784), (IvM_f6 (I := I5784) (A := A5784) hV5784), (IvM_f8 (I := I5784) (A := A5784) hV5784), (IvM_f15 (I := I5784) (A := A5784) hV5784), (IvM_f16 (I := I5784) (A := A5784) hV5784), (IvM_f17 (I := I5784) (A := A5784) hV5784), (IvM_f18 (I := I5784) (A := A5784) hV5784), (IvM_f22 (I := I5784) (A := A5784) hV5784), (IvM_f23 (I := I5784) (A := A5784) hV5784), (IvM_f24 (I := I5784) (A := A5784) hV5784), (IvM_a11 (I := I5784) (A := A5784) hV5784), (IvM_a26 (I := I5784) (A := A5784) hV5784), (show 0 ≤ ((up3 (up3 A5784 9 (y5793.toNatClampNeg) 100000) 8 0 y5797) 8 0).toInt ∧ ((up3 (up3 A5784 9 (y5793.toNatClampNeg) 100000) 8 0 y5797) 8 0).toInt ≤ 160 from by rw [show (up3 (up3 A5784 9 (y5793.toNatClampNeg) 100000) 8 0 y5797) 8 0 = y5797 from rfl]; exact ⟨by omega, by omega⟩), (show 0 ≤ ((up3 (up3 A5784 9 (y5793.toNatClampNeg) 100000) 8 0 y5797) 8 1).toInt ∧ ((up3 (up3 A5784 9 (y5793.toNatClampNeg) 100000) 8 0 y5797) 8 1).toInt ≤ 160 from by rw [show (up3 (up3 A5784 9 (y5793.toNatClampNeg) 100000) 8 0 y5797) 8 1 = (A5784 8 1) from rfl]; exact ⟨by omega, by omega⟩), (IvM_s10_0 (I := I5784) (A := A5784) hV5784), (IvM_s10_1 (I := I5784) (A := A5784) hV5784), (IvM_s17_0 (I := I5784) (A := A5784) hV5784), (IvM_s17_164 (I := I5784) (A := A5784) hV5784), (IvM_lv (I := I5784) (A := A5784) hV5784), (IvM_sd (I := I5784) (A := A5784) hV5784), (IvM_nq (I := I5784) (A := A5784) hV5784), (IvM_hr (I := I5784) (A := A5784) hV5784), (IvM_hh (I := I5784) (A := A5784) hV5784), trivial⟩ (by first | (rw [show ((upd I5784 11 y5801) 4) = (I5784 4) from rfl] <;> omega) | omega) (by first | (rw [show ((upd I5784 11 y5801) 6) = (I5784 6) from rfl] <;> omega) | omega) (by first | (rw [show ((upd I5784 11 y5801) 8) = (I4688 8) from (hI5784 8 rfl)] <;> omega) | omega) (by first | (rw [show ((upd I5784 11 y5801) 4) = (I5784 4) from rfl] <;> omega) | omega) (by omega))
                        exfalso; omega
                      · skip
                        have f5802 := IvM_f4 hIv
                        have f5803 := IvM_f6 hIv
                        have f5804 := IvM_f8 hIv
                        exact g_vret hk hR ⟨I5784, (up3 A5784 9 (y5793.toNatClampNeg) 100000), L5784, (show Md [4, 6, 7, 8, 9, 11, 12, 13] I I5784 from (Md.tr (Md.tr (Md.up Md.rf rfl) hI4688 rfl) hI5784 rfl)), (show Md [8, 9] A (up3 A5784 9 (y5793.toNatClampNeg) 100000) from (Md.up3 (Md.tr (Md.tr Md.rf hA4688 rfl) hA5784 rfl) rfl)), ⟨(IvM_f1 (I := I5784) (A := A5784) hV5784), (IvM_f2 (I := I5784) (A := A5784) hV5784), (IvM_f3 (I := I5784) (A := A5784) hV5784), (IvM_f4 (I := I5784) (A := A5784) hV5784), (IvM_f6 (I := I5784) (A := A5784) hV5784), (IvM_f8 (I := I5784) (A := A5784) hV5784), (IvM_f15 (I := I5784) (A := A5784) hV5784), (IvM_f16 (I := I5784) (A := A5784) hV5784), (IvM_f17 (I := I5784) (A := A5784) hV5784), (IvM_f18 (I := I5784) (A := A5784) hV5784), (IvM_f22 (I := I5784) (A := A5784) hV5784), (IvM_f23 (I := I5784) (A := A5784) hV5784), (IvM_f24 (I := I5784) (A := A5784) hV5784), (IvM_a11 (I := I5784) (A := A5784) hV5784), (IvM_a26 (I := I5784) (A := A5784) hV5784), (IvM_s8_0 (I := I5784) (A := A5784) hV5784), (IvM_s8_1 (I := I5784) (A := A5784) hV5784), (IvM_s10_0 (I := I5784) (A := A5784) hV5784), (IvM_s10_1 (I := I5784) (A := A5784) hV5784), (IvM_s17_0 (I := I5784) (A := A5784) hV5784), (IvM_s17_164 (I := I5784) (A := A5784) hV5784), (IvM_lv (I := I5784) (A := A5784) hV5784), (IvM_sd (I := I5784) (A := A5784) hV5784), (IvM_nq (I := I5784) (A := A5784) hV5784), (IvM_hr (I := I5784) (A := A5784) hV5784), (IvM_hh (I := I5784) (A := A5784) hV5784), trivial⟩, (by omega), (by omega), (by rw [show (I5784 8) = (I4688 8) from (hI5784 8 rfl)] <;> omega), rfl, rfl⟩ dX12_tellSeries_107
                    exfalso; omega
                  exfalso; omega
              · skip
                have f5805 := IvM_f4 hIv
                have f5806 := IvM_f6 hIv
                have f5807 := IvM_f8 hIv
                exact g_vret hk hR ⟨I4688, A4688, L4688, (show Md [4, 6, 7, 8, 9, 11, 12, 13] I I4688 from (Md.tr (Md.up Md.rf rfl) hI4688 rfl)), (show Md [8, 9] A A4688 from (Md.tr Md.rf hA4688 rfl)), hV4688, (by omega), (by omega), (by omega), rfl, rfl⟩ dX12_tellSeries_48
            · skip
              refine g_aload_n hk dX12_tellSeries_36 rfl ?_
              refine g_iconst (v := 2) hk dX12_tellSeries_37 (by decide) ?_
              have k5808 : (2 : Int32).toInt = 2 := rfl
              refine g_callV (n := 1) hk (j128_X12_fail l D zt r g I4688 A4688 L4688 2 hV4688 (by decide) (by decide)) (SP.same _) (fun _ h => h) (gi_V (List.mem_cons_of_mem _ (List.mem_append_left _ (List.mem_of_getElem? (i := 22) rfl))) (List.mem_cons_of_mem _ (List.mem_append_left _ (List.mem_of_getElem? (i := 23) rfl))) (List.mem_cons_of_mem _ (List.mem_append_left _ (List.mem_of_getElem? (i := 24) rfl))) (List.mem_cons_of_mem _ (List.mem_append_left _ (List.mem_of_getElem? (i := 4) rfl))) (gi_sub (fun w h => (List.mem_cons_of_mem _ (List.mem_append_right _ (List.mem_append_right _ (List.mem_append_right _ (List.mem_append_right _ (List.mem_append_right _ (List.mem_append_right _ (List.mem_append_right _ (List.mem_append_left _ h)))))))))) zg_j128_X12_fail)) rfl rfl rfl (by decide +kernel) ⟨Nat.le_of_ble_eq_true rfl, Nat.le_of_ble_eq_true rfl⟩ 0 rfl rfl rfl rfl (Nat.le_of_ble_eq_true rfl) ⟨Nat.le_of_ble_eq_true rfl, Nat.le_of_ble_eq_true rfl⟩ dX12_tellSeries_38 (fun v ty' w' hp hk' => ?_)
              obtain ⟨I5810, A5810, L5810, hI5810, hA5810, hV5810, r5811, r5812, r5813, rfl, rfl⟩ := hp
              have f5814 := IvM_f6 hV5810
              rw [show (I5810 8) = (I4688 8) from (hI5810 8 rfl)] at r5812
              show GW κ 2 0 0 (wM r g I5810 A5810 L5810) 41 [(0, .ref (r 0))] []
              refine g_aload_n hk dX12_tellSeries_41 rfl ?_
              refine gM_i6 (v := (I5810 6)) hk hin12 (List.mem_cons_of_mem _ (List.mem_append_left _ (List.mem_of_getElem? (i := 11) rfl))) dX12_tellSeries_42 rfl ?_
              refine g_if_le (tgt := 49) (a := (I5810 6).toInt) hk dX12_tellSeries_45 (by decide) rfl (fun c5815 => ?_) (fun c5815 => ?_)
              · skip
                refine g_aload_n hk dX12_tellSeries_49 rfl ?_
                refine g_bipush (v := 26) hk dX12_tellSeries_50 (by decide) ?_
                refine g_callV (n := 1) hk (j125_X12_is l D zt r g I5810 A5810 L5810 26 hV5810) (SP.same _) (fun _ h => h) (gi_V (List.mem_cons_of_mem _ (List.mem_append_left _ (List.mem_of_getElem? (i := 5) rfl))) (List.mem_cons_of_mem _ (List.mem_append_left _ (List.mem_of_getElem? (i := 6) rfl))) (List.mem_cons_of_mem _ (List.mem_append_left _ (List.mem_of_getElem? (i := 7) rfl))) (List.mem_cons_of_mem _ (List.mem_append_left _ (List.mem_of_getElem? (i := 4) rfl))) (gi_sub (fun w h => (List.mem_cons_of_mem _ (List.mem_append_right _ (List.mem_append_right _ (List.mem_append_right _ (List.mem_append_left _ h)))))) zg_j125_X12_is)) rfl rfl rfl (by decide +kernel) ⟨Nat.le_of_ble_eq_true rfl, Nat.le_of_ble_eq_true rfl⟩ 0 rfl rfl rfl rfl (Nat.le_of_ble_eq_true rfl) ⟨Nat.le_of_ble_eq_true rfl, Nat.le_of_ble_eq_true rfl⟩ dX12_tellSeries_52 (fun v ty' w' hp hk' => ?_)
                rcases hp with ⟨c5816, rfl, rfl⟩ | ⟨c5818, rfl, rfl⟩
                · skip
                  rw [show (A5810 2 (I5810 4).toNatClampNeg) = (A 2 (I4688 4).toNatClampNeg) from (by rw [show I5810 4 = (I4688 4) from (hI5810 4 rfl)]; exact ((congrFun (hA5810 2 rfl) _).trans (congrFun (hA4688 2 rfl) _)))] at c5816
                  show GW κ 2 0 0 (wM r g I5810 A5810 L5810) 55 [(0, .ref (r 0))] [.int 0]
                  refine g_istore_n (lv' := [(1, .int 0), (0, .ref (r 0))]) hk dX12_tellSeries_55 (by decide) rfl ?_
                  refine g_iload_n hk dX12_tellSeries_56 rfl ?_
                  refine g_if_eq (tgt := 64) (a := 0) hk dX12_tellSeries_57 (by decide) rfl (fun _ => ?_) (fun z9 => absurd (show (0 : Int) = (0 : Int) from by decide) z9)
                  refine g_aload_n hk dX12_tellSeries_64 rfl ?_
                  refine gM_r0_27 hk hin12 (List.mem_cons_of_mem _ (List.mem_append_left _ (List.mem_of_getElem? (i := 14) rfl))) dX12_tellSeries_65 ?_
                  refine g_sipush (v := 160) hk dX12_tellSeries_68 (by decide) ?_
                  refine g_aload_n hk dX12_tellSeries_71 rfl ?_
                  refine gM_i16 (v := (I 16)) hk hin12 (List.mem_cons_of_mem _ (List.mem_append_left _ (List.mem_of_getElem? (i := 13) rfl))) dX12_tellSeries_72 ((hI5810 16 rfl).trans (hI4688 16 rfl)) ?_
                  by_cases c5820 : (I 16).toInt = 0
                  · have ec5820 : (I 16) = 0 := Int32.toInt_inj.mp c5820
                    rw [ec5820]
                    show GW κ 2 0 0 (wM r g I5810 A5810 L5810) 75 [(1, .int 0), (0, .ref (r 0))] [.int 0, .int 160, .ref (r 10)]
                    refine g_imul hk dX12_tellSeries_75 ?_
                    refine g_norm (v := 0) (by decide) ?_
                    refine g_aload_n hk dX12_tellSeries_76 rfl ?_
                    refine gM_r0_26 hk hin12 (List.mem_cons_of_mem _ (List.mem_append_left _ (List.mem_of_getElem? (i := 12) rfl))) dX12_tellSeries_77 ?_
                    refine g_aload_n hk dX12_tellSeries_80 rfl ?_
                    refine gM_i16 (v := (I 16)) hk hin12 (List.mem_cons_of_mem _ (List.mem_append_left _ (List.mem_of_getElem? (i := 13) rfl))) dX12_tellSeries_81 ((hI5810 16 rfl).trans (hI4688 16 rfl)) ?_
                    by_cases c5821 : (I 16).toInt = 0
                    · have ec5821 : (I 16) = 0 := Int32.toInt_inj.mp c5821
                      rw [ec5821]
                      show GW κ 2 0 0 (wM r g I5810 A5810 L5810) 84 [(1, .int 0), (0, .ref (r 0))] [.int 0, .ref (r 9), .int 0, .ref (r 10)]
                      refine lM_8 (v := (A4688 8 0)) hk (vp_in_iff.mpr ⟨by decide, by decide⟩) (congrFun (hA5810 8 rfl) _) dX12_tellSeries_84 ?_
                      refine g_iadd hk dX12_tellSeries_85 ?_
                      refine g_topi (fun y5822 ey5822 => ?_)
                      have hy5822 : y5822.toInt = 0 + (A4688 8 0).toInt := i32_add ey5822 rfl rfl (by omega) (by omega)
                      refine g_iload_n hk dX12_tellSeries_86 rfl ?_
                      refine g_if_eq (tgt := 95) (a := 0) hk dX12_tellSeries_87 (by decide) rfl (fun _ => ?_) (fun z9 => absurd (show (0 : Int) = (0 : Int) from by decide) z9)
                      refine g_aload_n hk dX12_tellSeries_95 rfl ?_
                      refine g_callV (n := 0) hk (j132_X12_readingTold l D zt r g I5810 A5810 L5810  hV5810) (SP.same _) (fun _ h => h) (gi_V (List.mem_cons_of_mem _ (List.mem_append_left _ (List.mem_of_getElem? (i := 15) rfl))) (List.mem_cons_of_mem _ (List.mem_append_left _ (List.mem_of_getElem? (i := 16) rfl))) (List.mem_cons_of_mem _ (List.mem_append_left _ (List.mem_of_getElem? (i := 17) rfl))) (List.mem_cons_of_mem _ (List.mem_append_left _ (List.mem_of_getElem? (i := 4) rfl))) (gi_sub (fun w h => (List.mem_cons_of_mem _ (List.mem_append_right _ (List.mem_append_right _ (List.mem_append_right _ (List.mem_append_right _ (List.mem_append_right _ (List.mem_append_left _ h)))))))) zg_j132_X12_readingTold)) rfl rfl rfl (by decide +kernel) ⟨Nat.le_of_ble_eq_true rfl, Nat.le_of_ble_eq_true rfl⟩ 0 rfl rfl rfl rfl (Nat.le_of_ble_eq_true rfl) ⟨Nat.le_of_ble_eq_true rfl, Nat.le_of_ble_eq_true rfl⟩ dX12_tellSeries_96 (fun v ty' w' hp hk' => ?_)
                      obtain ⟨I5824, A5824, L5824, hI5824, hA5824, hV5824, y5823, r5825, r5826, r5827, r5828, rfl, rfl⟩ := hp
                      have f5829 := IvM_f4 hV5824
                      rw [show (I5810 4) = (I4688 4) from (hI5810 4 rfl)] at r5825
                      have f5830 := IvM_f6 hV5824
                      have f5831 := IvM_f8 hV5824
                      rw [show (I5810 8) = (I4688 8) from (hI5810 8 rfl)] at r5827
                      rw [show (I5810 4) = (I4688 4) from (hI5810 4 rfl)] at r5828
                      show GW κ 2 0 0 (wM r g I5824 A5824 L5824) 99 [(1, .int 0), (0, .ref (r 0))] [.int y5823, .int y5822, .ref (r 10)]
                      refine sM_9 (j := y5822.toNatClampNeg) hk (vp_in_iff.mpr ⟨by omega, by omega⟩) rfl dX12_tellSeries_99 ?_
                      refine g_aload_n hk dX12_tellSeries_100 rfl ?_
                      refine gM_i6 (v := (I5824 6)) hk hin12 (List.mem_cons_of_mem _ (List.mem_append_left _ (List.mem_of_getElem? (i := 11) rfl))) dX12_tellSeries_101 rfl ?_
                      refine g_if_le (tgt := 108) (a := (I5824 6).toInt) hk dX12_tellSeries_104 (by decide) rfl (fun c5832 => ?_) (fun c5832 => ?_)
                      · skip
                        refine g_aload_n hk dX12_tellSeries_108 rfl ?_
                        refine gM_r0_26 hk hin12 (List.mem_cons_of_mem _ (List.mem_append_left _ (List.mem_of_getElem? (i := 12) rfl))) dX12_tellSeries_109 ?_
                        refine g_aload_n hk dX12_tellSeries_112 rfl ?_
                        refine gM_i16 (v := (I 16)) hk hin12 (List.mem_cons_of_mem _ (List.mem_append_left _ (List.mem_of_getElem? (i := 13) rfl))) dX12_tellSeries_113 ((hI5824 16 rfl).trans ((hI5810 16 rfl).trans (hI4688 16 rfl))) ?_
                        by_cases c5833 : (I 16).toInt = 0
                        · have ec5833 : (I 16) = 0 := Int32.toInt_inj.mp c5833
                          rw [ec5833]
                          show GW κ 2 0 0 (wM r g I5824 (up3 A5824 9 (y5822.toNatClampNeg) y5823) L5824) 116 [(1, .int 0), (0, .ref (r 0))] [.int 0, .ref (r 9)]
                          refine g_dup2 hk dX12_tellSeries_116 rfl rfl ?_
                          refine lM_8 (v := (A4688 8 0)) hk (vp_in_iff.mpr ⟨by decide, by decide⟩) ((congrFun (hA5824 8 rfl) _).trans (congrFun (hA5810 8 rfl) _)) dX12_tellSeries_117 ?_
                          refine g_iconst (v := 1) hk dX12_tellSeries_118 (by decide) ?_
                          refine g_iadd hk dX12_tellSeries_119 ?_
                          refine g_topi (fun y5834 ey5834 => ?_)
                          have hy5834 : y5834.toInt = (A4688 8 0).toInt + 1 := i32_add ey5834 rfl rfl (by omega) (by omega)
                          refine sM_8 (j := 0) hk (vp_in_iff.mpr ⟨by decide, by decide⟩) (by decide) dX12_tellSeries_120 ?_
                          have f5835 := IvM_s8_0 hV5824
                          have f5836 := IvM_s8_1 hV5824
                          refine g_aload_n hk dX12_tellSeries_121 rfl ?_
                          refine g_dup hk dX12_tellSeries_122 rfl ?_
                          refine gM_i11 (v := (I4688 11)) hk hin12 (List.mem_cons_of_mem _ (List.mem_append_left _ (List.mem_of_getElem? (i := 0) rfl))) dX12_tellSeries_123 ((hI5824 11 rfl).trans (hI5810 11 rfl)) ?_
                          refine g_iconst (v := 1) hk dX12_tellSeries_126 (by decide) ?_
                          have b5837l := Int32.le_toInt (I4688 11)
                          have b5837h := Int32.toInt_lt (I4688 11)
                          refine g_iadd hk dX12_tellSeries_127 ?_
                          refine g_topi (fun y5838 ey5838 => ?_)
                          refine pM_i11 hk hin12 (List.mem_cons_of_mem _ (List.mem_append_left _ (List.mem_of_getElem? (i := 0) rfl))) dX12_tellSeries_128 ?_
                          refine g_goto (tgt := 5) hk dX12_tellSeries_131 (by decide) ?_
                          exact g_lv (List.forall_mem_cons.mpr ⟨List.mem_of_getElem? (i := 1) rfl, (fun _ h => absurd h List.not_mem_nil)⟩) (ih5724 (upd I5824 11 y5838) (up3 (up3 A5824 9 (y5822.toNatClampNeg) y5823) 8 0 y5834) L5824 (show Md [4, 6, 7, 8, 9, 11, 12, 13] (upd I 11 0) (upd I5824 11 y5838) from Md.tr hI4688 (show Md [4, 6, 7, 8, 9, 11, 12, 13] I4688 (upd I5824 11 y5838) from (Md.up (Md.tr (Md.tr Md.rf hI5810 rfl) hI5824 rfl) rfl)) rfl) (show Md [8, 9] A (up3 (up3 A5824 9 (y5822.toNatClampNeg) y5823) 8 0 y5834) from Md.tr hA4688 (show Md [8, 9] A4688 (up3 (up3 A5824 9 (y5822.toNatClampNeg) y5823) 8 0 y5834) from (Md.up3 (Md.up3 (Md.tr (Md.tr Md.rf hA5810 rfl) hA5824 rfl) rfl) rfl)) rfl) ⟨(IvM_f1 (I := I5824) (A := A5824) hV5824), (IvM_f2 (I := I5824) (A := A5824) hV5824), (IvM_f3 (I := I5824) (A := A5824) hV5824), (IvM_f4 (I := I5824) (A := A5824) hV5824), (IvM_f6 (I := I5824) (A := A5824) hV5824), (IvM_f8 (I := I5824) (A := A5824) hV5824), (IvM_f15 (I := I5824) (A := A5824) hV5824), (IvM_f16 (I := I5824) (A := A5824) hV5824), (IvM_f17 (I := I5824) (A := A5824) hV5824), (IvM_f18 (I := I5824) (A := A5824) hV5824), (IvM_f22 (I := I5824) (A := A5824) hV5824), (IvM_f23 (I := I5824) (A := A5824) hV5824), (IvM_f24 (I := I5824) (A := A5824) hV5824), (IvM_a11 (I := I5824) (A := A5824) hV5824), (IvM_a26 (I := I5824) (A := A5824) hV5824), (show 0 ≤ ((up3 (up3 A5824 9 (y5822.toNatClampNeg) y5823) 8 0 y5834) 8 0).toInt ∧ ((up3 (up3 A5824 9 (y5822.toNatClampNeg) y5823) 8 0 y5834) 8 0).toInt ≤ 160 from by rw [show (up3 (up3 A5824 9 (y5822.toNatClampNeg) y5823) 8 0 y5834) 8 0 = y5834 from rfl]; exact ⟨by omega, by omega⟩), (show 0 ≤ ((up3 (up3 A5824 9 (y5822.toNatClampNeg) y5823) 8 0 y5834) 8 1).toInt ∧ ((up3 (up3 A5824 9 (y5822.toNatClampNeg) y5823) 8 0 y5834) 8 1).toInt ≤ 160 from by rw [show (up3 (up3 A5824 9 (y5822.toNatClampNeg) y5823) 8 0 y5834) 8 1 = (A5824 8 1) from rfl]; exact ⟨by omega, by omega⟩), (IvM_s10_0 (I := I5824) (A := A5824) hV5824), (IvM_s10_1 (I := I5824) (A := A5824) hV5824), (IvM_s17_0 (I := I5824) (A := A5824) hV5824), (IvM_s17_164 (I := I5824) (A := A5824) hV5824), (IvM_lv (I := I5824) (A := A5824) hV5824), (IvM_sd (I := I5824) (A := A5824) hV5824), (IvM_nq (I := I5824) (A := A5824) hV5824), (IvM_hr (I := I5824) (A := A5824) hV5824), (IvM_hh (I := I5824) (A := A5824) hV5824), trivial⟩ (by first | (rw [show ((upd I5824 11 y5838) 4) = (I5824 4) from rfl] <;> omega) | omega) (by first | (rw [show ((upd I5824 11 y5838) 6) = (I5824 6) from rfl] <;> omega) | omega) (by first | (rw [show ((upd I5824 11 y5838) 8) = (I5824 8) from rfl] <;> omega) | omega) (by first | (rw [show ((upd I5824 11 y5838) 4) = (I5824 4) from rfl] <;> omega) | omega) (by omega))
                        exfalso; omega
                      · skip
                        have f5839 := IvM_f4 hIv
                        have f5840 := IvM_f6 hIv
                        have f5841 := IvM_f8 hIv
                        exact g_vret hk hR ⟨I5824, (up3 A5824 9 (y5822.toNatClampNeg) y5823), L5824, (show Md [4, 6, 7, 8, 9, 11, 12, 13] I I5824 from (Md.tr (Md.tr (Md.tr (Md.up Md.rf rfl) hI4688 rfl) hI5810 rfl) hI5824 rfl)), (show Md [8, 9] A (up3 A5824 9 (y5822.toNatClampNeg) y5823) from (Md.up3 (Md.tr (Md.tr (Md.tr Md.rf hA4688 rfl) hA5810 rfl) hA5824 rfl) rfl)), ⟨(IvM_f1 (I := I5824) (A := A5824) hV5824), (IvM_f2 (I := I5824) (A := A5824) hV5824), (IvM_f3 (I := I5824) (A := A5824) hV5824), (IvM_f4 (I := I5824) (A := A5824) hV5824), (IvM_f6 (I := I5824) (A := A5824) hV5824), (IvM_f8 (I := I5824) (A := A5824) hV5824), (IvM_f15 (I := I5824) (A := A5824) hV5824), (IvM_f16 (I := I5824) (A := A5824) hV5824), (IvM_f17 (I := I5824) (A := A5824) hV5824), (IvM_f18 (I := I5824) (A := A5824) hV5824), (IvM_f22 (I := I5824) (A := A5824) hV5824), (IvM_f23 (I := I5824) (A := A5824) hV5824), (IvM_f24 (I := I5824) (A := A5824) hV5824), (IvM_a11 (I := I5824) (A := A5824) hV5824), (IvM_a26 (I := I5824) (A := A5824) hV5824), (IvM_s8_0 (I := I5824) (A := A5824) hV5824), (IvM_s8_1 (I := I5824) (A := A5824) hV5824), (IvM_s10_0 (I := I5824) (A := A5824) hV5824), (IvM_s10_1 (I := I5824) (A := A5824) hV5824), (IvM_s17_0 (I := I5824) (A := A5824) hV5824), (IvM_s17_164 (I := I5824) (A := A5824) hV5824), (IvM_lv (I := I5824) (A := A5824) hV5824), (IvM_sd (I := I5824) (A := A5824) hV5824), (IvM_nq (I := I5824) (A := A5824) hV5824), (IvM_hr (I := I5824) (A := A5824) hV5824), (IvM_hh (I := I5824) (A := A5824) hV5824), trivial⟩, (by omega), (by omega), (by omega), rfl, rfl⟩ dX12_tellSeries_107
                    exfalso; omega
                  exfalso; omega
                · skip
                  rw [show (A5810 2 (I5810 4).toNatClampNeg) = (A 2 (I4688 4).toNatClampNeg) from (by rw [show I5810 4 = (I4688 4) from (hI5810 4 rfl)]; exact ((congrFun (hA5810 2 rfl) _).trans (congrFun (hA4688 2 rfl) _)))] at c5818
                  show GW κ 2 0 0 (wM r g I5810 A5810 L5810) 55 [(0, .ref (r 0))] [.int 1]
                  refine g_istore_n (lv' := [(1, .int 1), (0, .ref (r 0))]) hk dX12_tellSeries_55 (by decide) rfl ?_
                  refine g_iload_n hk dX12_tellSeries_56 rfl ?_
                  refine g_if_eq (tgt := 64) (a := 1) hk dX12_tellSeries_57 (by decide) rfl (fun z9 => absurd z9 (show ¬ ((1 : Int) = (0 : Int)) from by decide)) (fun _ => ?_)
                  refine g_aload_n hk dX12_tellSeries_60 rfl ?_
                  refine g_callV (n := 0) hk (j127_X12_goesOn l D zt r g I5810 A5810 L5810  hV5810) (SP.same _) (fun _ h => h) (gi_V (List.mem_cons_of_mem _ (List.mem_append_left _ (List.mem_of_getElem? (i := 18) rfl))) (List.mem_cons_of_mem _ (List.mem_append_left _ (List.mem_of_getElem? (i := 19) rfl))) (List.mem_cons_of_mem _ (List.mem_append_left _ (List.mem_of_getElem? (i := 20) rfl))) (List.mem_cons_of_mem _ (List.mem_append_left _ (List.mem_of_getElem? (i := 4) rfl))) (gi_sub (fun w h => (List.mem_cons_of_mem _ (List.mem_append_right _ (List.mem_append_right _ (List.mem_append_right _ (List.mem_append_right _ (List.mem_append_right _ (List.mem_append_right _ (List.mem_append_left _ h))))))))) zg_j127_X12_goesOn)) rfl rfl rfl (by decide +kernel) ⟨Nat.le_of_ble_eq_true rfl, Nat.le_of_ble_eq_true rfl⟩ 0 rfl rfl rfl rfl (Nat.le_of_ble_eq_true rfl) ⟨Nat.le_of_ble_eq_true rfl, Nat.le_of_ble_eq_true rfl⟩ dX12_tellSeries_61 (fun v ty' w' hp hk' => ?_)
                  obtain ⟨I5843, A5843, L5843, hI5843, hA5843, hV5843, r5844, r5845, r5846, r5847, rfl, rfl⟩ := hp
                  have f5848 := IvM_f4 hV5843
                  rw [show (I5810 4) = (I4688 4) from (hI5810 4 rfl)] at r5844
                  have f5849 := IvM_f6 hV5843
                  rw [show (I5810 8) = (I4688 8) from (hI5810 8 rfl), show (I5843 8) = (I4688 8) from ((hI5843 8 rfl).trans (hI5810 8 rfl))] at r5846
                  rw [show (I5810 4) = (I4688 4) from (hI5810 4 rfl)] at r5847
                  show GW κ 2 0 0 (wM r g I5843 A5843 L5843) 64 [(1, .int 1), (0, .ref (r 0))] []
                  refine g_aload_n hk dX12_tellSeries_64 rfl ?_
                  refine gM_r0_27 hk hin12 (List.mem_cons_of_mem _ (List.mem_append_left _ (List.mem_of_getElem? (i := 14) rfl))) dX12_tellSeries_65 ?_
                  refine g_sipush (v := 160) hk dX12_tellSeries_68 (by decide) ?_
                  refine g_aload_n hk dX12_tellSeries_71 rfl ?_
                  refine gM_i16 (v := (I 16)) hk hin12 (List.mem_cons_of_mem _ (List.mem_append_left _ (List.mem_of_getElem? (i := 13) rfl))) dX12_tellSeries_72 ((hI5843 16 rfl).trans ((hI5810 16 rfl).trans (hI4688 16 rfl))) ?_
                  by_cases c5850 : (I 16).toInt = 0
                  · have ec5850 : (I 16) = 0 := Int32.toInt_inj.mp c5850
                    rw [ec5850]
                    show GW κ 2 0 0 (wM r g I5843 A5843 L5843) 75 [(1, .int 1), (0, .ref (r 0))] [.int 0, .int 160, .ref (r 10)]
                    refine g_imul hk dX12_tellSeries_75 ?_
                    refine g_norm (v := 0) (by decide) ?_
                    refine g_aload_n hk dX12_tellSeries_76 rfl ?_
                    refine gM_r0_26 hk hin12 (List.mem_cons_of_mem _ (List.mem_append_left _ (List.mem_of_getElem? (i := 12) rfl))) dX12_tellSeries_77 ?_
                    refine g_aload_n hk dX12_tellSeries_80 rfl ?_
                    refine gM_i16 (v := (I 16)) hk hin12 (List.mem_cons_of_mem _ (List.mem_append_left _ (List.mem_of_getElem? (i := 13) rfl))) dX12_tellSeries_81 ((hI5843 16 rfl).trans ((hI5810 16 rfl).trans (hI4688 16 rfl))) ?_
                    by_cases c5851 : (I 16).toInt = 0
                    · have ec5851 : (I 16) = 0 := Int32.toInt_inj.mp c5851
                      rw [ec5851]
                      show GW κ 2 0 0 (wM r g I5843 A5843 L5843) 84 [(1, .int 1), (0, .ref (r 0))] [.int 0, .ref (r 9), .int 0, .ref (r 10)]
                      refine lM_8 (v := (A4688 8 0)) hk (vp_in_iff.mpr ⟨by decide, by decide⟩) ((congrFun (hA5843 8 rfl) _).trans (congrFun (hA5810 8 rfl) _)) dX12_tellSeries_84 ?_
                      refine g_iadd hk dX12_tellSeries_85 ?_
                      refine g_topi (fun y5852 ey5852 => ?_)
                      have hy5852 : y5852.toInt = 0 + (A4688 8 0).toInt := i32_add ey5852 rfl rfl (by omega) (by omega)
                      refine g_iload_n hk dX12_tellSeries_86 rfl ?_
                      refine g_if_eq (tgt := 95) (a := 1) hk dX12_tellSeries_87 (by decide) rfl (fun z9 => absurd z9 (show ¬ ((1 : Int) = (0 : Int)) from by decide)) (fun _ => ?_)
                      refine g_ldc (v := 100000) hk (List.mem_cons_of_mem _ (List.mem_append_left _ (List.mem_of_getElem? (i := 21) rfl))) dX12_tellSeries_90 ?_
                      refine g_goto (tgt := 99) hk dX12_tellSeries_92 (by decide) ?_
                      have k5853 : (100000 : Int32).toInt = 100000 := rfl
                      refine sM_9 (j := y5852.toNatClampNeg) hk (vp_in_iff.mpr ⟨by omega, by omega⟩) rfl dX12_tellSeries_99 ?_
                      refine g_aload_n hk dX12_tellSeries_100 rfl ?_
                      refine gM_i6 (v := (I5843 6)) hk hin12 (List.mem_cons_of_mem _ (List.mem_append_left _ (List.mem_of_getElem? (i := 11) rfl))) dX12_tellSeries_101 rfl ?_
                      refine g_if_le (tgt := 108) (a := (I5843 6).toInt) hk dX12_tellSeries_104 (by decide) rfl (fun c5854 => ?_) (fun c5854 => ?_)
                      · skip
                        refine g_aload_n hk dX12_tellSeries_108 rfl ?_
                        refine gM_r0_26 hk hin12 (List.mem_cons_of_mem _ (List.mem_append_left _ (List.mem_of_getElem? (i := 12) rfl))) dX12_tellSeries_109 ?_
                        refine g_aload_n hk dX12_tellSeries_112 rfl ?_
                        refine gM_i16 (v := (I 16)) hk hin12 (List.mem_cons_of_mem _ (List.mem_append_left _ (List.mem_of_getElem? (i := 13) rfl))) dX12_tellSeries_113 ((hI5843 16 rfl).trans ((hI5810 16 rfl).trans (hI4688 16 rfl))) ?_
                        by_cases c5855 : (I 16).toInt = 0
                        · have ec5855 : (I 16) = 0 := Int32.toInt_inj.mp c5855
                          rw [ec5855]
                          show GW κ 2 0 0 (wM r g I5843 (up3 A5843 9 (y5852.toNatClampNeg) 100000) L5843) 116 [(1, .int 1), (0, .ref (r 0))] [.int 0, .ref (r 9)]
                          refine g_dup2 hk dX12_tellSeries_116 rfl rfl ?_
                          refine lM_8 (v := (A4688 8 0)) hk (vp_in_iff.mpr ⟨by decide, by decide⟩) ((congrFun (hA5843 8 rfl) _).trans (congrFun (hA5810 8 rfl) _)) dX12_tellSeries_117 ?_
                          refine g_iconst (v := 1) hk dX12_tellSeries_118 (by decide) ?_
                          refine g_iadd hk dX12_tellSeries_119 ?_
                          refine g_topi (fun y5856 ey5856 => ?_)
                          have hy5856 : y5856.toInt = (A4688 8 0).toInt + 1 := i32_add ey5856 rfl rfl (by omega) (by omega)
                          refine sM_8 (j := 0) hk (vp_in_iff.mpr ⟨by decide, by decide⟩) (by decide) dX12_tellSeries_120 ?_
                          have f5857 := IvM_s8_0 hV5843
                          have f5858 := IvM_s8_1 hV5843
                          refine g_aload_n hk dX12_tellSeries_121 rfl ?_
                          refine g_dup hk dX12_tellSeries_122 rfl ?_
                          refine gM_i11 (v := (I4688 11)) hk hin12 (List.mem_cons_of_mem _ (List.mem_append_left _ (List.mem_of_getElem? (i := 0) rfl))) dX12_tellSeries_123 ((hI5843 11 rfl).trans (hI5810 11 rfl)) ?_
                          refine g_iconst (v := 1) hk dX12_tellSeries_126 (by decide) ?_
                          have b5859l := Int32.le_toInt (I4688 11)
                          have b5859h := Int32.toInt_lt (I4688 11)
                          refine g_iadd hk dX12_tellSeries_127 ?_
                          refine g_topi (fun y5860 ey5860 => ?_)
                          refine pM_i11 hk hin12 (List.mem_cons_of_mem _ (List.mem_append_left _ (List.mem_of_getElem? (i := 0) rfl))) dX12_tellSeries_128 ?_
                          refine g_goto (tgt := 5) hk dX12_tellSeries_131 (by decide) ?_
                          exact g_lv (List.forall_mem_cons.mpr ⟨List.mem_of_getElem? (i := 1) rfl, (fun _ h => absurd h List.not_mem_nil)⟩) (ih5724 (upd I5843 11 y5860) (up3 (up3 A5843 9 (y5852.toNatClampNeg) 100000) 8 0 y5856) L5843 (show Md [4, 6, 7, 8, 9, 11, 12, 13] (upd I 11 0) (upd I5843 11 y5860) from Md.tr hI4688 (show Md [4, 6, 7, 8, 9, 11, 12, 13] I4688 (upd I5843 11 y5860) from (Md.up (Md.tr (Md.tr Md.rf hI5810 rfl) hI5843 rfl) rfl)) rfl) (show Md [8, 9] A (up3 (up3 A5843 9 (y5852.toNatClampNeg) 100000) 8 0 y5856) from Md.tr hA4688 (show Md [8, 9] A4688 (up3 (up3 A5843 9 (y5852.toNatClampNeg) 100000) 8 0 y5856) from (Md.up3 (Md.up3 (Md.tr (Md.tr Md.rf hA5810 rfl) hA5843 rfl) rfl) rfl)) rfl) ⟨(IvM_f1 (I := I5843) (A := A5843) hV5843), (IvM_f2 (I := I5843) (A := A5843) hV5843), (IvM_f3 (I := I5843) (A := A5843) hV5843), (IvM_f4 (I := I5843) (A := A5843) hV5843), (IvM_f6 (I := I5843) (A := A5843) hV5843), (IvM_f8 (I := I5843) (A := A5843) hV5843), (IvM_f15 (I := I5843) (A := A5843) hV5843), (IvM_f16 (I := I5843) (A := A5843) hV5843), (IvM_f17 (I := I5843) (A := A5843) hV5843), (IvM_f18 (I := I5843) (A := A5843) hV5843), (IvM_f22 (I := I5843) (A := A5843) hV5843), (IvM_f23 (I := I5843) (A := A5843) hV5843), (IvM_f24 (I := I5843) (A := A5843) hV5843), (IvM_a11 (I := I5843) (A := A5843) hV5843), (IvM_a26 (I := I5843) (A := A5843) hV5843), (show 0 ≤ ((up3 (up3 A5843 9 (y5852.toNatClampNeg) 100000) 8 0 y5856) 8 0).toInt ∧ ((up3 (up3 A5843 9 (y5852.toNatClampNeg) 100000) 8 0 y5856) 8 0).toInt ≤ 160 from by rw [show (up3 (up3 A5843 9 (y5852.toNatClampNeg) 100000) 8 0 y5856) 8 0 = y5856 from rfl]; exact ⟨by omega, by omega⟩), (show 0 ≤ ((up3 (up3 A5843 9 (y5852.toNatClampNeg) 100000) 8 0 y5856) 8 1).toInt ∧ ((up3 (up3 A5843 9 (y5852.toNatClampNeg) 100000) 8 0 y5856) 8 1).toInt ≤ 160 from by rw [show (up3 (up3 A5843 9 (y5852.toNatClampNeg) 100000) 8 0 y5856) 8 1 = (A5843 8 1) from rfl]; exact ⟨by omega, by omega⟩), (IvM_s10_0 (I := I5843) (A := A5843) hV5843), (IvM_s10_1 (I := I5843) (A := A5843) hV5843), (IvM_s17_0 (I := I5843) (A := A5843) hV5843), (IvM_s17_164 (I := I5843) (A := A5843) hV5843), (IvM_lv (I := I5843) (A := A5843) hV5843), (IvM_sd (I := I5843) (A := A5843) hV5843), (IvM_nq (I := I5843) (A := A5843) hV5843), (IvM_hr (I := I5843) (A := A5843) hV5843), (IvM_hh (I := I5843) (A := A5843) hV5843), trivial⟩ (by first | (rw [show ((upd I5843 11 y5860) 4) = (I5843 4) from rfl] <;> omega) | omega) (by first | (rw [show ((upd I5843 11 y5860) 6) = (I5843 6) from rfl] <;> omega) | omega) (by first | (rw [show ((upd I5843 11 y5860) 8) = (I4688 8) from ((hI5843 8 rfl).trans (hI5810 8 rfl))] <;> omega) | omega) (by first | (rw [show ((upd I5843 11 y5860) 4) = (I5843 4) from rfl] <;> omega) | omega) (by omega))
                        exfalso; omega
                      · skip
                        have f5861 := IvM_f4 hIv
                        have f5862 := IvM_f6 hIv
                        have f5863 := IvM_f8 hIv
                        exact g_vret hk hR ⟨I5843, (up3 A5843 9 (y5852.toNatClampNeg) 100000), L5843, (show Md [4, 6, 7, 8, 9, 11, 12, 13] I I5843 from (Md.tr (Md.tr (Md.tr (Md.up Md.rf rfl) hI4688 rfl) hI5810 rfl) hI5843 rfl)), (show Md [8, 9] A (up3 A5843 9 (y5852.toNatClampNeg) 100000) from (Md.up3 (Md.tr (Md.tr (Md.tr Md.rf hA4688 rfl) hA5810 rfl) hA5843 rfl) rfl)), ⟨(IvM_f1 (I := I5843) (A := A5843) hV5843), (IvM_f2 (I := I5843) (A := A5843) hV5843), (IvM_f3 (I := I5843) (A := A5843) hV5843), (IvM_f4 (I := I5843) (A := A5843) hV5843), (IvM_f6 (I := I5843) (A := A5843) hV5843), (IvM_f8 (I := I5843) (A := A5843) hV5843), (IvM_f15 (I := I5843) (A := A5843) hV5843), (IvM_f16 (I := I5843) (A := A5843) hV5843), (IvM_f17 (I := I5843) (A := A5843) hV5843), (IvM_f18 (I := I5843) (A := A5843) hV5843), (IvM_f22 (I := I5843) (A := A5843) hV5843), (IvM_f23 (I := I5843) (A := A5843) hV5843), (IvM_f24 (I := I5843) (A := A5843) hV5843), (IvM_a11 (I := I5843) (A := A5843) hV5843), (IvM_a26 (I := I5843) (A := A5843) hV5843), (IvM_s8_0 (I := I5843) (A := A5843) hV5843), (IvM_s8_1 (I := I5843) (A := A5843) hV5843), (IvM_s10_0 (I := I5843) (A := A5843) hV5843), (IvM_s10_1 (I := I5843) (A := A5843) hV5843), (IvM_s17_0 (I := I5843) (A := A5843) hV5843), (IvM_s17_164 (I := I5843) (A := A5843) hV5843), (IvM_lv (I := I5843) (A := A5843) hV5843), (IvM_sd (I := I5843) (A := A5843) hV5843), (IvM_nq (I := I5843) (A := A5843) hV5843), (IvM_hr (I := I5843) (A := A5843) hV5843), (IvM_hh (I := I5843) (A := A5843) hV5843), trivial⟩, (by omega), (by omega), (by rw [show (I5843 8) = (I4688 8) from ((hI5843 8 rfl).trans (hI5810 8 rfl))] <;> omega), rfl, rfl⟩ dX12_tellSeries_107
                    exfalso; omega
                  exfalso; omega
              · skip
                have f5864 := IvM_f4 hIv
                have f5865 := IvM_f6 hIv
                have f5866 := IvM_f8 hIv
                exact g_vret hk hR ⟨I5810, A5810, L5810, (show Md [4, 6, 7, 8, 9, 11, 12, 13] I I5810 from (Md.tr (Md.tr (Md.up Md.rf rfl) hI4688 rfl) hI5810 rfl)), (show Md [8, 9] A A5810 from (Md.tr (Md.tr Md.rf hA4688 rfl) hA5810 rfl)), hV5810, (by rw [show (I5810 4) = (I4688 4) from (hI5810 4 rfl)] <;> omega), (by omega), (by rw [show (I5810 8) = (I4688 8) from (hI5810 8 rfl)] <;> omega), rfl, rfl⟩ dX12_tellSeries_48
          by_cases c5867 : (I 16).toInt = 1
          · have ec5867 : (I 16) = 1 := Int32.toInt_inj.mp c5867
            rw [ec5867]
            show GW κ 2 0 0 (wM r g I4688 A4688 L4688) 29 [(0, .ref (r 0))] [.int 1, .ref (r 9)]
            refine lM_8 (v := (A4688 8 1)) hk (vp_in_iff.mpr ⟨by decide, by decide⟩) rfl dX12_tellSeries_29 ?_
            have f5868 := IvM_s8_1 hV4688
            refine g_sipush (v := 160) hk dX12_tellSeries_30 (by decide) ?_
            refine g_icmp_ne (tgt := 41) (a := (A4688 8 1).toInt) (b := 160) hk dX12_tellSeries_33 (by decide) rfl rfl (fun c5869 => ?_) (fun c5869 => ?_)
            · skip
              refine g_aload_n hk dX12_tellSeries_41 rfl ?_
              refine gM_i6 (v := (I4688 6)) hk hin12 (List.mem_cons_of_mem _ (List.mem_append_left _ (List.mem_of_getElem? (i := 11) rfl))) dX12_tellSeries_42 rfl ?_
              refine g_if_le (tgt := 49) (a := (I4688 6).toInt) hk dX12_tellSeries_45 (by decide) rfl (fun c5870 => ?_) (fun c5870 => ?_)
              · skip
                refine g_aload_n hk dX12_tellSeries_49 rfl ?_
                refine g_bipush (v := 26) hk dX12_tellSeries_50 (by decide) ?_
                refine g_callV (n := 1) hk (j125_X12_is l D zt r g I4688 A4688 L4688 26 hV4688) (SP.same _) (fun _ h => h) (gi_V (List.mem_cons_of_mem _ (List.mem_append_left _ (List.mem_of_getElem? (i := 5) rfl))) (List.mem_cons_of_mem _ (List.mem_append_left _ (List.mem_of_getElem? (i := 6) rfl))) (List.mem_cons_of_mem _ (List.mem_append_left _ (List.mem_of_getElem? (i := 7) rfl))) (List.mem_cons_of_mem _ (List.mem_append_left _ (List.mem_of_getElem? (i := 4) rfl))) (gi_sub (fun w h => (List.mem_cons_of_mem _ (List.mem_append_right _ (List.mem_append_right _ (List.mem_append_right _ (List.mem_append_left _ h)))))) zg_j125_X12_is)) rfl rfl rfl (by decide +kernel) ⟨Nat.le_of_ble_eq_true rfl, Nat.le_of_ble_eq_true rfl⟩ 0 rfl rfl rfl rfl (Nat.le_of_ble_eq_true rfl) ⟨Nat.le_of_ble_eq_true rfl, Nat.le_of_ble_eq_true rfl⟩ dX12_tellSeries_52 (fun v ty' w' hp hk' => ?_)
                rcases hp with ⟨c5871, rfl, rfl⟩ | ⟨c5873, rfl, rfl⟩
                · skip
                  rw [show (A4688 2 (I4688 4).toNatClampNeg) = (A 2 (I4688 4).toNatClampNeg) from (congrFun (hA4688 2 rfl) _)] at c5871
                  show GW κ 2 0 0 (wM r g I4688 A4688 L4688) 55 [(0, .ref (r 0))] [.int 0]
                  refine g_istore_n (lv' := [(1, .int 0), (0, .ref (r 0))]) hk dX12_tellSeries_55 (by decide) rfl ?_
                  refine g_iload_n hk dX12_tellSeries_56 rfl ?_
                  refine g_if_eq (tgt := 64) (a := 0) hk dX12_tellSeries_57 (by decide) rfl (fun _ => ?_) (fun z9 => absurd (show (0 : Int) = (0 : Int) from by decide) z9)
                  refine g_aload_n hk dX12_tellSeries_64 rfl ?_
                  refine gM_r0_27 hk hin12 (List.mem_cons_of_mem _ (List.mem_append_left _ (List.mem_of_getElem? (i := 14) rfl))) dX12_tellSeries_65 ?_
                  refine g_sipush (v := 160) hk dX12_tellSeries_68 (by decide) ?_
                  refine g_aload_n hk dX12_tellSeries_71 rfl ?_
                  refine gM_i16 (v := (I 16)) hk hin12 (List.mem_cons_of_mem _ (List.mem_append_left _ (List.mem_of_getElem? (i := 13) rfl))) dX12_tellSeries_72 (hI4688 16 rfl) ?_
                  by_cases c5875 : (I 16).toInt = 1
                  · have ec5875 : (I 16) = 1 := Int32.toInt_inj.mp c5875
                    rw [ec5875]
                    show GW κ 2 0 0 (wM r g I4688 A4688 L4688) 75 [(1, .int 0), (0, .ref (r 0))] [.int 1, .int 160, .ref (r 10)]
                    refine g_imul hk dX12_tellSeries_75 ?_
                    refine g_norm (v := 160) (by decide) ?_
                    refine g_aload_n hk dX12_tellSeries_76 rfl ?_
                    refine gM_r0_26 hk hin12 (List.mem_cons_of_mem _ (List.mem_append_left _ (List.mem_of_getElem? (i := 12) rfl))) dX12_tellSeries_77 ?_
                    refine g_aload_n hk dX12_tellSeries_80 rfl ?_
                    refine gM_i16 (v := (I 16)) hk hin12 (List.mem_cons_of_mem _ (List.mem_append_left _ (List.mem_of_getElem? (i := 13) rfl))) dX12_tellSeries_81 (hI4688 16 rfl) ?_
                    by_cases c5876 : (I 16).toInt = 1
                    · have ec5876 : (I 16) = 1 := Int32.toInt_inj.mp c5876
                      rw [ec5876]
                      show GW κ 2 0 0 (wM r g I4688 A4688 L4688) 84 [(1, .int 0), (0, .ref (r 0))] [.int 1, .ref (r 9), .int 160, .ref (r 10)]
                      refine lM_8 (v := (A4688 8 1)) hk (vp_in_iff.mpr ⟨by decide, by decide⟩) rfl dX12_tellSeries_84 ?_
                      refine g_iadd hk dX12_tellSeries_85 ?_
                      refine g_topi (fun y5877 ey5877 => ?_)
                      have hy5877 : y5877.toInt = 160 + (A4688 8 1).toInt := i32_add ey5877 rfl rfl (by omega) (by omega)
                      refine g_iload_n hk dX12_tellSeries_86 rfl ?_
                      refine g_if_eq (tgt := 95) (a := 0) hk dX12_tellSeries_87 (by decide) rfl (fun _ => ?_) (fun z9 => absurd (show (0 : Int) = (0 : Int) from by decide) z9)
                      refine g_aload_n hk dX12_tellSeries_95 rfl ?_
                      refine g_callV (n := 0) hk (j132_X12_readingTold l D zt r g I4688 A4688 L4688  hV4688) (SP.same _) (fun _ h => h) (gi_V (List.mem_cons_of_mem _ (List.mem_append_left _ (List.mem_of_getElem? (i := 15) rfl))) (List.mem_cons_of_mem _ (List.mem_append_left _ (List.mem_of_getElem? (i := 16) rfl))) (List.mem_cons_of_mem _ (List.mem_append_left _ (List.mem_of_getElem? (i := 17) rfl))) (List.mem_cons_of_mem _ (List.mem_append_left _ (List.mem_of_getElem? (i := 4) rfl))) (gi_sub (fun w h => (List.mem_cons_of_mem _ (List.mem_append_right _ (List.mem_append_right _ (List.mem_append_right _ (List.mem_append_right _ (List.mem_append_right _ (List.mem_append_left _ h)))))))) zg_j132_X12_readingTold)) rfl rfl rfl (by decide +kernel) ⟨Nat.le_of_ble_eq_true rfl, Nat.le_of_ble_eq_true rfl⟩ 0 rfl rfl rfl rfl (Nat.le_of_ble_eq_true rfl) ⟨Nat.le_of_ble_eq_true rfl, Nat.le_of_ble_eq_true rfl⟩ dX12_tellSeries_96 (fun v ty' w' hp hk' => ?_)
                      obtain ⟨I5879, A5879, L5879, hI5879, hA5879, hV5879, y5878, r5880, r5881, r5882, r5883, rfl, rfl⟩ := hp
                      have f5884 := IvM_f4 hV5879
                      have f5885 := IvM_f6 hV5879
                      have f5886 := IvM_f8 hV5879
                      show GW κ 2 0 0 (wM r g I5879 A5879 L5879) 99 [(1, .int 0), (0, .ref (r 0))] [.int y5878, .int y5877, .ref (r 10)]
                      refine sM_9 (j := y5877.toNatClampNeg) hk (vp_in_iff.mpr ⟨by omega, by omega⟩) rfl dX12_tellSeries_99 ?_
                      refine g_aload_n hk dX12_tellSeries_100 rfl ?_
                      refine gM_i6 (v := (I5879 6)) hk hin12 (List.mem_cons_of_mem _ (List.mem_append_left _ (List.mem_of_getElem? (i := 11) rfl))) dX12_tellSeries_101 rfl ?_
                      refine g_if_le (tgt := 108) (a := (I5879 6).toInt) hk dX12_tellSeries_104 (by decide) rfl (fun c5887 => ?_) (fun c5887 => ?_)
                      · skip
                        refine g_aload_n hk dX12_tellSeries_108 rfl ?_
                        refine gM_r0_26 hk hin12 (List.mem_cons_of_mem _ (List.mem_append_left _ (List.mem_of_getElem? (i := 12) rfl))) dX12_tellSeries_109 ?_
                        refine g_aload_n hk dX12_tellSeries_112 rfl ?_
                        refine gM_i16 (v := (I 16)) hk hin12 (List.mem_cons_of_mem _ (List.mem_append_left _ (List.mem_of_getElem? (i := 13) rfl))) dX12_tellSeries_113 ((hI5879 16 rfl).trans (hI4688 16 rfl)) ?_
                        by_cases c5888 : (I 16).toInt = 1
                        · have ec5888 : (I 16) = 1 := Int32.toInt_inj.mp c5888
                          rw [ec5888]
                          show GW κ 2 0 0 (wM r g I5879 (up3 A5879 9 (y5877.toNatClampNeg) y5878) L5879) 116 [(1, .int 0), (0, .ref (r 0))] [.int 1, .ref (r 9)]
                          refine g_dup2 hk dX12_tellSeries_116 rfl rfl ?_
                          refine lM_8 (v := (A4688 8 1)) hk (vp_in_iff.mpr ⟨by decide, by decide⟩) (congrFun (hA5879 8 rfl) _) dX12_tellSeries_117 ?_
                          refine g_iconst (v := 1) hk dX12_tellSeries_118 (by decide) ?_
                          refine g_iadd hk dX12_tellSeries_119 ?_
                          refine g_topi (fun y5889 ey5889 => ?_)
                          have hy5889 : y5889.toInt = (A4688 8 1).toInt + 1 := i32_add ey5889 rfl rfl (by omega) (by omega)
                          refine sM_8 (j := 1) hk (vp_in_iff.mpr ⟨by decide, by decide⟩) (by decide) dX12_tellSeries_120 ?_
                          have f5890 := IvM_s8_0 hV5879
                          have f5891 := IvM_s8_1 hV5879
                          refine g_aload_n hk dX12_tellSeries_121 rfl ?_
                          refine g_dup hk dX12_tellSeries_122 rfl ?_
                          refine gM_i11 (v := (I4688 11)) hk hin12 (List.mem_cons_of_mem _ (List.mem_append_left _ (List.mem_of_getElem? (i := 0) rfl))) dX12_tellSeries_123 (hI5879 11 rfl) ?_
                          refine g_iconst (v := 1) hk dX12_tellSeries_126 (by decide) ?_
                          have b5892l := Int32.le_toInt (I4688 11)
                          have b5892h := Int32.toInt_lt (I4688 11)
                          refine g_iadd hk dX12_tellSeries_127 ?_
                          refine g_topi (fun y5893 ey5893 => ?_)
                          refine pM_i11 hk hin12 (List.mem_cons_of_mem _ (List.mem_append_left _ (List.mem_of_getElem? (i := 0) rfl))) dX12_tellSeries_128 ?_
                          refine g_goto (tgt := 5) hk dX12_tellSeries_131 (by decide) ?_
                          exact g_lv (List.forall_mem_cons.mpr ⟨List.mem_of_getElem? (i := 1) rfl, (fun _ h => absurd h List.not_mem_nil)⟩) (ih5724 (upd I5879 11 y5893) (up3 (up3 A5879 9 (y5877.toNatClampNeg) y5878) 8 1 y5889) L5879 (show Md [4, 6, 7, 8, 9, 11, 12, 13] (upd I 11 0) (upd I5879 11 y5893) from Md.tr hI4688 (show Md [4, 6, 7, 8, 9, 11, 12, 13] I4688 (upd I5879 11 y5893) from (Md.up (Md.tr Md.rf hI5879 rfl) rfl)) rfl) (show Md [8, 9] A (up3 (up3 A5879 9 (y5877.toNatClampNeg) y5878) 8 1 y5889) from Md.tr hA4688 (show Md [8, 9] A4688 (up3 (up3 A5879 9 (y5877.toNatClampNeg) y5878) 8 1 y5889) from (Md.up3 (Md.up3 (Md.tr Md.rf hA5879 rfl) rfl) rfl)) rfl) ⟨(IvM_f1 (I := I5879) (A := A5879) hV5879), (IvM_f2 (I := I5879) (A := A5879) hV5879), (IvM_f3 (I := I5879) (A := A5879) hV5879), (IvM_f4 (I := I5879) (A := A5879) hV5879), (IvM_f6 (I := I5879) (A := A5879) hV5879), (IvM_f8 (I := I5879) (A := A5879) hV5879), (IvM_f15 (I := I5879) (A := A5879) hV5879), (IvM_f16 (I := I5879) (A := A5879) hV5879), (IvM_f17 (I := I5879) (A := A5879) hV5879), (IvM_f18 (I := I5879) (A := A5879) hV5879), (IvM_f22 (I := I5879) (A := A5879) hV5879), (IvM_f23 (I := I5879) (A := A5879) hV5879), (IvM_f24 (I := I5879) (A := A5879) hV5879), (IvM_a11 (I := I5879) (A := A5879) hV5879), (IvM_a26 (I := I5879) (A := A5879) hV5879), (show 0 ≤ ((up3 (up3 A5879 9 (y5877.toNatClampNeg) y5878) 8 1 y5889) 8 0).toInt ∧ ((up3 (up3 A5879 9 (y5877.toNatClampNeg) y5878) 8 1 y5889) 8 0).toInt ≤ 160 from by rw [show (up3 (up3 A5879 9 (y5877.toNatClampNeg) y5878) 8 1 y5889) 8 0 = (A5879 8 0) from rfl]; exact ⟨by omega, by omega⟩), (show 0 ≤ ((up3 (up3 A5879 9 (y5877.toNatClampNeg) y5878) 8 1 y5889) 8 1).toInt ∧ ((up3 (up3 A5879 9 (y5877.toNatClampNeg) y5878) 8 1 y5889) 8 1).toInt ≤ 160 from by rw [show (up3 (up3 A5879 9 (y5877.toNatClampNeg) y5878) 8 1 y5889) 8 1 = y5889 from rfl]; exact ⟨by omega, by omega⟩), (IvM_s10_0 (I := I5879) (A := A5879) hV5879), (IvM_s10_1 (I := I5879) (A := A5879) hV5879), (IvM_s17_0 (I := I5879) (A := A5879) hV5879), (IvM_s17_164 (I := I5879) (A := A5879) hV5879), (IvM_lv (I := I5879) (A := A5879) hV5879), (IvM_sd (I := I5879) (A := A5879) hV5879), (IvM_nq (I := I5879) (A := A5879) hV5879), (IvM_hr (I := I5879) (A := A5879) hV5879), (IvM_hh (I := I5879) (A := A5879) hV5879), trivial⟩ (by first | (rw [show ((upd I5879 11 y5893) 4) = (I5879 4) from rfl] <;> omega) | omega) (by first | (rw [show ((upd I5879 11 y5893) 6) = (I5879 6) from rfl] <;> omega) | omega) (by first | (rw [show ((upd I5879 11 y5893) 8) = (I5879 8) from rfl] <;> omega) | omega) (by first | (rw [show ((upd I5879 11 y5893) 4) = (I5879 4) from rfl] <;> omega) | omega) (by omega))
                        exfalso; omega
                      · skip
                        have f5894 := IvM_f4 hIv
                        have f5895 := IvM_f6 hIv
                        have f5896 := IvM_f8 hIv
                        exact g_vret hk hR ⟨I5879, (up3 A5879 9 (y5877.toNatClampNeg) y5878), L5879, (show Md [4, 6, 7, 8, 9, 11, 12, 13] I I5879 from (Md.tr (Md.tr (Md.up Md.rf rfl) hI4688 rfl) hI5879 rfl)), (show Md [8, 9] A (up3 A5879 9 (y5877.toNatClampNeg) y5878) from (Md.up3 (Md.tr (Md.tr Md.rf hA4688 rfl) hA5879 rfl) rfl)), ⟨(IvM_f1 (I := I5879) (A := A5879) hV5879), (IvM_f2 (I := I5879) (A := A5879) hV5879), (IvM_f3 (I := I5879) (A := A5879) hV5879), (IvM_f4 (I := I5879) (A := A5879) hV5879), (IvM_f6 (I := I5879) (A := A5879) hV5879), (IvM_f8 (I := I5879) (A := A5879) hV5879), (IvM_f15 (I := I5879) (A := A5879) hV5879), (IvM_f16 (I := I5879) (A := A5879) hV5879), (IvM_f17 (I := I5879) (A := A5879) hV5879), (IvM_f18 (I := I5879) (A := A5879) hV5879), (IvM_f22 (I := I5879) (A := A5879) hV5879), (IvM_f23 (I := I5879) (A := A5879) hV5879), (IvM_f24 (I := I5879) (A := A5879) hV5879), (IvM_a11 (I := I5879) (A := A5879) hV5879), (IvM_a26 (I := I5879) (A := A5879) hV5879), (IvM_s8_0 (I := I5879) (A := A5879) hV5879), (IvM_s8_1 (I := I5879) (A := A5879) hV5879), (IvM_s10_0 (I := I5879) (A := A5879) hV5879), (IvM_s10_1 (I := I5879) (A := A5879) hV5879), (IvM_s17_0 (I := I5879) (A := A5879) hV5879), (IvM_s17_164 (I := I5879) (A := A5879) hV5879), (IvM_lv (I := I5879) (A := A5879) hV5879), (IvM_sd (I := I5879) (A := A5879) hV5879), (IvM_nq (I := I5879) (A := A5879) hV5879), (IvM_hr (I := I5879) (A := A5879) hV5879), (IvM_hh (I := I5879) (A := A5879) hV5879), trivial⟩, (by omega), (by omega), (by omega), rfl, rfl⟩ dX12_tellSeries_107
                    exfalso; omega
                  exfalso; omega
                · skip
                  rw [show (A4688 2 (I4688 4).toNatClampNeg) = (A 2 (I4688 4).toNatClampNeg) from (congrFun (hA4688 2 rfl) _)] at c5873
                  show GW κ 2 0 0 (wM r g I4688 A4688 L4688) 55 [(0, .ref (r 0))] [.int 1]
                  refine g_istore_n (lv' := [(1, .int 1), (0, .ref (r 0))]) hk dX12_tellSeries_55 (by decide) rfl ?_
                  refine g_iload_n hk dX12_tellSeries_56 rfl ?_
                  refine g_if_eq (tgt := 64) (a := 1) hk dX12_tellSeries_57 (by decide) rfl (fun z9 => absurd z9 (show ¬ ((1 : Int) = (0 : Int)) from by decide)) (fun _ => ?_)
                  refine g_aload_n hk dX12_tellSeries_60 rfl ?_
                  refine g_callV (n := 0) hk (j127_X12_goesOn l D zt r g I4688 A4688 L4688  hV4688) (SP.same _) (fun _ h => h) (gi_V (List.mem_cons_of_mem _ (List.mem_append_left _ (List.mem_of_getElem? (i := 18) rfl))) (List.mem_cons_of_mem _ (List.mem_append_left _ (List.mem_of_getElem? (i := 19) rfl))) (List.mem_cons_of_mem _ (List.mem_append_left _ (List.mem_of_getElem? (i := 20) rfl))) (List.mem_cons_of_mem _ (List.mem_append_left _ (List.mem_of_getElem? (i := 4) rfl))) (gi_sub (fun w h => (List.mem_cons_of_mem _ (List.mem_append_right _ (List.mem_append_right _ (List.mem_append_right _ (List.mem_append_right _ (List.mem_append_right _ (List.mem_append_right _ (List.mem_append_left _ h))))))))) zg_j127_X12_goesOn)) rfl rfl rfl (by decide +kernel) ⟨Nat.le_of_ble_eq_true rfl, Nat.le_of_ble_eq_true rfl⟩ 0 rfl rfl rfl rfl (Nat.le_of_ble_eq_true rfl) ⟨Nat.le_of_ble_eq_true rfl, Nat.le_of_ble_eq_true rfl⟩ dX12_tellSeries_61 (fun v ty' w' hp hk' => ?_)
                  obtain ⟨I5898, A5898, L5898, hI5898, hA5898, hV5898, r5899, r5900, r5901, r5902, rfl, rfl⟩ := hp
                  have f5903 := IvM_f4 hV5898
                  have f5904 := IvM_f6 hV5898
                  rw [show (I5898 8) = (I4688 8) from (hI5898 8 rfl)] at r5901
                  show GW κ 2 0 0 (wM r g I5898 A5898 L5898) 64 [(1, .int 1), (0, .ref (r 0))] []
                  refine g_aload_n hk dX12_tellSeries_64 rfl ?_
                  refine gM_r0_27 hk hin12 (List.mem_cons_of_mem _ (List.mem_append_left _ (List.mem_of_getElem? (i := 14) rfl))) dX12_tellSeries_65 ?_
                  refine g_sipush (v := 160) hk dX12_tellSeries_68 (by decide) ?_
                  refine g_aload_n hk dX12_tellSeries_71 rfl ?_
                  refine gM_i16 (v := (I 16)) hk hin12 (List.mem_cons_of_mem _ (List.mem_append_left _ (List.mem_of_getElem? (i := 13) rfl))) dX12_tellSeries_72 ((hI5898 16 rfl).trans (hI4688 16 rfl)) ?_
                  by_cases c5905 : (I 16).toInt = 1
                  · have ec5905 : (I 16) = 1 := Int32.toInt_inj.mp c5905
                    rw [ec5905]
                    show GW κ 2 0 0 (wM r g I5898 A5898 L5898) 75 [(1, .int 1), (0, .ref (r 0))] [.int 1, .int 160, .ref (r 10)]
                    refine g_imul hk dX12_tellSeries_75 ?_
                    refine g_norm (v := 160) (by decide) ?_
                    refine g_aload_n hk dX12_tellSeries_76 rfl ?_
                    refine gM_r0_26 hk hin12 (List.mem_cons_of_mem _ (List.mem_append_left _ (List.mem_of_getElem? (i := 12) rfl))) dX12_tellSeries_77 ?_
                    refine g_aload_n hk dX12_tellSeries_80 rfl ?_
                    refine gM_i16 (v := (I 16)) hk hin12 (List.mem_cons_of_mem _ (List.mem_append_left _ (List.mem_of_getElem? (i := 13) rfl))) dX12_tellSeries_81 ((hI5898 16 rfl).trans (hI4688 16 rfl)) ?_
                    by_cases c5906 : (I 16).toInt = 1
                    · have ec5906 : (I 16) = 1 := Int32.toInt_inj.mp c5906
                      rw [ec5906]
                      show GW κ 2 0 0 (wM r g I5898 A5898 L5898) 84 [(1, .int 1), (0, .ref (r 0))] [.int 1, .ref (r 9), .int 160, .ref (r 10)]
                      refine lM_8 (v := (A4688 8 1)) hk (vp_in_iff.mpr ⟨by decide, by decide⟩) (congrFun (hA5898 8 rfl) _) dX12_tellSeries_84 ?_
                      refine g_iadd hk dX12_tellSeries_85 ?_
                      refine g_topi (fun y5907 ey5907 => ?_)
                      have hy5907 : y5907.toInt = 160 + (A4688 8 1).toInt := i32_add ey5907 rfl rfl (by omega) (by omega)
                      refine g_iload_n hk dX12_tellSeries_86 rfl ?_
                      refine g_if_eq (tgt := 95) (a := 1) hk dX12_tellSeries_87 (by decide) rfl (fun z9 => absurd z9 (show ¬ ((1 : Int) = (0 : Int)) from by decide)) (fun _ => ?_)
                      refine g_ldc (v := 100000) hk (List.mem_cons_of_mem _ (List.mem_append_left _ (List.mem_of_getElem? (i := 21) rfl))) dX12_tellSeries_90 ?_
                      refine g_goto (tgt := 99) hk dX12_tellSeries_92 (by decide) ?_
                      have k5908 : (100000 : Int32).toInt = 100000 := rfl
                      refine sM_9 (j := y5907.toNatClampNeg) hk (vp_in_iff.mpr ⟨by omega, by omega⟩) rfl dX12_tellSeries_99 ?_
                      refine g_aload_n hk dX12_tellSeries_100 rfl ?_
                      refine gM_i6 (v := (I5898 6)) hk hin12 (List.mem_cons_of_mem _ (List.mem_append_left _ (List.mem_of_getElem? (i := 11) rfl))) dX12_tellSeries_101 rfl ?_
                      refine g_if_le (tgt := 108) (a := (I5898 6).toInt) hk dX12_tellSeries_104 (by decide) rfl (fun c5909 => ?_) (fun c5909 => ?_)
                      · skip
                        refine g_aload_n hk dX12_tellSeries_108 rfl ?_
                        refine gM_r0_26 hk hin12 (List.mem_cons_of_mem _ (List.mem_append_left _ (List.mem_of_getElem? (i := 12) rfl))) dX12_tellSeries_109 ?_
                        refine g_aload_n hk dX12_tellSeries_112 rfl ?_
                        refine gM_i16 (v := (I 16)) hk hin12 (List.mem_cons_of_mem _ (List.mem_append_left _ (List.mem_of_getElem? (i := 13) rfl))) dX12_tellSeries_113 ((hI5898 16 rfl).trans (hI4688 16 rfl)) ?_
                        by_cases c5910 : (I 16).toInt = 1
                        · have ec5910 : (I 16) = 1 := Int32.toInt_inj.mp c5910
                          rw [ec5910]
                          show GW κ 2 0 0 (wM r g I5898 (up3 A5898 9 (y5907.toNatClampNeg) 100000) L5898) 116 [(1, .int 1), (0, .ref (r 0))] [.int 1, .ref (r 9)]
                          refine g_dup2 hk dX12_tellSeries_116 rfl rfl ?_
                          refine lM_8 (v := (A4688 8 1)) hk (vp_in_iff.mpr ⟨by decide, by decide⟩) (congrFun (hA5898 8 rfl) _) dX12_tellSeries_117 ?_
                          refine g_iconst (v := 1) hk dX12_tellSeries_118 (by decide) ?_
                          refine g_iadd hk dX12_tellSeries_119 ?_
                          refine g_topi (fun y5911 ey5911 => ?_)
                          have hy5911 : y5911.toInt = (A4688 8 1).toInt + 1 := i32_add ey5911 rfl rfl (by omega) (by omega)
                          refine sM_8 (j := 1) hk (vp_in_iff.mpr ⟨by decide, by decide⟩) (by decide) dX12_tellSeries_120 ?_
                          have f5912 := IvM_s8_0 hV5898
                          have f5913 := IvM_s8_1 hV5898
                          refine g_aload_n hk dX12_tellSeries_121 rfl ?_
                          refine g_dup hk dX12_tellSeries_122 rfl ?_
                          refine gM_i11 (v := (I4688 11)) hk hin12 (List.mem_cons_of_mem _ (List.mem_append_left _ (List.mem_of_getElem? (i := 0) rfl))) dX12_tellSeries_123 (hI5898 11 rfl) ?_
                          refine g_iconst (v := 1) hk dX12_tellSeries_126 (by decide) ?_
                          have b5914l := Int32.le_toInt (I4688 11)
                          have b5914h := Int32.toInt_lt (I4688 11)
                          refine g_iadd hk dX12_tellSeries_127 ?_
                          refine g_topi (fun y5915 ey5915 => ?_)
                          refine pM_i11 hk hin12 (List.mem_cons_of_mem _ (List.mem_append_left _ (List.mem_of_getElem? (i := 0) rfl))) dX12_tellSeries_128 ?_
                          refine g_goto (tgt := 5) hk dX12_tellSeries_131 (by decide) ?_
                          exact g_lv (List.forall_mem_cons.mpr ⟨List.mem_of_getElem? (i := 1) rfl, (fun _ h => absurd h List.not_mem_nil)⟩) (ih5724 (upd I5898 11 y5915) (up3 (up3 A5898 9 (y5907.toNatClampNeg) 100000) 8 1 y5911) L5898 (show Md [4, 6, 7, 8, 9, 11, 12, 13] (upd I 11 0) (upd I5898 11 y5915) from Md.tr hI4688 (show Md [4, 6, 7, 8, 9, 11, 12, 13] I4688 (upd I5898 11 y5915) from (Md.up (Md.tr Md.rf hI5898 rfl) rfl)) rfl) (show Md [8, 9] A (up3 (up3 A5898 9 (y5907.toNatClampNeg) 100000) 8 1 y5911) from Md.tr hA4688 (show Md [8, 9] A4688 (up3 (up3 A5898 9 (y5907.toNatClampNeg) 100000) 8 1 y5911) from (Md.up3 (Md.up3 (Md.tr Md.rf hA5898 rfl) rfl) rfl)) rfl) ⟨(IvM_f1 (I := I5898) (A := A5898) hV5898), (IvM_f2 (I := I5898) (A := A5898) hV5898), (IvM_f3 (I := I5898) (A := A5898) hV5898), (IvM_f4 (I := I5898) (A := A5898) hV5898), (IvM_f6 (I := I5898) (A := A5898) hV5898), (IvM_f8 (I := I5898) (A := A5898) hV5898), (IvM_f15 (I := I5898) (A := A5898) hV5898), (IvM_f16 (I := I5898) (A := A5898) hV5898), (IvM_f17 (I := I5898) (A := A5898) hV5898), (IvM_f18 (I := I5898) (A := A5898) hV5898), (IvM_f22 (I := I5898) (A := A5898) hV5898), (IvM_f23 (I := I5898) (A := A5898) hV5898), (IvM_f24 (I := I5898) (A := A5898) hV5898), (IvM_a11 (I := I5898) (A := A5898) hV5898), (IvM_a26 (I := I5898) (A := A5898) hV5898), (show 0 ≤ ((up3 (up3 A5898 9 (y5907.toNatClampNeg) 100000) 8 1 y5911) 8 0).toInt ∧ ((up3 (up3 A5898 9 (y5907.toNatClampNeg) 100000) 8 1 y5911) 8 0).toInt ≤ 160 from by rw [show (up3 (up3 A5898 9 (y5907.toNatClampNeg) 100000) 8 1 y5911) 8 0 = (A5898 8 0) from rfl]; exact ⟨by omega, by omega⟩), (show 0 ≤ ((up3 (up3 A5898 9 (y5907.toNatClampNeg) 100000) 8 1 y5911) 8 1).toInt ∧ ((up3 (up3 A5898 9 (y5907.toNatClampNeg) 100000) 8 1 y5911) 8 1).toInt ≤ 160 from by rw [show (up3 (up3 A5898 9 (y5907.toNatClampNeg) 100000) 8 1 y5911) 8 1 = y5911 from rfl]; exact ⟨by omega, by omega⟩), (IvM_s10_0 (I := I5898) (A := A5898) hV5898), (IvM_s10_1 (I := I5898) (A := A5898) hV5898), (IvM_s17_0 (I := I5898) (A := A5898) hV5898), (IvM_s17_164 (I := I5898) (A := A5898) hV5898), (IvM_lv (I := I5898) (A := A5898) hV5898), (IvM_sd (I := I5898) (A := A5898) hV5898), (IvM_nq (I := I5898) (A := A5898) hV5898), (IvM_hr (I := I5898) (A := A5898) hV5898), (IvM_hh (I := I5898) (A := A5898) hV5898), trivial⟩ (by first | (rw [show ((upd I5898 11 y5915) 4) = (I5898 4) from rfl] <;> omega) | omega) (by first | (rw [show ((upd I5898 11 y5915) 6) = (I5898 6) from rfl] <;> omega) | omega) (by first | (rw [show ((upd I5898 11 y5915) 8) = (I4688 8) from (hI5898 8 rfl)] <;> omega) | omega) (by first | (rw [show ((upd I5898 11 y5915) 4) = (I5898 4) from rfl] <;> omega) | omega) (by omega))
                        exfalso; omega
                      · skip
                        have f5916 := IvM_f4 hIv
                        have f5917 := IvM_f6 hIv
                        have f5918 := IvM_f8 hIv
                        exact g_vret hk hR ⟨I5898, (up3 A5898 9 (y5907.toNatClampNeg) 100000), L5898, (show Md [4, 6, 7, 8, 9, 11, 12, 13] I I5898 from (Md.tr (Md.tr (Md.up Md.rf rfl) hI4688 rfl) hI5898 rfl)), (show Md [8, 9] A (up3 A5898 9 (y5907.toNatClampNeg) 100000) from (Md.up3 (Md.tr (Md.tr Md.rf hA4688 rfl) hA5898 rfl) rfl)), ⟨(IvM_f1 (I := I5898) (A := A5898) hV5898), (IvM_f2 (I := I5898) (A := A5898) hV5898), (IvM_f3 (I := I5898) (A := A5898) hV5898), (IvM_f4 (I := I5898) (A := A5898) hV5898), (IvM_f6 (I := I5898) (A := A5898) hV5898), (IvM_f8 (I := I5898) (A := A5898) hV5898), (IvM_f15 (I := I5898) (A := A5898) hV5898), (IvM_f16 (I := I5898) (A := A5898) hV5898), (IvM_f17 (I := I5898) (A := A5898) hV5898), (IvM_f18 (I := I5898) (A := A5898) hV5898), (IvM_f22 (I := I5898) (A := A5898) hV5898), (IvM_f23 (I := I5898) (A := A5898) hV5898), (IvM_f24 (I := I5898) (A := A5898) hV5898), (IvM_a11 (I := I5898) (A := A5898) hV5898), (IvM_a26 (I := I5898) (A := A5898) hV5898), (IvM_s8_0 (I := I5898) (A := A5898) hV5898), (IvM_s8_1 (I := I5898) (A := A5898) hV5898), (IvM_s10_0 (I := I5898) (A := A5898) hV5898), (IvM_s10_1 (I := I5898) (A := A5898) hV5898), (IvM_s17_0 (I := I5898) (A := A5898) hV5898), (IvM_s17_164 (I := I5898) (A := A5898) hV5898), (IvM_lv (I := I5898) (A := A5898) hV5898), (IvM_sd (I := I5898) (A := A5898) hV5898), (IvM_nq (I := I5898) (A := A5898) hV5898), (IvM_hr (I := I5898) (A := A5898) hV5898), (IvM_hh (I := I5898) (A := A5898) hV5898), trivial⟩, (by omega), (by omega), (by rw [show (I5898 8) = (I4688 8) from (hI5898 8 rfl)] <;> omega), rfl, rfl⟩ dX12_tellSeries_107
                    exfalso; omega
                  exfalso; omega
              · skip
                have f5919 := IvM_f4 hIv
                have f5920 := IvM_f6 hIv
                have f5921 := IvM_f8 hIv
                exact g_vret hk hR ⟨I4688, A4688, L4688, (show Md [4, 6, 7, 8, 9, 11, 12, 13] I I4688 from (Md.tr (Md.up Md.rf rfl) hI4688 rfl)), (show Md [8, 9] A A4688 from (Md.tr Md.rf hA4688 rfl)), hV4688, (by omega), (by omega), (by omega), rfl, rfl⟩ dX12_tellSeries_48
            · skip
              refine g_aload_n hk dX12_tellSeries_36 rfl ?_
              refine g_iconst (v := 2) hk dX12_tellSeries_37 (by decide) ?_
              have k5922 : (2 : Int32).toInt = 2 := rfl
              refine g_callV (n := 1) hk (j128_X12_fail l D zt r g I4688 A4688 L4688 2 hV4688 (by decide) (by decide)) (SP.same _) (fun _ h => h) (gi_V (List.mem_cons_of_mem _ (List.mem_append_left _ (List.mem_of_getElem? (i := 22) rfl))) (List.mem_cons_of_mem _ (List.mem_append_left _ (List.mem_of_getElem? (i := 23) rfl))) (List.mem_cons_of_mem _ (List.mem_append_left _ (List.mem_of_getElem? (i := 24) rfl))) (List.mem_cons_of_mem _ (List.mem_append_left _ (List.mem_of_getElem? (i := 4) rfl))) (gi_sub (fun w h => (List.mem_cons_of_mem _ (List.mem_append_right _ (List.mem_append_right _ (List.mem_append_right _ (List.mem_append_right _ (List.mem_append_right _ (List.mem_append_right _ (List.mem_append_right _ (List.mem_append_left _ h)))))))))) zg_j128_X12_fail)) rfl rfl rfl (by decide +kernel) ⟨Nat.le_of_ble_eq_true rfl, Nat.le_of_ble_eq_true rfl⟩ 0 rfl rfl rfl rfl (Nat.le_of_ble_eq_true rfl) ⟨Nat.le_of_ble_eq_true rfl, Nat.le_of_ble_eq_true rfl⟩ dX12_tellSeries_38 (fun v ty' w' hp hk' => ?_)
              obtain ⟨I5924, A5924, L5924, hI5924, hA5924, hV5924, r5925, r5926, r5927, rfl, rfl⟩ := hp
              have f5928 := IvM_f6 hV5924
              rw [show (I5924 8) = (I4688 8) from (hI5924 8 rfl)] at r5926
              show GW κ 2 0 0 (wM r g I5924 A5924 L5924) 41 [(0, .ref (r 0))] []
              refine g_aload_n hk dX12_tellSeries_41 rfl ?_
              refine gM_i6 (v := (I5924 6)) hk hin12 (List.mem_cons_of_mem _ (List.mem_append_left _ (List.mem_of_getElem? (i := 11) rfl))) dX12_tellSeries_42 rfl ?_
              refine g_if_le (tgt := 49) (a := (I5924 6).toInt) hk dX12_tellSeries_45 (by decide) rfl (fun c5929 => ?_) (fun c5929 => ?_)
              · skip
                refine g_aload_n hk dX12_tellSeries_49 rfl ?_
                refine g_bipush (v := 26) hk dX12_tellSeries_50 (by decide) ?_
                refine g_callV (n := 1) hk (j125_X12_is l D zt r g I5924 A5924 L5924 26 hV5924) (SP.same _) (fun _ h => h) (gi_V (List.mem_cons_of_mem _ (List.mem_append_left _ (List.mem_of_getElem? (i := 5) rfl))) (List.mem_cons_of_mem _ (List.mem_append_left _ (List.mem_of_getElem? (i := 6) rfl))) (List.mem_cons_of_mem _ (List.mem_append_left _ (List.mem_of_getElem? (i := 7) rfl))) (List.mem_cons_of_mem _ (List.mem_append_left _ (List.mem_of_getElem? (i := 4) rfl))) (gi_sub (fun w h => (List.mem_cons_of_mem _ (List.mem_append_right _ (List.mem_append_right _ (List.mem_append_right _ (List.mem_append_left _ h)))))) zg_j125_X12_is)) rfl rfl rfl (by decide +kernel) ⟨Nat.le_of_ble_eq_true rfl, Nat.le_of_ble_eq_true rfl⟩ 0 rfl rfl rfl rfl (Nat.le_of_ble_eq_true rfl) ⟨Nat.le_of_ble_eq_true rfl, Nat.le_of_ble_eq_true rfl⟩ dX12_tellSeries_52 (fun v ty' w' hp hk' => ?_)
                rcases hp with ⟨c5930, rfl, rfl⟩ | ⟨c5932, rfl, rfl⟩
                · skip
                  rw [show (A5924 2 (I5924 4).toNatClampNeg) = (A 2 (I4688 4).toNatClampNeg) from (by rw [show I5924 4 = (I4688 4) from (hI5924 4 rfl)]; exact ((congrFun (hA5924 2 rfl) _).trans (congrFun (hA4688 2 rfl) _)))] at c5930
                  show GW κ 2 0 0 (wM r g I5924 A5924 L5924) 55 [(0, .ref (r 0))] [.int 0]
                  refine g_istore_n (lv' := [(1, .int 0), (0, .ref (r 0))]) hk dX12_tellSeries_55 (by decide) rfl ?_
                  refine g_iload_n hk dX12_tellSeries_56 rfl ?_
                  refine g_if_eq (tgt := 64) (a := 0) hk dX12_tellSeries_57 (by decide) rfl (fun _ => ?_) (fun z9 => absurd (show (0 : Int) = (0 : Int) from by decide) z9)
                  refine g_aload_n hk dX12_tellSeries_64 rfl ?_
                  refine gM_r0_27 hk hin12 (List.mem_cons_of_mem _ (List.mem_append_left _ (List.mem_of_getElem? (i := 14) rfl))) dX12_tellSeries_65 ?_
                  refine g_sipush (v := 160) hk dX12_tellSeries_68 (by decide) ?_
                  refine g_aload_n hk dX12_tellSeries_71 rfl ?_
                  refine gM_i16 (v := (I 16)) hk hin12 (List.mem_cons_of_mem _ (List.mem_append_left _ (List.mem_of_getElem? (i := 13) rfl))) dX12_tellSeries_72 ((hI5924 16 rfl).trans (hI4688 16 rfl)) ?_
                  by_cases c5934 : (I 16).toInt = 1
                  · have ec5934 : (I 16) = 1 := Int32.toInt_inj.mp c5934
                    rw [ec5934]
                    show GW κ 2 0 0 (wM r g I5924 A5924 L5924) 75 [(1, .int 0), (0, .ref (r 0))] [.int 1, .int 160, .ref (r 10)]
                    refine g_imul hk dX12_tellSeries_75 ?_
                    refine g_norm (v := 160) (by decide) ?_
                    refine g_aload_n hk dX12_tellSeries_76 rfl ?_
                    refine gM_r0_26 hk hin12 (List.mem_cons_of_mem _ (List.mem_append_left _ (List.mem_of_getElem? (i := 12) rfl))) dX12_tellSeries_77 ?_
                    refine g_aload_n hk dX12_tellSeries_80 rfl ?_
                    refine gM_i16 (v := (I 16)) hk hin12 (List.mem_cons_of_mem _ (List.mem_append_left _ (List.mem_of_getElem? (i := 13) rfl))) dX12_tellSeries_81 ((hI5924 16 rfl).trans (hI4688 16 rfl)) ?_
                    by_cases c5935 : (I 16).toInt = 1
                    · have ec5935 : (I 16) = 1 := Int32.toInt_inj.mp c5935
                      rw [ec5935]
                      show GW κ 2 0 0 (wM r g I5924 A5924 L5924) 84 [(1, .int 0), (0, .ref (r 0))] [.int 1, .ref (r 9), .int 160, .ref (r 10)]
                      refine lM_8 (v := (A4688 8 1)) hk (vp_in_iff.mpr ⟨by decide, by decide⟩) (congrFun (hA5924 8 rfl) _) dX12_tellSeries_84 ?_
                      refine g_iadd hk dX12_tellSeries_85 ?_
                      refine g_topi (fun y5936 ey5936 => ?_)
                      have hy5936 : y5936.toInt = 160 + (A4688 8 1).toInt := i32_add ey5936 rfl rfl (by omega) (by omega)
                      refine g_iload_n hk dX12_tellSeries_86 rfl ?_
                      refine g_if_eq (tgt := 95) (a := 0) hk dX12_tellSeries_87 (by decide) rfl (fun _ => ?_) (fun z9 => absurd (show (0 : Int) = (0 : Int) from by decide) z9)
                      refine g_aload_n hk dX12_tellSeries_95 rfl ?_
                      refine g_callV (n := 0) hk (j132_X12_readingTold l D zt r g I5924 A5924 L5924  hV5924) (SP.same _) (fun _ h => h) (gi_V (List.mem_cons_of_mem _ (List.mem_append_left _ (List.mem_of_getElem? (i := 15) rfl))) (List.mem_cons_of_mem _ (List.mem_append_left _ (List.mem_of_getElem? (i := 16) rfl))) (List.mem_cons_of_mem _ (List.mem_append_left _ (List.mem_of_getElem? (i := 17) rfl))) (List.mem_cons_of_mem _ (List.mem_append_left _ (List.mem_of_getElem? (i := 4) rfl))) (gi_sub (fun w h => (List.mem_cons_of_mem _ (List.mem_append_right _ (List.mem_append_right _ (List.mem_append_right _ (List.mem_append_right _ (List.mem_append_right _ (List.mem_append_left _ h)))))))) zg_j132_X12_readingTold)) rfl rfl rfl (by decide +kernel) ⟨Nat.le_of_ble_eq_true rfl, Nat.le_of_ble_eq_true rfl⟩ 0 rfl rfl rfl rfl (Nat.le_of_ble_eq_true rfl) ⟨Nat.le_of_ble_eq_true rfl, Nat.le_of_ble_eq_true rfl⟩ dX12_tellSeries_96 (fun v ty' w' hp hk' => ?_)
                      obtain ⟨I5938, A5938, L5938, hI5938, hA5938, hV5938, y5937, r5939, r5940, r5941, r5942, rfl, rfl⟩ := hp
                      have f5943 := IvM_f4 hV5938
                      rw [show (I5924 4) = (I4688 4) from (hI5924 4 rfl)] at r5939
                      have f5944 := IvM_f6 hV5938
                      have f5945 := IvM_f8 hV5938
                      rw [show (I5924 8) = (I4688 8) from (hI5924 8 rfl)] at r5941
                      rw [show (I5924 4) = (I4688 4) from (hI5924 4 rfl)] at r5942
                      show GW κ 2 0 0 (wM r g I5938 A5938 L5938) 99 [(1, .int 0), (0, .ref (r 0))] [.int y5937, .int y5936, .ref (r 10)]
                      refine sM_9 (j := y5936.toNatClampNeg) hk (vp_in_iff.mpr ⟨by omega, by omega⟩) rfl dX12_tellSeries_99 ?_
                      refine g_aload_n hk dX12_tellSeries_100 rfl ?_
                      refine gM_i6 (v := (I5938 6)) hk hin12 (List.mem_cons_of_mem _ (List.mem_append_left _ (List.mem_of_getElem? (i := 11) rfl))) dX12_tellSeries_101 rfl ?_
                      refine g_if_le (tgt := 108) (a := (I5938 6).toInt) hk dX12_tellSeries_104 (by decide) rfl (fun c5946 => ?_) (fun c5946 => ?_)
                      · skip
                        refine g_aload_n hk dX12_tellSeries_108 rfl ?_
                        refine gM_r0_26 hk hin12 (List.mem_cons_of_mem _ (List.mem_append_left _ (List.mem_of_getElem? (i := 12) rfl))) dX12_tellSeries_109 ?_
                        refine g_aload_n hk dX12_tellSeries_112 rfl ?_
                        refine gM_i16 (v := (I 16)) hk hin12 (List.mem_cons_of_mem _ (List.mem_append_left _ (List.mem_of_getElem? (i := 13) rfl))) dX12_tellSeries_113 ((hI5938 16 rfl).trans ((hI5924 16 rfl).trans (hI4688 16 rfl))) ?_
                        by_cases c5947 : (I 16).toInt = 1
                        · have ec5947 : (I 16) = 1 := Int32.toInt_inj.mp c5947
                          rw [ec5947]
                          show GW κ 2 0 0 (wM r g I5938 (up3 A5938 9 (y5936.toNatClampNeg) y5937) L5938) 116 [(1, .int 0), (0, .ref (r 0))] [.int 1, .ref (r 9)]
                          refine g_dup2 hk dX12_tellSeries_116 rfl rfl ?_
                          refine lM_8 (v := (A4688 8 1)) hk (vp_in_iff.mpr ⟨by decide, by decide⟩) ((congrFun (hA5938 8 rfl) _).trans (congrFun (hA5924 8 rfl) _)) dX12_tellSeries_117 ?_
                          refine g_iconst (v := 1) hk dX12_tellSeries_118 (by decide) ?_
                          refine g_iadd hk dX12_tellSeries_119 ?_
                          refine g_topi (fun y5948 ey5948 => ?_)
                          have hy5948 : y5948.toInt = (A4688 8 1).toInt + 1 := i32_add ey5948 rfl rfl (by omega) (by omega)
                          refine sM_8 (j := 1) hk (vp_in_iff.mpr ⟨by decide, by decide⟩) (by decide) dX12_tellSeries_120 ?_
                          have f5949 := IvM_s8_0 hV5938
                          have f5950 := IvM_s8_1 hV5938
                          refine g_aload_n hk dX12_tellSeries_121 rfl ?_
                          refine g_dup hk dX12_tellSeries_122 rfl ?_
                          refine gM_i11 (v := (I4688 11)) hk hin12 (List.mem_cons_of_mem _ (List.mem_append_left _ (List.mem_of_getElem? (i := 0) rfl))) dX12_tellSeries_123 ((hI5938 11 rfl).trans (hI5924 11 rfl)) ?_
                          refine g_iconst (v := 1) hk dX12_tellSeries_126 (by decide) ?_
                          have b5951l := Int32.le_toInt (I4688 11)
                          have b5951h := Int32.toInt_lt (I4688 11)
                          refine g_iadd hk dX12_tellSeries_127 ?_
                          refine g_topi (fun y5952 ey5952 => ?_)
                          refine pM_i11 hk hin12 (List.mem_cons_of_mem _ (List.mem_append_left _ (List.mem_of_getElem? (i := 0) rfl))) dX12_tellSeries_128 ?_
                          refine g_goto (tgt := 5) hk dX12_tellSeries_131 (by decide) ?_
                          exact g_lv (List.forall_mem_cons.mpr ⟨List.mem_of_getElem? (i := 1) rfl, (fun _ h => absurd h List.not_mem_nil)⟩) (ih5724 (upd I5938 11 y5952) (up3 (up3 A5938 9 (y5936.toNatClampNeg) y5937) 8 1 y5948) L5938 (show Md [4, 6, 7, 8, 9, 11, 12, 13] (upd I 11 0) (upd I5938 11 y5952) from Md.tr hI4688 (show Md [4, 6, 7, 8, 9, 11, 12, 13] I4688 (upd I5938 11 y5952) from (Md.up (Md.tr (Md.tr Md.rf hI5924 rfl) hI5938 rfl) rfl)) rfl) (show Md [8, 9] A (up3 (up3 A5938 9 (y5936.toNatClampNeg) y5937) 8 1 y5948) from Md.tr hA4688 (show Md [8, 9] A4688 (up3 (up3 A5938 9 (y5936.toNatClampNeg) y5937) 8 1 y5948) from (Md.up3 (Md.up3 (Md.tr (Md.tr Md.rf hA5924 rfl) hA5938 rfl) rfl) rfl)) rfl) ⟨(IvM_f1 (I := I5938) (A := A5938) hV5938), (IvM_f2 (I := I5938) (A := A5938) hV5938), (IvM_f3 (I := I5938) (A := A5938) hV5938), (IvM_f4 (I := I5938) (A := A5938) hV5938), (IvM_f6 (I := I5938) (A := A5938) hV5938), (IvM_f8 (I := I5938) (A := A5938) hV5938), (IvM_f15 (I := I5938) (A := A5938) hV5938), (IvM_f16 (I := I5938) (A := A5938) hV5938), (IvM_f17 (I := I5938) (A := A5938) hV5938), (IvM_f18 (I := I5938) (A := A5938) hV5938), (IvM_f22 (I := I5938) (A := A5938) hV5938), (IvM_f23 (I := I5938) (A := A5938) hV5938), (IvM_f24 (I := I5938) (A := A5938) hV5938), (IvM_a11 (I := I5938) (A := A5938) hV5938), (IvM_a26 (I := I5938) (A := A5938) hV5938), (show 0 ≤ ((up3 (up3 A5938 9 (y5936.toNatClampNeg) y5937) 8 1 y5948) 8 0).toInt ∧ ((up3 (up3 A5938 9 (y5936.toNatClampNeg) y5937) 8 1 y5948) 8 0).toInt ≤ 160 from by rw [show (up3 (up3 A5938 9 (y5936.toNatClampNeg) y5937) 8 1 y5948) 8 0 = (A5938 8 0) from rfl]; exact ⟨by omega, by omega⟩), (show 0 ≤ ((up3 (up3 A5938 9 (y5936.toNatClampNeg) y5937) 8 1 y5948) 8 1).toInt ∧ ((up3 (up3 A5938 9 (y5936.toNatClampNeg) y5937) 8 1 y5948) 8 1).toInt ≤ 160 from by rw [show (up3 (up3 A5938 9 (y5936.toNatClampNeg) y5937) 8 1 y5948) 8 1 = y5948 from rfl]; exact ⟨by omega, by omega⟩), (IvM_s10_0 (I := I5938) (A := A5938) hV5938), (IvM_s10_1 (I := I5938) (A := A5938) hV5938), (IvM_s17_0 (I := I5938) (A := A5938) hV5938), (IvM_s17_164 (I := I5938) (A := A5938) hV5938), (IvM_lv (I := I5938) (A := A5938) hV5938), (IvM_sd (I := I5938) (A := A5938) hV5938), (IvM_nq (I := I5938) (A := A5938) hV5938), (IvM_hr (I := I5938) (A := A5938) hV5938), (IvM_hh (I := I5938) (A := A5938) hV5938), trivial⟩ (by first | (rw [show ((upd I5938 11 y5952) 4) = (I5938 4) from rfl] <;> omega) | omega) (by first | (rw [show ((upd I5938 11 y5952) 6) = (I5938 6) from rfl] <;> omega) | omega) (by first | (rw [show ((upd I5938 11 y5952) 8) = (I5938 8) from rfl] <;> omega) | omega) (by first | (rw [show ((upd I5938 11 y5952) 4) = (I5938 4) from rfl] <;> omega) | omega) (by omega))
                        exfalso; omega
                      · skip
                        have f5953 := IvM_f4 hIv
                        have f5954 := IvM_f6 hIv
                        have f5955 := IvM_f8 hIv
                        exact g_vret hk hR ⟨I5938, (up3 A5938 9 (y5936.toNatClampNeg) y5937), L5938, (show Md [4, 6, 7, 8, 9, 11, 12, 13] I I5938 from (Md.tr (Md.tr (Md.tr (Md.up Md.rf rfl) hI4688 rfl) hI5924 rfl) hI5938 rfl)), (show Md [8, 9] A (up3 A5938 9 (y5936.toNatClampNeg) y5937) from (Md.up3 (Md.tr (Md.tr (Md.tr Md.rf hA4688 rfl) hA5924 rfl) hA5938 rfl) rfl)), ⟨(IvM_f1 (I := I5938) (A := A5938) hV5938), (IvM_f2 (I := I5938) (A := A5938) hV5938), (IvM_f3 (I := I5938) (A := A5938) hV5938), (IvM_f4 (I := I5938) (A := A5938) hV5938), (IvM_f6 (I := I5938) (A := A5938) hV5938), (IvM_f8 (I := I5938) (A := A5938) hV5938), (IvM_f15 (I := I5938) (A := A5938) hV5938), (IvM_f16 (I := I5938) (A := A5938) hV5938), (IvM_f17 (I := I5938) (A := A5938) hV5938), (IvM_f18 (I := I5938) (A := A5938) hV5938), (IvM_f22 (I := I5938) (A := A5938) hV5938), (IvM_f23 (I := I5938) (A := A5938) hV5938), (IvM_f24 (I := I5938) (A := A5938) hV5938), (IvM_a11 (I := I5938) (A := A5938) hV5938), (IvM_a26 (I := I5938) (A := A5938) hV5938), (IvM_s8_0 (I := I5938) (A := A5938) hV5938), (IvM_s8_1 (I := I5938) (A := A5938) hV5938), (IvM_s10_0 (I := I5938) (A := A5938) hV5938), (IvM_s10_1 (I := I5938) (A := A5938) hV5938), (IvM_s17_0 (I := I5938) (A := A5938) hV5938), (IvM_s17_164 (I := I5938) (A := A5938) hV5938), (IvM_lv (I := I5938) (A := A5938) hV5938), (IvM_sd (I := I5938) (A := A5938) hV5938), (IvM_nq (I := I5938) (A := A5938) hV5938), (IvM_hr (I := I5938) (A := A5938) hV5938), (IvM_hh (I := I5938) (A := A5938) hV5938), trivial⟩, (by omega), (by omega), (by omega), rfl, rfl⟩ dX12_tellSeries_107
                    exfalso; omega
                  exfalso; omega
                · skip
                  rw [show (A5924 2 (I5924 4).toNatClampNeg) = (A 2 (I4688 4).toNatClampNeg) from (by rw [show I5924 4 = (I4688 4) from (hI5924 4 rfl)]; exact ((congrFun (hA5924 2 rfl) _).trans (congrFun (hA4688 2 rfl) _)))] at c5932
                  show GW κ 2 0 0 (wM r g I5924 A5924 L5924) 55 [(0, .ref (r 0))] [.int 1]
                  refine g_istore_n (lv' := [(1, .int 1), (0, .ref (r 0))]) hk dX12_tellSeries_55 (by decide) rfl ?_
                  refine g_iload_n hk dX12_tellSeries_56 rfl ?_
                  refine g_if_eq (tgt := 64) (a := 1) hk dX12_tellSeries_57 (by decide) rfl (fun z9 => absurd z9 (show ¬ ((1 : Int) = (0 : Int)) from by decide)) (fun _ => ?_)
                  refine g_aload_n hk dX12_tellSeries_60 rfl ?_
                  refine g_callV (n := 0) hk (j127_X12_goesOn l D zt r g I5924 A5924 L5924  hV5924) (SP.same _) (fun _ h => h) (gi_V (List.mem_cons_of_mem _ (List.mem_append_left _ (List.mem_of_getElem? (i := 18) rfl))) (List.mem_cons_of_mem _ (List.mem_append_left _ (List.mem_of_getElem? (i := 19) rfl))) (List.mem_cons_of_mem _ (List.mem_append_left _ (List.mem_of_getElem? (i := 20) rfl))) (List.mem_cons_of_mem _ (List.mem_append_left _ (List.mem_of_getElem? (i := 4) rfl))) (gi_sub (fun w h => (List.mem_cons_of_mem _ (List.mem_append_right _ (List.mem_append_right _ (List.mem_append_right _ (List.mem_append_right _ (List.mem_append_right _ (List.mem_append_right _ (List.mem_append_left _ h))))))))) zg_j127_X12_goesOn)) rfl rfl rfl (by decide +kernel) ⟨Nat.le_of_ble_eq_true rfl, Nat.le_of_ble_eq_true rfl⟩ 0 rfl rfl rfl rfl (Nat.le_of_ble_eq_true rfl) ⟨Nat.le_of_ble_eq_true rfl, Nat.le_of_ble_eq_true rfl⟩ dX12_tellSeries_61 (fun v ty' w' hp hk' => ?_)
                  obtain ⟨I5957, A5957, L5957, hI5957, hA5957, hV5957, r5958, r5959, r5960, r5961, rfl, rfl⟩ := hp
                  have f5962 := IvM_f4 hV5957
                  rw [show (I5924 4) = (I4688 4) from (hI5924 4 rfl)] at r5958
                  have f5963 := IvM_f6 hV5957
                  rw [show (I5924 8) = (I4688 8) from (hI5924 8 rfl), show (I5957 8) = (I4688 8) from ((hI5957 8 rfl).trans (hI5924 8 rfl))] at r5960
                  rw [show (I5924 4) = (I4688 4) from (hI5924 4 rfl)] at r5961
                  show GW κ 2 0 0 (wM r g I5957 A5957 L5957) 64 [(1, .int 1), (0, .ref (r 0))] []
                  refine g_aload_n hk dX12_tellSeries_64 rfl ?_
                  refine gM_r0_27 hk hin12 (List.mem_cons_of_mem _ (List.mem_append_left _ (List.mem_of_getElem? (i := 14) rfl))) dX12_tellSeries_65 ?_
                  refine g_sipush (v := 160) hk dX12_tellSeries_68 (by decide) ?_
                  refine g_aload_n hk dX12_tellSeries_71 rfl ?_
                  refine gM_i16 (v := (I 16)) hk hin12 (List.mem_cons_of_mem _ (List.mem_append_left _ (List.mem_of_getElem? (i := 13) rfl))) dX12_tellSeries_72 ((hI5957 16 rfl).trans ((hI5924 16 rfl).trans (hI4688 16 rfl))) ?_
                  by_cases c5964 : (I 16).toInt = 1
                  · have ec5964 : (I 16) = 1 := Int32.toInt_inj.mp c5964
                    rw [ec5964]
                    show GW κ 2 0 0 (wM r g I5957 A5957 L5957) 75 [(1, .int 1), (0, .ref (r 0))] [.int 1, .int 160, .ref (r 10)]
                    refine g_imul hk dX12_tellSeries_75 ?_
                    refine g_norm (v := 160) (by decide) ?_
                    refine g_aload_n hk dX12_tellSeries_76 rfl ?_
                    refine gM_r0_26 hk hin12 (List.mem_cons_of_mem _ (List.mem_append_left _ (List.mem_of_getElem? (i := 12) rfl))) dX12_tellSeries_77 ?_
                    refine g_aload_n hk dX12_tellSeries_80 rfl ?_
                    refine gM_i16 (v := (I 16)) hk hin12 (List.mem_cons_of_mem _ (List.mem_append_left _ (List.mem_of_getElem? (i := 13) rfl))) dX12_tellSeries_81 ((hI5957 16 rfl).trans ((hI5924 16 rfl).trans (hI4688 16 rfl))) ?_
                    by_cases c5965 : (I 16).toInt = 1
                    · have ec5965 : (I 16) = 1 := Int32.toInt_inj.mp c5965
                      rw [ec5965]
                      show GW κ 2 0 0 (wM r g I5957 A5957 L5957) 84 [(1, .int 1), (0, .ref (r 0))] [.int 1, .ref (r 9), .int 160, .ref (r 10)]
                      refine lM_8 (v := (A4688 8 1)) hk (vp_in_iff.mpr ⟨by decide, by decide⟩) ((congrFun (hA5957 8 rfl) _).trans (congrFun (hA5924 8 rfl) _)) dX12_tellSeries_84 ?_
                      refine g_iadd hk dX12_tellSeries_85 ?_
                      refine g_topi (fun y5966 ey5966 => ?_)
                      have hy5966 : y5966.toInt = 160 + (A4688 8 1).toInt := i32_add ey5966 rfl rfl (by omega) (by omega)
                      refine g_iload_n hk dX12_tellSeries_86 rfl ?_
                      refine g_if_eq (tgt := 95) (a := 1) hk dX12_tellSeries_87 (by decide) rfl (fun z9 => absurd z9 (show ¬ ((1 : Int) = (0 : Int)) from by decide)) (fun _ => ?_)
                      refine g_ldc (v := 100000) hk (List.mem_cons_of_mem _ (List.mem_append_left _ (List.mem_of_getElem? (i := 21) rfl))) dX12_tellSeries_90 ?_
                      refine g_goto (tgt := 99) hk dX12_tellSeries_92 (by decide) ?_
                      have k5967 : (100000 : Int32).toInt = 100000 := rfl
                      refine sM_9 (j := y5966.toNatClampNeg) hk (vp_in_iff.mpr ⟨by omega, by omega⟩) rfl dX12_tellSeries_99 ?_
                      refine g_aload_n hk dX12_tellSeries_100 rfl ?_
                      refine gM_i6 (v := (I5957 6)) hk hin12 (List.mem_cons_of_mem _ (List.mem_append_left _ (List.mem_of_getElem? (i := 11) rfl))) dX12_tellSeries_101 rfl ?_
                      refine g_if_le (tgt := 108) (a := (I5957 6).toInt) hk dX12_tellSeries_104 (by decide) rfl (fun c5968 => ?_) (fun c5968 => ?_)
                      · skip
                        refine g_aload_n hk dX12_tellSeries_108 rfl ?_
                        refine gM_r0_26 hk hin12 (List.mem_cons_of_mem _ (List.mem_append_left _ (List.mem_of_getElem? (i := 12) rfl))) dX12_tellSeries_109 ?_
                        refine g_aload_n hk dX12_tellSeries_112 rfl ?_
                        refine gM_i16 (v := (I 16)) hk hin12 (List.mem_cons_of_mem _ (List.mem_append_left _ (List.mem_of_getElem? (i := 13) rfl))) dX12_tellSeries_113 ((hI5957 16 rfl).trans ((hI5924 16 rfl).trans (hI4688 16 rfl))) ?_
                        by_cases c5969 : (I 16).toInt = 1
                        · have ec5969 : (I 16) = 1 := Int32.toInt_inj.mp c5969
                          rw [ec5969]
                          show GW κ 2 0 0 (wM r g I5957 (up3 A5957 9 (y5966.toNatClampNeg) 100000) L5957) 116 [(1, .int 1), (0, .ref (r 0))] [.int 1, .ref (r 9)]
                          refine g_dup2 hk dX12_tellSeries_116 rfl rfl ?_
                          refine lM_8 (v := (A4688 8 1)) hk (vp_in_iff.mpr ⟨by decide, by decide⟩) ((congrFun (hA5957 8 rfl) _).trans (congrFun (hA5924 8 rfl) _)) dX12_tellSeries_117 ?_
                          refine g_iconst (v := 1) hk dX12_tellSeries_118 (by decide) ?_
                          refine g_iadd hk dX12_tellSeries_119 ?_
                          refine g_topi (fun y5970 ey5970 => ?_)
                          have hy5970 : y5970.toInt = (A4688 8 1).toInt + 1 := i32_add ey5970 rfl rfl (by omega) (by omega)
                          refine sM_8 (j := 1) hk (vp_in_iff.mpr ⟨by decide, by decide⟩) (by decide) dX12_tellSeries_120 ?_
                          have f5971 := IvM_s8_0 hV5957
                          have f5972 := IvM_s8_1 hV5957
                          refine g_aload_n hk dX12_tellSeries_121 rfl ?_
                          refine g_dup hk dX12_tellSeries_122 rfl ?_
                          refine gM_i11 (v := (I4688 11)) hk hin12 (List.mem_cons_of_mem _ (List.mem_append_left _ (List.mem_of_getElem? (i := 0) rfl))) dX12_tellSeries_123 ((hI5957 11 rfl).trans (hI5924 11 rfl)) ?_
                          refine g_iconst (v := 1) hk dX12_tellSeries_126 (by decide) ?_
                          have b5973l := Int32.le_toInt (I4688 11)
                          have b5973h := Int32.toInt_lt (I4688 11)
                          refine g_iadd hk dX12_tellSeries_127 ?_
                          refine g_topi (fun y5974 ey5974 => ?_)
                          refine pM_i11 hk hin12 (List.mem_cons_of_mem _ (List.mem_append_left _ (List.mem_of_getElem? (i := 0) rfl))) dX12_tellSeries_128 ?_
                          refine g_goto (tgt := 5) hk dX12_tellSeries_131 (by decide) ?_
                          exact g_lv (List.forall_mem_cons.mpr ⟨List.mem_of_getElem? (i := 1) rfl, (fun _ h => absurd h List.not_mem_nil)⟩) (ih5724 (upd I5957 11 y5974) (up3 (up3 A5957 9 (y5966.toNatClampNeg) 100000) 8 1 y5970) L5957 (show Md [4, 6, 7, 8, 9, 11, 12, 13] (upd I 11 0) (upd I5957 11 y5974) from Md.tr hI4688 (show Md [4, 6, 7, 8, 9, 11, 12, 13] I4688 (upd I5957 11 y5974) from (Md.up (Md.tr (Md.tr Md.rf hI5924 rfl) hI5957 rfl) rfl)) rfl) (show Md [8, 9] A (up3 (up3 A5957 9 (y5966.toNatClampNeg) 100000) 8 1 y5970) from Md.tr hA4688 (show Md [8, 9] A4688 (up3 (up3 A5957 9 (y5966.toNatClampNeg) 100000) 8 1 y5970) from (Md.up3 (Md.up3 (Md.tr (Md.tr Md.rf hA5924 rfl) hA5957 rfl) rfl) rfl)) rfl) ⟨(IvM_f1 (I := I5957) (A := A5957) hV5957), (IvM_f2 (I := I5957) (A := A5957) hV5957), (IvM_f3 (I := I5957) (A := A5957) hV5957), (IvM_f4 (I := I5957) (A := A5957) hV5957), (IvM_f6 (I := I5957) (A := A5957) hV5957), (IvM_f8 (I := I5957) (A := A5957) hV5957), (IvM_f15 (I := I5957) (A := A5957) hV5957), (IvM_f16 (I := I5957) (A := A5957) hV5957), (IvM_f17 (I := I5957) (A := A5957) hV5957), (IvM_f18 (I := I5957) (A := A5957) hV5957), (IvM_f22 (I := I5957) (A := A5957) hV5957), (IvM_f23 (I := I5957) (A := A5957) hV5957), (IvM_f24 (I := I5957) (A := A5957) hV5957), (IvM_a11 (I := I5957) (A := A5957) hV5957), (IvM_a26 (I := I5957) (A := A5957) hV5957), (show 0 ≤ ((up3 (up3 A5957 9 (y5966.toNatClampNeg) 100000) 8 1 y5970) 8 0).toInt ∧ ((up3 (up3 A5957 9 (y5966.toNatClampNeg) 100000) 8 1 y5970) 8 0).toInt ≤ 160 from by rw [show (up3 (up3 A5957 9 (y5966.toNatClampNeg) 100000) 8 1 y5970) 8 0 = (A5957 8 0) from rfl]; exact ⟨by omega, by omega⟩), (show 0 ≤ ((up3 (up3 A5957 9 (y5966.toNatClampNeg) 100000) 8 1 y5970) 8 1).toInt ∧ ((up3 (up3 A5957 9 (y5966.toNatClampNeg) 100000) 8 1 y5970) 8 1).toInt ≤ 160 from by rw [show (up3 (up3 A5957 9 (y5966.toNatClampNeg) 100000) 8 1 y5970) 8 1 = y5970 from rfl]; exact ⟨by omega, by omega⟩), (IvM_s10_0 (I := I5957) (A := A5957) hV5957), (IvM_s10_1 (I := I5957) (A := A5957) hV5957), (IvM_s17_0 (I := I5957) (A := A5957) hV5957), (IvM_s17_164 (I := I5957) (A := A5957) hV5957), (IvM_lv (I := I5957) (A := A5957) hV5957), (IvM_sd (I := I5957) (A := A5957) hV5957), (IvM_nq (I := I5957) (A := A5957) hV5957), (IvM_hr (I := I5957) (A := A5957) hV5957), (IvM_hh (I := I5957) (A := A5957) hV5957), trivial⟩ (by first | (rw [show ((upd I5957 11 y5974) 4) = (I5957 4) from rfl] <;> omega) | omega) (by first | (rw [show ((upd I5957 11 y5974) 6) = (I5957 6) from rfl] <;> omega) | omega) (by first | (rw [show ((upd I5957 11 y5974) 8) = (I4688 8) from ((hI5957 8 rfl).trans (hI5924 8 rfl))] <;> omega) | omega) (by first | (rw [show ((upd I5957 11 y5974) 4) = (I5957 4) from rfl] <;> omega) | omega) (by omega))
                        exfalso; omega
                      · skip
                        have f5975 := IvM_f4 hIv
                        have f5976 := IvM_f6 hIv
                        have f5977 := IvM_f8 hIv
                        exact g_vret hk hR ⟨I5957, (up3 A5957 9 (y5966.toNatClampNeg) 100000), L5957, (show Md [4, 6, 7, 8, 9, 11, 12, 13] I I5957 from (Md.tr (Md.tr (Md.tr (Md.up Md.rf rfl) hI4688 rfl) hI5924 rfl) hI5957 rfl)), (show Md [8, 9] A (up3 A5957 9 (y5966.toNatClampNeg) 100000) from (Md.up3 (Md.tr (Md.tr (Md.tr Md.rf hA4688 rfl) hA5924 rfl) hA5957 rfl) rfl)), ⟨(IvM_f1 (I := I5957) (A := A5957) hV5957), (IvM_f2 (I := I5957) (A := A5957) hV5957), (IvM_f3 (I := I5957) (A := A5957) hV5957), (IvM_f4 (I := I5957) (A := A5957) hV5957), (IvM_f6 (I := I5957) (A := A5957) hV5957), (IvM_f8 (I := I5957) (A := A5957) hV5957), (IvM_f15 (I := I5957) (A := A5957) hV5957), (IvM_f16 (I := I5957) (A := A5957) hV5957), (IvM_f17 (I := I5957) (A := A5957) hV5957), (IvM_f18 (I := I5957) (A := A5957) hV5957), (IvM_f22 (I := I5957) (A := A5957) hV5957), (IvM_f23 (I := I5957) (A := A5957) hV5957), (IvM_f24 (I := I5957) (A := A5957) hV5957), (IvM_a11 (I := I5957) (A := A5957) hV5957), (IvM_a26 (I := I5957) (A := A5957) hV5957), (IvM_s8_0 (I := I5957) (A := A5957) hV5957), (IvM_s8_1 (I := I5957) (A := A5957) hV5957), (IvM_s10_0 (I := I5957) (A := A5957) hV5957), (IvM_s10_1 (I := I5957) (A := A5957) hV5957), (IvM_s17_0 (I := I5957) (A := A5957) hV5957), (IvM_s17_164 (I := I5957) (A := A5957) hV5957), (IvM_lv (I := I5957) (A := A5957) hV5957), (IvM_sd (I := I5957) (A := A5957) hV5957), (IvM_nq (I := I5957) (A := A5957) hV5957), (IvM_hr (I := I5957) (A := A5957) hV5957), (IvM_hh (I := I5957) (A := A5957) hV5957), trivial⟩, (by omega), (by omega), (by rw [show (I5957 8) = (I4688 8) from ((hI5957 8 rfl).trans (hI5924 8 rfl))] <;> omega), rfl, rfl⟩ dX12_tellSeries_107
                    exfalso; omega
                  exfalso; omega
              · skip
                have f5978 := IvM_f4 hIv
                have f5979 := IvM_f6 hIv
                have f5980 := IvM_f8 hIv
                exact g_vret hk hR ⟨I5924, A5924, L5924, (show Md [4, 6, 7, 8, 9, 11, 12, 13] I I5924 from (Md.tr (Md.tr (Md.up Md.rf rfl) hI4688 rfl) hI5924 rfl)), (show Md [8, 9] A A5924 from (Md.tr (Md.tr Md.rf hA4688 rfl) hA5924 rfl)), hV5924, (by rw [show (I5924 4) = (I4688 4) from (hI5924 4 rfl)] <;> omega), (by omega), (by rw [show (I5924 8) = (I4688 8) from (hI5924 8 rfl)] <;> omega), rfl, rfl⟩ dX12_tellSeries_48
          exfalso; omega
      · skip
        show GW κ 2 0 0 (wM r g I4688 A4688 L4688) 9 [(0, .ref (r 0))] [.int 1]
        refine g_if_ne (tgt := 21) (a := 1) hk dX12_tellSeries_9 (by decide) rfl (fun _ => ?_) (fun z9 => absurd (show (1 : Int) ≠ (0 : Int) from by decide) z9)
        refine g_aload_n hk dX12_tellSeries_21 rfl ?_
        refine gM_r0_26 hk hin12 (List.mem_cons_of_mem _ (List.mem_append_left _ (List.mem_of_getElem? (i := 12) rfl))) dX12_tellSeries_22 ?_
        refine g_aload_n hk dX12_tellSeries_25 rfl ?_
        refine gM_i16 (v := (I 16)) hk hin12 (List.mem_cons_of_mem _ (List.mem_append_left _ (List.mem_of_getElem? (i := 13) rfl))) dX12_tellSeries_26 (hI4688 16 rfl) ?_
        have f5981 := IvM_f16 hIv
        by_cases c5982 : (I 16).toInt = 0
        · have ec5982 : (I 16) = 0 := Int32.toInt_inj.mp c5982
          rw [ec5982]
          show GW κ 2 0 0 (wM r g I4688 A4688 L4688) 29 [(0, .ref (r 0))] [.int 0, .ref (r 9)]
          refine lM_8 (v := (A4688 8 0)) hk (vp_in_iff.mpr ⟨by decide, by decide⟩) rfl dX12_tellSeries_29 ?_
          have f5983 := IvM_s8_0 hV4688
          refine g_sipush (v := 160) hk dX12_tellSeries_30 (by decide) ?_
          refine g_icmp_ne (tgt := 41) (a := (A4688 8 0).toInt) (b := 160) hk dX12_tellSeries_33 (by decide) rfl rfl (fun c5984 => ?_) (fun c5984 => ?_)
          · skip
            refine g_aload_n hk dX12_tellSeries_41 rfl ?_
            refine gM_i6 (v := (I4688 6)) hk hin12 (List.mem_cons_of_mem _ (List.mem_append_left _ (List.mem_of_getElem? (i := 11) rfl))) dX12_tellSeries_42 rfl ?_
            refine g_if_le (tgt := 49) (a := (I4688 6).toInt) hk dX12_tellSeries_45 (by decide) rfl (fun c5985 => ?_) (fun c5985 => ?_)
            · skip
              refine g_aload_n hk dX12_tellSeries_49 rfl ?_
              refine g_bipush (v := 26) hk dX12_tellSeries_50 (by decide) ?_
              have k5986 : (26 : Int32).toInt = 26 := rfl
              refine g_callV (n := 1) hk (j125_X12_is l D zt r g I4688 A4688 L4688 26 hV4688) (SP.same _) (fun _ h => h) (gi_V (List.mem_cons_of_mem _ (List.mem_append_left _ (List.mem_of_getElem? (i := 5) rfl))) (List.mem_cons_of_mem _ (List.mem_append_left _ (List.mem_of_getElem? (i := 6) rfl))) (List.mem_cons_of_mem _ (List.mem_append_left _ (List.mem_of_getElem? (i := 7) rfl))) (List.mem_cons_of_mem _ (List.mem_append_left _ (List.mem_of_getElem? (i := 4) rfl))) (gi_sub (fun w h => (List.mem_cons_of_mem _ (List.mem_append_right _ (List.mem_append_right _ (List.mem_append_right _ (List.mem_append_left _ h)))))) zg_j125_X12_is)) rfl rfl rfl (by decide +kernel) ⟨Nat.le_of_ble_eq_true rfl, Nat.le_of_ble_eq_true rfl⟩ 0 rfl rfl rfl rfl (Nat.le_of_ble_eq_true rfl) ⟨Nat.le_of_ble_eq_true rfl, Nat.le_of_ble_eq_true rfl⟩ dX12_tellSeries_52 (fun v ty' w' hp hk' => ?_)
              rcases hp with ⟨c5987, rfl, rfl⟩ | ⟨c5989, rfl, rfl⟩
              · skip
                rw [show (A4688 2 (I4688 4).toNatClampNeg) = (A 2 (I4688 4).toNatClampNeg) from (congrFun (hA4688 2 rfl) _)] at c5987
                show GW κ 2 0 0 (wM r g I4688 A4688 L4688) 55 [(0, .ref (r 0))] [.int 0]
                refine g_istore_n (lv' := [(1, .int 0), (0, .ref (r 0))]) hk dX12_tellSeries_55 (by decide) rfl ?_
                refine g_iload_n hk dX12_tellSeries_56 rfl ?_
                refine g_if_eq (tgt := 64) (a := 0) hk dX12_tellSeries_57 (by decide) rfl (fun _ => ?_) (fun z9 => absurd (show (0 : Int) = (0 : Int) from by decide) z9)
                refine g_aload_n hk dX12_tellSeries_64 rfl ?_
                refine gM_r0_27 hk hin12 (List.mem_cons_of_mem _ (List.mem_append_left _ (List.mem_of_getElem? (i := 14) rfl))) dX12_tellSeries_65 ?_
                refine g_sipush (v := 160) hk dX12_tellSeries_68 (by decide) ?_
                refine g_aload_n hk dX12_tellSeries_71 rfl ?_
                refine gM_i16 (v := (I 16)) hk hin12 (List.mem_cons_of_mem _ (List.mem_append_left _ (List.mem_of_getElem? (i := 13) rfl))) dX12_tellSeries_72 (hI4688 16 rfl) ?_
                by_cases c5991 : (I 16).toInt = 0
                · have ec5991 : (I 16) = 0 := Int32.toInt_inj.mp c5991
                  rw [ec5991]
                  show GW κ 2 0 0 (wM r g I4688 A4688 L4688) 75 [(1, .int 0), (0, .ref (r 0))] [.int 0, .int 160, .ref (r 10)]
                  refine g_imul hk dX12_tellSeries_75 ?_
                  refine g_norm (v := 0) (by decide) ?_
                  refine g_aload_n hk dX12_tellSeries_76 rfl ?_
                  refine gM_r0_26 hk hin12 (List.mem_cons_of_mem _ (List.mem_append_left _ (List.mem_of_getElem? (i := 12) rfl))) dX12_tellSeries_77 ?_
                  refine g_aload_n hk dX12_tellSeries_80 rfl ?_
                  refine gM_i16 (v := (I 16)) hk hin12 (List.mem_cons_of_mem _ (List.mem_append_left _ (List.mem_of_getElem? (i := 13) rfl))) dX12_tellSeries_81 (hI4688 16 rfl) ?_
                  by_cases c5992 : (I 16).toInt = 0
                  · have ec5992 : (I 16) = 0 := Int32.toInt_inj.mp c5992
                    rw [ec5992]
                    show GW κ 2 0 0 (wM r g I4688 A4688 L4688) 84 [(1, .int 0), (0, .ref (r 0))] [.int 0, .ref (r 9), .int 0, .ref (r 10)]
                    refine lM_8 (v := (A4688 8 0)) hk (vp_in_iff.mpr ⟨by decide, by decide⟩) rfl dX12_tellSeries_84 ?_
                    refine g_iadd hk dX12_tellSeries_85 ?_
                    refine g_topi (fun y5993 ey5993 => ?_)
                    have hy5993 : y5993.toInt = 0 + (A4688 8 0).toInt := i32_add ey5993 rfl rfl (by omega) (by omega)
                    refine g_iload_n hk dX12_tellSeries_86 rfl ?_
                    refine g_if_eq (tgt := 95) (a := 0) hk dX12_tellSeries_87 (by decide) rfl (fun _ => ?_) (fun z9 => absurd (show (0 : Int) = (0 : Int) from by decide) z9)
                    refine g_aload_n hk dX12_tellSeries_95 rfl ?_
                    refine g_callV (n := 0) hk (j132_X12_readingTold l D zt r g I4688 A4688 L4688  hV4688) (SP.same _) (fun _ h => h) (gi_V (List.mem_cons_of_mem _ (List.mem_append_left _ (List.mem_of_getElem? (i := 15) rfl))) (List.mem_cons_of_mem _ (List.mem_append_left _ (List.mem_of_getElem? (i := 16) rfl))) (List.mem_cons_of_mem _ (List.mem_append_left _ (List.mem_of_getElem? (i := 17) rfl))) (List.mem_cons_of_mem _ (List.mem_append_left _ (List.mem_of_getElem? (i := 4) rfl))) (gi_sub (fun w h => (List.mem_cons_of_mem _ (List.mem_append_right _ (List.mem_append_right _ (List.mem_append_right _ (List.mem_append_right _ (List.mem_append_right _ (List.mem_append_left _ h)))))))) zg_j132_X12_readingTold)) rfl rfl rfl (by decide +kernel) ⟨Nat.le_of_ble_eq_true rfl, Nat.le_of_ble_eq_true rfl⟩ 0 rfl rfl rfl rfl (Nat.le_of_ble_eq_true rfl) ⟨Nat.le_of_ble_eq_true rfl, Nat.le_of_ble_eq_true rfl⟩ dX12_tellSeries_96 (fun v ty' w' hp hk' => ?_)
                    obtain ⟨I5995, A5995, L5995, hI5995, hA5995, hV5995, y5994, r5996, r5997, r5998, r5999, rfl, rfl⟩ := hp
                    have f6000 := IvM_f4 hV5995
                    have f6001 := IvM_f6 hV5995
                    have f6002 := IvM_f8 hV5995
                    show GW κ 2 0 0 (wM r g I5995 A5995 L5995) 99 [(1, .int 0), (0, .ref (r 0))] [.int y5994, .int y5993, .ref (r 10)]
                    refine sM_9 (j := y5993.toNatClampNeg) hk (vp_in_iff.mpr ⟨by omega, by omega⟩) rfl dX12_tellSeries_99 ?_
                    refine g_aload_n hk dX12_tellSeries_100 rfl ?_
                    refine gM_i6 (v := (I5995 6)) hk hin12 (List.mem_cons_of_mem _ (List.mem_append_left _ (List.mem_of_getElem? (i := 11) rfl))) dX12_tellSeries_101 rfl ?_
                    refine g_if_le (tgt := 108) (a := (I5995 6).toInt) hk dX12_tellSeries_104 (by decide) rfl (fun c6003 => ?_) (fun c6003 => ?_)
                    · skip
                      refine g_aload_n hk dX12_tellSeries_108 rfl ?_
                      refine gM_r0_26 hk hin12 (List.mem_cons_of_mem _ (List.mem_append_left _ (List.mem_of_getElem? (i := 12) rfl))) dX12_tellSeries_109 ?_
                      refine g_aload_n hk dX12_tellSeries_112 rfl ?_
                      refine gM_i16 (v := (I 16)) hk hin12 (List.mem_cons_of_mem _ (List.mem_append_left _ (List.mem_of_getElem? (i := 13) rfl))) dX12_tellSeries_113 ((hI5995 16 rfl).trans (hI4688 16 rfl)) ?_
                      by_cases c6004 : (I 16).toInt = 0
                      · have ec6004 : (I 16) = 0 := Int32.toInt_inj.mp c6004
                        rw [ec6004]
                        show GW κ 2 0 0 (wM r g I5995 (up3 A5995 9 (y5993.toNatClampNeg) y5994) L5995) 116 [(1, .int 0), (0, .ref (r 0))] [.int 0, .ref (r 9)]
                        refine g_dup2 hk dX12_tellSeries_116 rfl rfl ?_
                        refine lM_8 (v := (A4688 8 0)) hk (vp_in_iff.mpr ⟨by decide, by decide⟩) (congrFun (hA5995 8 rfl) _) dX12_tellSeries_117 ?_
                        refine g_iconst (v := 1) hk dX12_tellSeries_118 (by decide) ?_
                        refine g_iadd hk dX12_tellSeries_119 ?_
                        refine g_topi (fun y6005 ey6005 => ?_)
                        have hy6005 : y6005.toInt = (A4688 8 0).toInt + 1 := i32_add ey6005 rfl rfl (by omega) (by omega)
                        refine sM_8 (j := 0) hk (vp_in_iff.mpr ⟨by decide, by decide⟩) (by decide) dX12_tellSeries_120 ?_
                        have f6006 := IvM_s8_0 hV5995
                        have f6007 := IvM_s8_1 hV5995
                        refine g_aload_n hk dX12_tellSeries_121 rfl ?_
                        refine g_dup hk dX12_tellSeries_122 rfl ?_
                        refine gM_i11 (v := (I4688 11)) hk hin12 (List.mem_cons_of_mem _ (List.mem_append_left _ (List.mem_of_getElem? (i := 0) rfl))) dX12_tellSeries_123 (hI5995 11 rfl) ?_
                        refine g_iconst (v := 1) hk dX12_tellSeries_126 (by decide) ?_
                        have b6008l := Int32.le_toInt (I4688 11)
                        have b6008h := Int32.toInt_lt (I4688 11)
                        refine g_iadd hk dX12_tellSeries_127 ?_
                        refine g_topi (fun y6009 ey6009 => ?_)
                        refine pM_i11 hk hin12 (List.mem_cons_of_mem _ (List.mem_append_left _ (List.mem_of_getElem? (i := 0) rfl))) dX12_tellSeries_128 ?_
                        refine g_goto (tgt := 5) hk dX12_tellSeries_131 (by decide) ?_
                        exact g_lv (List.forall_mem_cons.mpr ⟨List.mem_of_getElem? (i := 1) rfl, (fun _ h => absurd h List.not_mem_nil)⟩) (ih5724 (upd I5995 11 y6009) (up3 (up3 A5995 9 (y5993.toNatClampNeg) y5994) 8 0 y6005) L5995 (show Md [4, 6, 7, 8, 9, 11, 12, 13] (upd I 11 0) (upd I5995 11 y6009) from Md.tr hI4688 (show Md [4, 6, 7, 8, 9, 11, 12, 13] I4688 (upd I5995 11 y6009) from (Md.up (Md.tr Md.rf hI5995 rfl) rfl)) rfl) (show Md [8, 9] A (up3 (up3 A5995 9 (y5993.toNatClampNeg) y5994) 8 0 y6005) from Md.tr hA4688 (show Md [8, 9] A4688 (up3 (up3 A5995 9 (y5993.toNatClampNeg) y5994) 8 0 y6005) from (Md.up3 (Md.up3 (Md.tr Md.rf hA5995 rfl) rfl) rfl)) rfl) ⟨(IvM_f1 (I := I5995) (A := A5995) hV5995), (IvM_f2 (I := I5995) (A := A5995) hV5995), (IvM_f3 (I := I5995) (A := A5995) hV5995), (IvM_f4 (I := I5995) (A := A5995) hV5995), (IvM_f6 (I := I5995) (A := A5995) hV5995), (IvM_f8 (I := I5995) (A := A5995) hV5995), (IvM_f15 (I := I5995) (A := A5995) hV5995), (IvM_f16 (I := I5995) (A := A5995) hV5995), (IvM_f17 (I := I5995) (A := A5995) hV5995), (IvM_f18 (I := I5995) (A := A5995) hV5995), (IvM_f22 (I := I5995) (A := A5995) hV5995), (IvM_f23 (I := I5995) (A := A5995) hV5995), (IvM_f24 (I := I5995) (A := A5995) hV5995), (IvM_a11 (I := I5995) (A := A5995) hV5995), (IvM_a26 (I := I5995) (A := A5995) hV5995), (show 0 ≤ ((up3 (up3 A5995 9 (y5993.toNatClampNeg) y5994) 8 0 y6005) 8 0).toInt ∧ ((up3 (up3 A5995 9 (y5993.toNatClampNeg) y5994) 8 0 y6005) 8 0).toInt ≤ 160 from by rw [show (up3 (up3 A5995 9 (y5993.toNatClampNeg) y5994) 8 0 y6005) 8 0 = y6005 from rfl]; exact ⟨by omega, by omega⟩), (show 0 ≤ ((up3 (up3 A5995 9 (y5993.toNatClampNeg) y5994) 8 0 y6005) 8 1).toInt ∧ ((up3 (up3 A5995 9 (y5993.toNatClampNeg) y5994) 8 0 y6005) 8 1).toInt ≤ 160 from by rw [show (up3 (up3 A5995 9 (y5993.toNatClampNeg) y5994) 8 0 y6005) 8 1 = (A5995 8 1) from rfl]; exact ⟨by omega, by omega⟩), (IvM_s10_0 (I := I5995) (A := A5995) hV5995), (IvM_s10_1 (I := I5995) (A := A5995) hV5995), (IvM_s17_0 (I := I5995) (A := A5995) hV5995), (IvM_s17_164 (I := I5995) (A := A5995) hV5995), (IvM_lv (I := I5995) (A := A5995) hV5995), (IvM_sd (I := I5995) (A := A5995) hV5995), (IvM_nq (I := I5995) (A := A5995) hV5995), (IvM_hr (I := I5995) (A := A5995) hV5995), (IvM_hh (I := I5995) (A := A5995) hV5995), trivial⟩ (by first | (rw [show ((upd I5995 11 y6009) 4) = (I5995 4) from rfl] <;> omega) | omega) (by first | (rw [show ((upd I5995 11 y6009) 6) = (I5995 6) from rfl] <;> omega) | omega) (by first | (rw [show ((upd I5995 11 y6009) 8) = (I5995 8) from rfl] <;> omega) | omega) (by first | (rw [show ((upd I5995 11 y6009) 4) = (I5995 4) from rfl] <;> omega) | omega) (by omega))
                      exfalso; omega
                    · skip
                      have f6010 := IvM_f4 hIv
                      have f6011 := IvM_f6 hIv
                      have f6012 := IvM_f8 hIv
                      exact g_vret hk hR ⟨I5995, (up3 A5995 9 (y5993.toNatClampNeg) y5994), L5995, (show Md [4, 6, 7, 8, 9, 11, 12, 13] I I5995 from (Md.tr (Md.tr (Md.up Md.rf rfl) hI4688 rfl) hI5995 rfl)), (show Md [8, 9] A (up3 A5995 9 (y5993.toNatClampNeg) y5994) from (Md.up3 (Md.tr (Md.tr Md.rf hA4688 rfl) hA5995 rfl) rfl)), ⟨(IvM_f1 (I := I5995) (A := A5995) hV5995), (IvM_f2 (I := I5995) (A := A5995) hV5995), (IvM_f3 (I := I5995) (A := A5995) hV5995), (IvM_f4 (I := I5995) (A := A5995) hV5995), (IvM_f6 (I := I5995) (A := A5995) hV5995), (IvM_f8 (I := I5995) (A := A5995) hV5995), (IvM_f15 (I := I5995) (A := A5995) hV5995), (IvM_f16 (I := I5995) (A := A5995) hV5995), (IvM_f17 (I := I5995) (A := A5995) hV5995), (IvM_f18 (I := I5995) (A := A5995) hV5995), (IvM_f22 (I := I5995) (A := A5995) hV5995), (IvM_f23 (I := I5995) (A := A5995) hV5995), (IvM_f24 (I := I5995) (A := A5995) hV5995), (IvM_a11 (I := I5995) (A := A5995) hV5995), (IvM_a26 (I := I5995) (A := A5995) hV5995), (IvM_s8_0 (I := I5995) (A := A5995) hV5995), (IvM_s8_1 (I := I5995) (A := A5995) hV5995), (IvM_s10_0 (I := I5995) (A := A5995) hV5995), (IvM_s10_1 (I := I5995) (A := A5995) hV5995), (IvM_s17_0 (I := I5995) (A := A5995) hV5995), (IvM_s17_164 (I := I5995) (A := A5995) hV5995), (IvM_lv (I := I5995) (A := A5995) hV5995), (IvM_sd (I := I5995) (A := A5995) hV5995), (IvM_nq (I := I5995) (A := A5995) hV5995), (IvM_hr (I := I5995) (A := A5995) hV5995), (IvM_hh (I := I5995) (A := A5995) hV5995), trivial⟩, (by omega), (by omega), (by omega), rfl, rfl⟩ dX12_tellSeries_107
                  exfalso; omega
                exfalso; omega
              · skip
                rw [show (A4688 2 (I4688 4).toNatClampNeg) = (A 2 (I4688 4).toNatClampNeg) from (congrFun (hA4688 2 rfl) _)] at c5989
                show GW κ 2 0 0 (wM r g I4688 A4688 L4688) 55 [(0, .ref (r 0))] [.int 1]
                refine g_istore_n (lv' := [(1, .int 1), (0, .ref (r 0))]) hk dX12_tellSeries_55 (by decide) rfl ?_
                refine g_iload_n hk dX12_tellSeries_56 rfl ?_
                refine g_if_eq (tgt := 64) (a := 1) hk dX12_tellSeries_57 (by decide) rfl (fun z9 => absurd z9 (show ¬ ((1 : Int) = (0 : Int)) from by decide)) (fun _ => ?_)
                refine g_aload_n hk dX12_tellSeries_60 rfl ?_
                refine g_callV (n := 0) hk (j127_X12_goesOn l D zt r g I4688 A4688 L4688  hV4688) (SP.same _) (fun _ h => h) (gi_V (List.mem_cons_of_mem _ (List.mem_append_left _ (List.mem_of_getElem? (i := 18) rfl))) (List.mem_cons_of_mem _ (List.mem_append_left _ (List.mem_of_getElem? (i := 19) rfl))) (List.mem_cons_of_mem _ (List.mem_append_left _ (List.mem_of_getElem? (i := 20) rfl))) (List.mem_cons_of_mem _ (List.mem_append_left _ (List.mem_of_getElem? (i := 4) rfl))) (gi_sub (fun w h => (List.mem_cons_of_mem _ (List.mem_append_right _ (List.mem_append_right _ (List.mem_append_right _ (List.mem_append_right _ (List.mem_append_right _ (List.mem_append_right _ (List.mem_append_left _ h))))))))) zg_j127_X12_goesOn)) rfl rfl rfl (by decide +kernel) ⟨Nat.le_of_ble_eq_true rfl, Nat.le_of_ble_eq_true rfl⟩ 0 rfl rfl rfl rfl (Nat.le_of_ble_eq_true rfl) ⟨Nat.le_of_ble_eq_true rfl, Nat.le_of_ble_eq_true rfl⟩ dX12_tellSeries_61 (fun v ty' w' hp hk' => ?_)
                obtain ⟨I6014, A6014, L6014, hI6014, hA6014, hV6014, r6015, r6016, r6017, r6018, rfl, rfl⟩ := hp
                have f6019 := IvM_f4 hV6014
                have f6020 := IvM_f6 hV6014
                rw [show (I6014 8) = (I4688 8) from (hI6014 8 rfl)] at r6017
                show GW κ 2 0 0 (wM r g I6014 A6014 L6014) 64 [(1, .int 1), (0, .ref (r 0))] []
                refine g_aload_n hk dX12_tellSeries_64 rfl ?_
                refine gM_r0_27 hk hin12 (List.mem_cons_of_mem _ (List.mem_append_left _ (List.mem_of_getElem? (i := 14) rfl))) dX12_tellSeries_65 ?_
                refine g_sipush (v := 160) hk dX12_tellSeries_68 (by decide) ?_
                refine g_aload_n hk dX12_tellSeries_71 rfl ?_
                refine gM_i16 (v := (I 16)) hk hin12 (List.mem_cons_of_mem _ (List.mem_append_left _ (List.mem_of_getElem? (i := 13) rfl))) dX12_tellSeries_72 ((hI6014 16 rfl).trans (hI4688 16 rfl)) ?_
                by_cases c6021 : (I 16).toInt = 0
                · have ec6021 : (I 16) = 0 := Int32.toInt_inj.mp c6021
                  rw [ec6021]
                  show GW κ 2 0 0 (wM r g I6014 A6014 L6014) 75 [(1, .int 1), (0, .ref (r 0))] [.int 0, .int 160, .ref (r 10)]
                  refine g_imul hk dX12_tellSeries_75 ?_
                  refine g_norm (v := 0) (by decide) ?_
                  refine g_aload_n hk dX12_tellSeries_76 rfl ?_
                  refine gM_r0_26 hk hin12 (List.mem_cons_of_mem _ (List.mem_append_left _ (List.mem_of_getElem? (i := 12) rfl))) dX12_tellSeries_77 ?_
                  refine g_aload_n hk dX12_tellSeries_80 rfl ?_
                  refine gM_i16 (v := (I 16)) hk hin12 (List.mem_cons_of_mem _ (List.mem_append_left _ (List.mem_of_getElem? (i := 13) rfl))) dX12_tellSeries_81 ((hI6014 16 rfl).trans (hI4688 16 rfl)) ?_
                  by_cases c6022 : (I 16).toInt = 0
                  · have ec6022 : (I 16) = 0 := Int32.toInt_inj.mp c6022
                    rw [ec6022]
                    show GW κ 2 0 0 (wM r g I6014 A6014 L6014) 84 [(1, .int 1), (0, .ref (r 0))] [.int 0, .ref (r 9), .int 0, .ref (r 10)]
                    refine lM_8 (v := (A4688 8 0)) hk (vp_in_iff.mpr ⟨by decide, by decide⟩) (congrFun (hA6014 8 rfl) _) dX12_tellSeries_84 ?_
                    refine g_iadd hk dX12_tellSeries_85 ?_
                    refine g_topi (fun y6023 ey6023 => ?_)
                    have hy6023 : y6023.toInt = 0 + (A4688 8 0).toInt := i32_add ey6023 rfl rfl (by omega) (by omega)
                    refine g_iload_n hk dX12_tellSeries_86 rfl ?_
                    refine g_if_eq (tgt := 95) (a := 1) hk dX12_tellSeries_87 (by decide) rfl (fun z9 => absurd z9 (show ¬ ((1 : Int) = (0 : Int)) from by decide)) (fun _ => ?_)
                    refine g_ldc (v := 100000) hk (List.mem_cons_of_mem _ (List.mem_append_left _ (List.mem_of_getElem? (i := 21) rfl))) dX12_tellSeries_90 ?_
                    refine g_goto (tgt := 99) hk dX12_tellSeries_92 (by decide) ?_
                    have k6024 : (100000 : Int32).toInt = 100000 := rfl
                    refine sM_9 (j := y6023.toNatClampNeg) hk (vp_in_iff.mpr ⟨by omega, by omega⟩) rfl dX12_tellSeries_99 ?_
                    refine g_aload_n hk dX12_tellSeries_100 rfl ?_
                    refine gM_i6 (v := (I6014 6)) hk hin12 (List.mem_cons_of_mem _ (List.mem_append_left _ (List.mem_of_getElem? (i := 11) rfl))) dX12_tellSeries_101 rfl ?_
                    refine g_if_le (tgt := 108) (a := (I6014 6).toInt) hk dX12_tellSeries_104 (by decide) rfl (fun c6025 => ?_) (fun c6025 => ?_)
                    · skip
                      refine g_aload_n hk dX12_tellSeries_108 rfl ?_
                      refine gM_r0_26 hk hin12 (List.mem_cons_of_mem _ (List.mem_append_left _ (List.mem_of_getElem? (i := 12) rfl))) dX12_tellSeries_109 ?_
                      refine g_aload_n hk dX12_tellSeries_112 rfl ?_
                      refine gM_i16 (v := (I 16)) hk hin12 (List.mem_cons_of_mem _ (List.mem_append_left _ (List.mem_of_getElem? (i := 13) rfl))) dX12_tellSeries_113 ((hI6014 16 rfl).trans (hI4688 16 rfl)) ?_
                      by_cases c6026 : (I 16).toInt = 0
                      · have ec6026 : (I 16) = 0 := Int32.toInt_inj.mp c6026
                        rw [ec6026]
                        show GW κ 2 0 0 (wM r g I6014 (up3 A6014 9 (y6023.toNatClampNeg) 100000) L6014) 116 [(1, .int 1), (0, .ref (r 0))] [.int 0, .ref (r 9)]
                        refine g_dup2 hk dX12_tellSeries_116 rfl rfl ?_
                        refine lM_8 (v := (A4688 8 0)) hk (vp_in_iff.mpr ⟨by decide, by decide⟩) (congrFun (hA6014 8 rfl) _) dX12_tellSeries_117 ?_
                        refine g_iconst (v := 1) hk dX12_tellSeries_118 (by decide) ?_
                        refine g_iadd hk dX12_tellSeries_119 ?_
                        refine g_topi (fun y6027 ey6027 => ?_)
                        have hy6027 : y6027.toInt = (A4688 8 0).toInt + 1 := i32_add ey6027 rfl rfl (by omega) (by omega)
                        refine sM_8 (j := 0) hk (vp_in_iff.mpr ⟨by decide, by decide⟩) (by decide) dX12_tellSeries_120 ?_
                        have f6028 := IvM_s8_0 hV6014
                        have f6029 := IvM_s8_1 hV6014
                        refine g_aload_n hk dX12_tellSeries_121 rfl ?_
                        refine g_dup hk dX12_tellSeries_122 rfl ?_
                        refine gM_i11 (v := (I4688 11)) hk hin12 (List.mem_cons_of_mem _ (List.mem_append_left _ (List.mem_of_getElem? (i := 0) rfl))) dX12_tellSeries_123 (hI6014 11 rfl) ?_
                        refine g_iconst (v := 1) hk dX12_tellSeries_126 (by decide) ?_
                        have b6030l := Int32.le_toInt (I4688 11)
                        have b6030h := Int32.toInt_lt (I4688 11)
                        refine g_iadd hk dX12_tellSeries_127 ?_
                        refine g_topi (fun y6031 ey6031 => ?_)
                        refine pM_i11 hk hin12 (List.mem_cons_of_mem _ (List.mem_append_left _ (List.mem_of_getElem? (i := 0) rfl))) dX12_tellSeries_128 ?_
                        refine g_goto (tgt := 5) hk dX12_tellSeries_131 (by decide) ?_
                        exact g_lv (List.forall_mem_cons.mpr ⟨List.mem_of_getElem? (i := 1) rfl, (fun _ h => absurd h List.not_mem_nil)⟩) (ih5724 (upd I6014 11 y6031) (up3 (up3 A6014 9 (y6023.toNatClampNeg) 100000) 8 0 y6027) L6014 (show Md [4, 6, 7, 8, 9, 11, 12, 13] (upd I 11 0) (upd I6014 11 y6031) from Md.tr hI4688 (show Md [4, 6, 7, 8, 9, 11, 12, 13] I4688 (upd I6014 11 y6031) from (Md.up (Md.tr Md.rf hI6014 rfl) rfl)) rfl) (show Md [8, 9] A (up3 (up3 A6014 9 (y6023.toNatClampNeg) 100000) 8 0 y6027) from Md.tr hA4688 (show Md [8, 9] A4688 (up3 (up3 A6014 9 (y6023.toNatClampNeg) 100000) 8 0 y6027) from (Md.up3 (Md.up3 (Md.tr Md.rf hA6014 rfl) rfl) rfl)) rfl) ⟨(IvM_f1 (I := I6014) (A := A6014) hV6014), (IvM_f2 (I := I6014) (A := A6014) hV6014), (IvM_f3 (I := I6014) (A := A6014) hV6014), (IvM_f4 (I := I6014) (A := A6014) hV6014), (IvM_f6 (I := I6014) (A := A6014) hV6014), (IvM_f8 (I := I6014) (A := A6014) hV6014), (IvM_f15 (I := I6014) (A := A6014) hV6014), (IvM_f16 (I := I6014) (A := A6014) hV6014), (IvM_f17 (I := I6014) (A := A6014) hV6014), (IvM_f18 (I := I6014) (A := A6014) hV6014), (IvM_f22 (I := I6014) (A := A6014) hV6014), (IvM_f23 (I := I6014) (A := A6014) hV6014), (IvM_f24 (I := I6014) (A := A6014) hV6014), (IvM_a11 (I := I6014) (A := A6014) hV6014), (IvM_a26 (I := I6014) (A := A6014) hV6014), (show 0 ≤ ((up3 (up3 A6014 9 (y6023.toNatClampNeg) 100000) 8 0 y6027) 8 0).toInt ∧ ((up3 (up3 A6014 9 (y6023.toNatClampNeg) 100000) 8 0 y6027) 8 0).toInt ≤ 160 from by rw [show (up3 (up3 A6014 9 (y6023.toNatClampNeg) 100000) 8 0 y6027) 8 0 = y6027 from rfl]; exact ⟨by omega, by omega⟩), (show 0 ≤ ((up3 (up3 A6014 9 (y6023.toNatClampNeg) 100000) 8 0 y6027) 8 1).toInt ∧ ((up3 (up3 A6014 9 (y6023.toNatClampNeg) 100000) 8 0 y6027) 8 1).toInt ≤ 160 from by rw [show (up3 (up3 A6014 9 (y6023.toNatClampNeg) 100000) 8 0 y6027) 8 1 = (A6014 8 1) from rfl]; exact ⟨by omega, by omega⟩), (IvM_s10_0 (I := I6014) (A := A6014) hV6014), (IvM_s10_1 (I := I6014) (A := A6014) hV6014), (IvM_s17_0 (I := I6014) (A := A6014) hV6014), (IvM_s17_164 (I := I6014) (A := A6014) hV6014), (IvM_lv (I := I6014) (A := A6014) hV6014), (IvM_sd (I := I6014) (A := A6014) hV6014), (IvM_nq (I := I6014) (A := A6014) hV6014), (IvM_hr (I := I6014) (A := A6014) hV6014), (IvM_hh (I := I6014) (A := A6014) hV6014), trivial⟩ (by first | (rw [show ((upd I6014 11 y6031) 4) = (I6014 4) from rfl] <;> omega) | omega) (by first | (rw [show ((upd I6014 11 y6031) 6) = (I6014 6) from rfl] <;> omega) | omega) (by first | (rw [show ((upd I6014 11 y6031) 8) = (I4688 8) from (hI6014 8 rfl)] <;> omega) | omega) (by first | (rw [show ((upd I6014 11 y6031) 4) = (I6014 4) from rfl] <;> omega) | omega) (by omega))
                      exfalso; omega
                    · skip
                      have f6032 := IvM_f4 hIv
                      have f6033 := IvM_f6 hIv
                      have f6034 := IvM_f8 hIv
                      exact g_vret hk hR ⟨I6014, (up3 A6014 9 (y6023.toNatClampNeg) 100000), L6014, (show Md [4, 6, 7, 8, 9, 11, 12, 13] I I6014 from (Md.tr (Md.tr (Md.up Md.rf rfl) hI4688 rfl) hI6014 rfl)), (show Md [8, 9] A (up3 A6014 9 (y6023.toNatClampNeg) 100000) from (Md.up3 (Md.tr (Md.tr Md.rf hA4688 rfl) hA6014 rfl) rfl)), ⟨(IvM_f1 (I := I6014) (A := A6014) hV6014), (IvM_f2 (I := I6014) (A := A6014) hV6014), (IvM_f3 (I := I6014) (A := A6014) hV6014), (IvM_f4 (I := I6014) (A := A6014) hV6014), (IvM_f6 (I := I6014) (A := A6014) hV6014), (IvM_f8 (I := I6014) (A := A6014) hV6014), (IvM_f15 (I := I6014) (A := A6014) hV6014), (IvM_f16 (I := I6014) (A := A6014) hV6014), (IvM_f17 (I := I6014) (A := A6014) hV6014), (IvM_f18 (I := I6014) (A := A6014) hV6014), (IvM_f22 (I := I6014) (A := A6014) hV6014), (IvM_f23 (I := I6014) (A := A6014) hV6014), (IvM_f24 (I := I6014) (A := A6014) hV6014), (IvM_a11 (I := I6014) (A := A6014) hV6014), (IvM_a26 (I := I6014) (A := A6014) hV6014), (IvM_s8_0 (I := I6014) (A := A6014) hV6014), (IvM_s8_1 (I := I6014) (A := A6014) hV6014), (IvM_s10_0 (I := I6014) (A := A6014) hV6014), (IvM_s10_1 (I := I6014) (A := A6014) hV6014), (IvM_s17_0 (I := I6014) (A := A6014) hV6014), (IvM_s17_164 (I := I6014) (A := A6014) hV6014), (IvM_lv (I := I6014) (A := A6014) hV6014), (IvM_sd (I := I6014) (A := A6014) hV6014), (IvM_nq (I := I6014) (A := A6014) hV6014), (IvM_hr (I := I6014) (A := A6014) hV6014), (IvM_hh (I := I6014) (A := A6014) hV6014), trivial⟩, (by omega), (by omega), (by rw [show (I6014 8) = (I4688 8) from (hI6014 8 rfl)] <;> omega), rfl, rfl⟩ dX12_tellSeries_107
                  exfalso; omega
                exfalso; omega
            · skip
              have f6035 := IvM_f4 hIv
              have f6036 := IvM_f6 hIv
              have f6037 := IvM_f8 hIv
              exact g_vret hk hR ⟨I4688, A4688, L4688, (show Md [4, 6, 7, 8, 9, 11, 12, 13] I I4688 from (Md.tr (Md.up Md.rf rfl) hI4688 rfl)), (show Md [8, 9] A A4688 from (Md.tr Md.rf hA4688 rfl)), hV4688, (by omega), (by omega), (by omega), rfl, rfl⟩ dX12_tellSeries_48
          · skip
            refine g_aload_n hk dX12_tellSeries_36 rfl ?_
            refine g_iconst (v := 2) hk dX12_tellSeries_37 (by decide) ?_
            have k6038 : (2 : Int32).toInt = 2 := rfl
            refine g_callV (n := 1) hk (j128_X12_fail l D zt r g I4688 A4688 L4688 2 hV4688 (by decide) (by decide)) (SP.same _) (fun _ h => h) (gi_V (List.mem_cons_of_mem _ (List.mem_append_left _ (List.mem_of_getElem? (i := 22) rfl))) (List.mem_cons_of_mem _ (List.mem_append_left _ (List.mem_of_getElem? (i := 23) rfl))) (List.mem_cons_of_mem _ (List.mem_append_left _ (List.mem_of_getElem? (i := 24) rfl))) (List.mem_cons_of_mem _ (List.mem_append_left _ (List.mem_of_getElem? (i := 4) rfl))) (gi_sub (fun w h => (List.mem_cons_of_mem _ (List.mem_append_right _ (List.mem_append_right _ (List.mem_append_right _ (List.mem_append_right _ (List.mem_append_right _ (List.mem_append_right _ (List.mem_append_right _ (List.mem_append_left _ h)))))))))) zg_j128_X12_fail)) rfl rfl rfl (by decide +kernel) ⟨Nat.le_of_ble_eq_true rfl, Nat.le_of_ble_eq_true rfl⟩ 0 rfl rfl rfl rfl (Nat.le_of_ble_eq_true rfl) ⟨Nat.le_of_ble_eq_true rfl, Nat.le_of_ble_eq_true rfl⟩ dX12_tellSeries_38 (fun v ty' w' hp hk' => ?_)
            obtain ⟨I6040, A6040, L6040, hI6040, hA6040, hV6040, r6041, r6042, r6043, rfl, rfl⟩ := hp
            have f6044 := IvM_f6 hV6040
            rw [show (I6040 8) = (I4688 8) from (hI6040 8 rfl)] at r6042
            show GW κ 2 0 0 (wM r g I6040 A6040 L6040) 41 [(0, .ref (r 0))] []
            refine g_aload_n hk dX12_tellSeries_41 rfl ?_
            refine gM_i6 (v := (I6040 6)) hk hin12 (List.mem_cons_of_mem _ (List.mem_append_left _ (List.mem_of_getElem? (i := 11) rfl))) dX12_tellSeries_42 rfl ?_
            refine g_if_le (tgt := 49) (a := (I6040 6).toInt) hk dX12_tellSeries_45 (by decide) rfl (fun c6045 => ?_) (fun c6045 => ?_)
            · skip
              refine g_aload_n hk dX12_tellSeries_49 rfl ?_
              refine g_bipush (v := 26) hk dX12_tellSeries_50 (by decide) ?_
              have k6046 : (26 : Int32).toInt = 26 := rfl
              refine g_callV (n := 1) hk (j125_X12_is l D zt r g I6040 A6040 L6040 26 hV6040) (SP.same _) (fun _ h => h) (gi_V (List.mem_cons_of_mem _ (List.mem_append_left _ (List.mem_of_getElem? (i := 5) rfl))) (List.mem_cons_of_mem _ (List.mem_append_left _ (List.mem_of_getElem? (i := 6) rfl))) (List.mem_cons_of_mem _ (List.mem_append_left _ (List.mem_of_getElem? (i := 7) rfl))) (List.mem_cons_of_mem _ (List.mem_append_left _ (List.mem_of_getElem? (i := 4) rfl))) (gi_sub (fun w h => (List.mem_cons_of_mem _ (List.mem_append_right _ (List.mem_append_right _ (List.mem_append_right _ (List.mem_append_left _ h)))))) zg_j125_X12_is)) rfl rfl rfl (by decide +kernel) ⟨Nat.le_of_ble_eq_true rfl, Nat.le_of_ble_eq_true rfl⟩ 0 rfl rfl rfl rfl (Nat.le_of_ble_eq_true rfl) ⟨Nat.le_of_ble_eq_true rfl, Nat.le_of_ble_eq_true rfl⟩ dX12_tellSeries_52 (fun v ty' w' hp hk' => ?_)
              rcases hp with ⟨c6047, rfl, rfl⟩ | ⟨c6049, rfl, rfl⟩
              · skip
                rw [show (A6040 2 (I6040 4).toNatClampNeg) = (A 2 (I4688 4).toNatClampNeg) from (by rw [show I6040 4 = (I4688 4) from (hI6040 4 rfl)]; exact ((congrFun (hA6040 2 rfl) _).trans (congrFun (hA4688 2 rfl) _)))] at c6047
                show GW κ 2 0 0 (wM r g I6040 A6040 L6040) 55 [(0, .ref (r 0))] [.int 0]
                refine g_istore_n (lv' := [(1, .int 0), (0, .ref (r 0))]) hk dX12_tellSeries_55 (by decide) rfl ?_
                refine g_iload_n hk dX12_tellSeries_56 rfl ?_
                refine g_if_eq (tgt := 64) (a := 0) hk dX12_tellSeries_57 (by decide) rfl (fun _ => ?_) (fun z9 => absurd (show (0 : Int) = (0 : Int) from by decide) z9)
                refine g_aload_n hk dX12_tellSeries_64 rfl ?_
                refine gM_r0_27 hk hin12 (List.mem_cons_of_mem _ (List.mem_append_left _ (List.mem_of_getElem? (i := 14) rfl))) dX12_tellSeries_65 ?_
                refine g_sipush (v := 160) hk dX12_tellSeries_68 (by decide) ?_
                refine g_aload_n hk dX12_tellSeries_71 rfl ?_
                refine gM_i16 (v := (I 16)) hk hin12 (List.mem_cons_of_mem _ (List.mem_append_left _ (List.mem_of_getElem? (i := 13) rfl))) dX12_tellSeries_72 ((hI6040 16 rfl).trans (hI4688 16 rfl)) ?_
                by_cases c6051 : (I 16).toInt = 0
                · have ec6051 : (I 16) = 0 := Int32.toInt_inj.mp c6051
                  rw [ec6051]
                  show GW κ 2 0 0 (wM r g I6040 A6040 L6040) 75 [(1, .int 0), (0, .ref (r 0))] [.int 0, .int 160, .ref (r 10)]
                  refine g_imul hk dX12_tellSeries_75 ?_
                  refine g_norm (v := 0) (by decide) ?_
                  refine g_aload_n hk dX12_tellSeries_76 rfl ?_
                  refine gM_r0_26 hk hin12 (List.mem_cons_of_mem _ (List.mem_append_left _ (List.mem_of_getElem? (i := 12) rfl))) dX12_tellSeries_77 ?_
                  refine g_aload_n hk dX12_tellSeries_80 rfl ?_
                  refine gM_i16 (v := (I 16)) hk hin12 (List.mem_cons_of_mem _ (List.mem_append_left _ (List.mem_of_getElem? (i := 13) rfl))) dX12_tellSeries_81 ((hI6040 16 rfl).trans (hI4688 16 rfl)) ?_
                  by_cases c6052 : (I 16).toInt = 0
                  · have ec6052 : (I 16) = 0 := Int32.toInt_inj.mp c6052
                    rw [ec6052]
                    show GW κ 2 0 0 (wM r g I6040 A6040 L6040) 84 [(1, .int 0), (0, .ref (r 0))] [.int 0, .ref (r 9), .int 0, .ref (r 10)]
                    refine lM_8 (v := (A4688 8 0)) hk (vp_in_iff.mpr ⟨by decide, by decide⟩) (congrFun (hA6040 8 rfl) _) dX12_tellSeries_84 ?_
                    refine g_iadd hk dX12_tellSeries_85 ?_
                    refine g_topi (fun y6053 ey6053 => ?_)
                    have hy6053 : y6053.toInt = 0 + (A4688 8 0).toInt := i32_add ey6053 rfl rfl (by omega) (by omega)
                    refine g_iload_n hk dX12_tellSeries_86 rfl ?_
                    refine g_if_eq (tgt := 95) (a := 0) hk dX12_tellSeries_87 (by decide) rfl (fun _ => ?_) (fun z9 => absurd (show (0 : Int) = (0 : Int) from by decide) z9)
                    refine g_aload_n hk dX12_tellSeries_95 rfl ?_
                    refine g_callV (n := 0) hk (j132_X12_readingTold l D zt r g I6040 A6040 L6040  hV6040) (SP.same _) (fun _ h => h) (gi_V (List.mem_cons_of_mem _ (List.mem_append_left _ (List.mem_of_getElem? (i := 15) rfl))) (List.mem_cons_of_mem _ (List.mem_append_left _ (List.mem_of_getElem? (i := 16) rfl))) (List.mem_cons_of_mem _ (List.mem_append_left _ (List.mem_of_getElem? (i := 17) rfl))) (List.mem_cons_of_mem _ (List.mem_append_left _ (List.mem_of_getElem? (i := 4) rfl))) (gi_sub (fun w h => (List.mem_cons_of_mem _ (List.mem_append_right _ (List.mem_append_right _ (List.mem_append_right _ (List.mem_append_right _ (List.mem_append_right _ (List.mem_append_left _ h)))))))) zg_j132_X12_readingTold)) rfl rfl rfl (by decide +kernel) ⟨Nat.le_of_ble_eq_true rfl, Nat.le_of_ble_eq_true rfl⟩ 0 rfl rfl rfl rfl (Nat.le_of_ble_eq_true rfl) ⟨Nat.le_of_ble_eq_true rfl, Nat.le_of_ble_eq_true rfl⟩ dX12_tellSeries_96 (fun v ty' w' hp hk' => ?_)
                    obtain ⟨I6055, A6055, L6055, hI6055, hA6055, hV6055, y6054, r6056, r6057, r6058, r6059, rfl, rfl⟩ := hp
                    have f6060 := IvM_f4 hV6055
                    rw [show (I6040 4) = (I4688 4) from (hI6040 4 rfl)] at r6056
                    have f6061 := IvM_f6 hV6055
                    have f6062 := IvM_f8 hV6055
                    rw [show (I6040 8) = (I4688 8) from (hI6040 8 rfl)] at r6058
                    rw [show (I6040 4) = (I4688 4) from (hI6040 4 rfl)] at r6059
                    show GW κ 2 0 0 (wM r g I6055 A6055 L6055) 99 [(1, .int 0), (0, .ref (r 0))] [.int y6054, .int y6053, .ref (r 10)]
                    refine sM_9 (j := y6053.toNatClampNeg) hk (vp_in_iff.mpr ⟨by omega, by omega⟩) rfl dX12_tellSeries_99 ?_
                    refine g_aload_n hk dX12_tellSeries_100 rfl ?_
                    refine gM_i6 (v := (I6055 6)) hk hin12 (List.mem_cons_of_mem _ (List.mem_append_left _ (List.mem_of_getElem? (i := 11) rfl))) dX12_tellSeries_101 rfl ?_
                    refine g_if_le (tgt := 108) (a := (I6055 6).toInt) hk dX12_tellSeries_104 (by decide) rfl (fun c6063 => ?_) (fun c6063 => ?_)
                    · skip
                      refine g_aload_n hk dX12_tellSeries_108 rfl ?_
                      refine gM_r0_26 hk hin12 (List.mem_cons_of_mem _ (List.mem_append_left _ (List.mem_of_getElem? (i := 12) rfl))) dX12_tellSeries_109 ?_
                      refine g_aload_n hk dX12_tellSeries_112 rfl ?_
                      refine gM_i16 (v := (I 16)) hk hin12 (List.mem_cons_of_mem _ (List.mem_append_left _ (List.mem_of_getElem? (i := 13) rfl))) dX12_tellSeries_113 ((hI6055 16 rfl).trans ((hI6040 16 rfl).trans (hI4688 16 rfl))) ?_
                      by_cases c6064 : (I 16).toInt = 0
                      · have ec6064 : (I 16) = 0 := Int32.toInt_inj.mp c6064
                        rw [ec6064]
                        show GW κ 2 0 0 (wM r g I6055 (up3 A6055 9 (y6053.toNatClampNeg) y6054) L6055) 116 [(1, .int 0), (0, .ref (r 0))] [.int 0, .ref (r 9)]
                        refine g_dup2 hk dX12_tellSeries_116 rfl rfl ?_
                        refine lM_8 (v := (A4688 8 0)) hk (vp_in_iff.mpr ⟨by decide, by decide⟩) ((congrFun (hA6055 8 rfl) _).trans (congrFun (hA6040 8 rfl) _)) dX12_tellSeries_117 ?_
                        refine g_iconst (v := 1) hk dX12_tellSeries_118 (by decide) ?_
                        refine g_iadd hk dX12_tellSeries_119 ?_
                        refine g_topi (fun y6065 ey6065 => ?_)
                        have hy6065 : y6065.toInt = (A4688 8 0).toInt + 1 := i32_add ey6065 rfl rfl (by omega) (by omega)
                        refine sM_8 (j := 0) hk (vp_in_iff.mpr ⟨by decide, by decide⟩) (by decide) dX12_tellSeries_120 ?_
                        have f6066 := IvM_s8_0 hV6055
                        have f6067 := IvM_s8_1 hV6055
                        refine g_aload_n hk dX12_tellSeries_121 rfl ?_
                        refine g_dup hk dX12_tellSeries_122 rfl ?_
                        refine gM_i11 (v := (I4688 11)) hk hin12 (List.mem_cons_of_mem _ (List.mem_append_left _ (List.mem_of_getElem? (i := 0) rfl))) dX12_tellSeries_123 ((hI6055 11 rfl).trans (hI6040 11 rfl)) ?_
                        refine g_iconst (v := 1) hk dX12_tellSeries_126 (by decide) ?_
                        have b6068l := Int32.le_toInt (I4688 11)
                        have b6068h := Int32.toInt_lt (I4688 11)
                        refine g_iadd hk dX12_tellSeries_127 ?_
                        refine g_topi (fun y6069 ey6069 => ?_)
                        refine pM_i11 hk hin12 (List.mem_cons_of_mem _ (List.mem_append_left _ (List.mem_of_getElem? (i := 0) rfl))) dX12_tellSeries_128 ?_
                        refine g_goto (tgt := 5) hk dX12_tellSeries_131 (by decide) ?_
                        exact g_lv (List.forall_mem_cons.mpr ⟨List.mem_of_getElem? (i := 1) rfl, (fun _ h => absurd h List.not_mem_nil)⟩) (ih5724 (upd I6055 11 y6069) (up3 (up3 A6055 9 (y6053.toNatClampNeg) y6054) 8 0 y6065) L6055 (show Md [4, 6, 7, 8, 9, 11, 12, 13] (upd I 11 0) (upd I6055 11 y6069) from Md.tr hI4688 (show Md [4, 6, 7, 8, 9, 11, 12, 13] I4688 (upd I6055 11 y6069) from (Md.up (Md.tr (Md.tr Md.rf hI6040 rfl) hI6055 rfl) rfl)) rfl) (show Md [8, 9] A (up3 (up3 A6055 9 (y6053.toNatClampNeg) y6054) 8 0 y6065) from Md.tr hA4688 (show Md [8, 9] A4688 (up3 (up3 A6055 9 (y6053.toNatClampNeg) y6054) 8 0 y6065) from (Md.up3 (Md.up3 (Md.tr (Md.tr Md.rf hA6040 rfl) hA6055 rfl) rfl) rfl)) rfl) ⟨(IvM_f1 (I := I6055) (A := A6055) hV6055), (IvM_f2 (I := I6055) (A := A6055) hV6055), (IvM_f3 (I := I6055) (A := A6055) hV6055), (IvM_f4 (I := I6055) (A := A6055) hV6055), (IvM_f6 (I := I6055) (A := A6055) hV6055), (IvM_f8 (I := I6055) (A := A6055) hV6055), (IvM_f15 (I := I6055) (A := A6055) hV6055), (IvM_f16 (I := I6055) (A := A6055) hV6055), (IvM_f17 (I := I6055) (A := A6055) hV6055), (IvM_f18 (I := I6055) (A := A6055) hV6055), (IvM_f22 (I := I6055) (A := A6055) hV6055), (IvM_f23 (I := I6055) (A := A6055) hV6055), (IvM_f24 (I := I6055) (A := A6055) hV6055), (IvM_a11 (I := I6055) (A := A6055) hV6055), (IvM_a26 (I := I6055) (A := A6055) hV6055), (show 0 ≤ ((up3 (up3 A6055 9 (y6053.toNatClampNeg) y6054) 8 0 y6065) 8 0).toInt ∧ ((up3 (up3 A6055 9 (y6053.toNatClampNeg) y6054) 8 0 y6065) 8 0).toInt ≤ 160 from by rw [show (up3 (up3 A6055 9 (y6053.toNatClampNeg) y6054) 8 0 y6065) 8 0 = y6065 from rfl]; exact ⟨by omega, by omega⟩), (show 0 ≤ ((up3 (up3 A6055 9 (y6053.toNatClampNeg) y6054) 8 0 y6065) 8 1).toInt ∧ ((up3 (up3 A6055 9 (y6053.toNatClampNeg) y6054) 8 0 y6065) 8 1).toInt ≤ 160 from by rw [show (up3 (up3 A6055 9 (y6053.toNatClampNeg) y6054) 8 0 y6065) 8 1 = (A6055 8 1) from rfl]; exact ⟨by omega, by omega⟩), (IvM_s10_0 (I := I6055) (A := A6055) hV6055), (IvM_s10_1 (I := I6055) (A := A6055) hV6055), (IvM_s17_0 (I := I6055) (A := A6055) hV6055), (IvM_s17_164 (I := I6055) (A := A6055) hV6055), (IvM_lv (I := I6055) (A := A6055) hV6055), (IvM_sd (I := I6055) (A := A6055) hV6055), (IvM_nq (I := I6055) (A := A6055) hV6055), (IvM_hr (I := I6055) (A := A6055) hV6055), (IvM_hh (I := I6055) (A := A6055) hV6055), trivial⟩ (by first | (rw [show ((upd I6055 11 y6069) 4) = (I6055 4) from rfl] <;> omega) | omega) (by first | (rw [show ((upd I6055 11 y6069) 6) = (I6055 6) from rfl] <;> omega) | omega) (by first | (rw [show ((upd I6055 11 y6069) 8) = (I6055 8) from rfl] <;> omega) | omega) (by first | (rw [show ((upd I6055 11 y6069) 4) = (I6055 4) from rfl] <;> omega) | omega) (by omega))
                      exfalso; omega
                    · skip
                      have f6070 := IvM_f4 hIv
                      have f6071 := IvM_f6 hIv
                      have f6072 := IvM_f8 hIv
                      exact g_vret hk hR ⟨I6055, (up3 A6055 9 (y6053.toNatClampNeg) y6054), L6055, (show Md [4, 6, 7, 8, 9, 11, 12, 13] I I6055 from (Md.tr (Md.tr (Md.tr (Md.up Md.rf rfl) hI4688 rfl) hI6040 rfl) hI6055 rfl)), (show Md [8, 9] A (up3 A6055 9 (y6053.toNatClampNeg) y6054) from (Md.up3 (Md.tr (Md.tr (Md.tr Md.rf hA4688 rfl) hA6040 rfl) hA6055 rfl) rfl)), ⟨(IvM_f1 (I := I6055) (A := A6055) hV6055), (IvM_f2 (I := I6055) (A := A6055) hV6055), (IvM_f3 (I := I6055) (A := A6055) hV6055), (IvM_f4 (I := I6055) (A := A6055) hV6055), (IvM_f6 (I := I6055) (A := A6055) hV6055), (IvM_f8 (I := I6055) (A := A6055) hV6055), (IvM_f15 (I := I6055) (A := A6055) hV6055), (IvM_f16 (I := I6055) (A := A6055) hV6055), (IvM_f17 (I := I6055) (A := A6055) hV6055), (IvM_f18 (I := I6055) (A := A6055) hV6055), (IvM_f22 (I := I6055) (A := A6055) hV6055), (IvM_f23 (I := I6055) (A := A6055) hV6055), (IvM_f24 (I := I6055) (A := A6055) hV6055), (IvM_a11 (I := I6055) (A := A6055) hV6055), (IvM_a26 (I := I6055) (A := A6055) hV6055), (IvM_s8_0 (I := I6055) (A := A6055) hV6055), (IvM_s8_1 (I := I6055) (A := A6055) hV6055), (IvM_s10_0 (I := I6055) (A := A6055) hV6055), (IvM_s10_1 (I := I6055) (A := A6055) hV6055), (IvM_s17_0 (I := I6055) (A := A6055) hV6055), (IvM_s17_164 (I := I6055) (A := A6055) hV6055), (IvM_lv (I := I6055) (A := A6055) hV6055), (IvM_sd (I := I6055) (A := A6055) hV6055), (IvM_nq (I := I6055) (A := A6055) hV6055), (IvM_hr (I := I6055) (A := A6055) hV6055), (IvM_hh (I := I6055) (A := A6055) hV6055), trivial⟩, (by omega), (by omega), (by omega), rfl, rfl⟩ dX12_tellSeries_107
                  exfalso; omega
                exfalso; omega
              · skip
                rw [show (A6040 2 (I6040 4).toNatClampNeg) = (A 2 (I4688 4).toNatClampNeg) from (by rw [show I6040 4 = (I4688 4) from (hI6040 4 rfl)]; exact ((congrFun (hA6040 2 rfl) _).trans (congrFun (hA4688 2 rfl) _)))] at c6049
                show GW κ 2 0 0 (wM r g I6040 A6040 L6040) 55 [(0, .ref (r 0))] [.int 1]
                refine g_istore_n (lv' := [(1, .int 1), (0, .ref (r 0))]) hk dX12_tellSeries_55 (by decide) rfl ?_
                refine g_iload_n hk dX12_tellSeries_56 rfl ?_
                refine g_if_eq (tgt := 64) (a := 1) hk dX12_tellSeries_57 (by decide) rfl (fun z9 => absurd z9 (show ¬ ((1 : Int) = (0 : Int)) from by decide)) (fun _ => ?_)
                refine g_aload_n hk dX12_tellSeries_60 rfl ?_
                refine g_callV (n := 0) hk (j127_X12_goesOn l D zt r g I6040 A6040 L6040  hV6040) (SP.same _) (fun _ h => h) (gi_V (List.mem_cons_of_mem _ (List.mem_append_left _ (List.mem_of_getElem? (i := 18) rfl))) (List.mem_cons_of_mem _ (List.mem_append_left _ (List.mem_of_getElem? (i := 19) rfl))) (List.mem_cons_of_mem _ (List.mem_append_left _ (List.mem_of_getElem? (i := 20) rfl))) (List.mem_cons_of_mem _ (List.mem_append_left _ (List.mem_of_getElem? (i := 4) rfl))) (gi_sub (fun w h => (List.mem_cons_of_mem _ (List.mem_append_right _ (List.mem_append_right _ (List.mem_append_right _ (List.mem_append_right _ (List.mem_append_right _ (List.mem_append_right _ (List.mem_append_left _ h))))))))) zg_j127_X12_goesOn)) rfl rfl rfl (by decide +kernel) ⟨Nat.le_of_ble_eq_true rfl, Nat.le_of_ble_eq_true rfl⟩ 0 rfl rfl rfl rfl (Nat.le_of_ble_eq_true rfl) ⟨Nat.le_of_ble_eq_true rfl, Nat.le_of_ble_eq_true rfl⟩ dX12_tellSeries_61 (fun v ty' w' hp hk' => ?_)
                obtain ⟨I6074, A6074, L6074, hI6074, hA6074, hV6074, r6075, r6076, r6077, r6078, rfl, rfl⟩ := hp
                have f6079 := IvM_f4 hV6074
                rw [show (I6040 4) = (I4688 4) from (hI6040 4 rfl)] at r6075
                have f6080 := IvM_f6 hV6074
                rw [show (I6040 8) = (I4688 8) from (hI6040 8 rfl), show (I6074 8) = (I4688 8) from ((hI6074 8 rfl).trans (hI6040 8 rfl))] at r6077
                rw [show (I6040 4) = (I4688 4) from (hI6040 4 rfl)] at r6078
                show GW κ 2 0 0 (wM r g I6074 A6074 L6074) 64 [(1, .int 1), (0, .ref (r 0))] []
                refine g_aload_n hk dX12_tellSeries_64 rfl ?_
                refine gM_r0_27 hk hin12 (List.mem_cons_of_mem _ (List.mem_append_left _ (List.mem_of_getElem? (i := 14) rfl))) dX12_tellSeries_65 ?_
                refine g_sipush (v := 160) hk dX12_tellSeries_68 (by decide) ?_
                refine g_aload_n hk dX12_tellSeries_71 rfl ?_
                refine gM_i16 (v := (I 16)) hk hin12 (List.mem_cons_of_mem _ (List.mem_append_left _ (List.mem_of_getElem? (i := 13) rfl))) dX12_tellSeries_72 ((hI6074 16 rfl).trans ((hI6040 16 rfl).trans (hI4688 16 rfl))) ?_
                by_cases c6081 : (I 16).toInt = 0
                · have ec6081 : (I 16) = 0 := Int32.toInt_inj.mp c6081
                  rw [ec6081]
                  show GW κ 2 0 0 (wM r g I6074 A6074 L6074) 75 [(1, .int 1), (0, .ref (r 0))] [.int 0, .int 160, .ref (r 10)]
                  refine g_imul hk dX12_tellSeries_75 ?_
                  refine g_norm (v := 0) (by decide) ?_
                  refine g_aload_n hk dX12_tellSeries_76 rfl ?_
                  refine gM_r0_26 hk hin12 (List.mem_cons_of_mem _ (List.mem_append_left _ (List.mem_of_getElem? (i := 12) rfl))) dX12_tellSeries_77 ?_
                  refine g_aload_n hk dX12_tellSeries_80 rfl ?_
                  refine gM_i16 (v := (I 16)) hk hin12 (List.mem_cons_of_mem _ (List.mem_append_left _ (List.mem_of_getElem? (i := 13) rfl))) dX12_tellSeries_81 ((hI6074 16 rfl).trans ((hI6040 16 rfl).trans (hI4688 16 rfl))) ?_
                  by_cases c6082 : (I 16).toInt = 0
                  · have ec6082 : (I 16) = 0 := Int32.toInt_inj.mp c6082
                    rw [ec6082]
                    show GW κ 2 0 0 (wM r g I6074 A6074 L6074) 84 [(1, .int 1), (0, .ref (r 0))] [.int 0, .ref (r 9), .int 0, .ref (r 10)]
                    refine lM_8 (v := (A4688 8 0)) hk (vp_in_iff.mpr ⟨by decide, by decide⟩) ((congrFun (hA6074 8 rfl) _).trans (congrFun (hA6040 8 rfl) _)) dX12_tellSeries_84 ?_
                    refine g_iadd hk dX12_tellSeries_85 ?_
                    refine g_topi (fun y6083 ey6083 => ?_)
                    have hy6083 : y6083.toInt = 0 + (A4688 8 0).toInt := i32_add ey6083 rfl rfl (by omega) (by omega)
                    refine g_iload_n hk dX12_tellSeries_86 rfl ?_
                    refine g_if_eq (tgt := 95) (a := 1) hk dX12_tellSeries_87 (by decide) rfl (fun z9 => absurd z9 (show ¬ ((1 : Int) = (0 : Int)) from by decide)) (fun _ => ?_)
                    refine g_ldc (v := 100000) hk (List.mem_cons_of_mem _ (List.mem_append_left _ (List.mem_of_getElem? (i := 21) rfl))) dX12_tellSeries_90 ?_
                    refine g_goto (tgt := 99) hk dX12_tellSeries_92 (by decide) ?_
                    have k6084 : (100000 : Int32).toInt = 100000 := rfl
                    refine sM_9 (j := y6083.toNatClampNeg) hk (vp_in_iff.mpr ⟨by omega, by omega⟩) rfl dX12_tellSeries_99 ?_
                    refine g_aload_n hk dX12_tellSeries_100 rfl ?_
                    refine gM_i6 (v := (I6074 6)) hk hin12 (List.mem_cons_of_mem _ (List.mem_append_left _ (List.mem_of_getElem? (i := 11) rfl))) dX12_tellSeries_101 rfl ?_
                    refine g_if_le (tgt := 108) (a := (I6074 6).toInt) hk dX12_tellSeries_104 (by decide) rfl (fun c6085 => ?_) (fun c6085 => ?_)
                    · skip
                      refine g_aload_n hk dX12_tellSeries_108 rfl ?_
                      refine gM_r0_26 hk hin12 (List.mem_cons_of_mem _ (List.mem_append_left _ (List.mem_of_getElem? (i := 12) rfl))) dX12_tellSeries_109 ?_
                      refine g_aload_n hk dX12_tellSeries_112 rfl ?_
                      refine gM_i16 (v := (I 16)) hk hin12 (List.mem_cons_of_mem _ (List.mem_append_left _ (List.mem_of_getElem? (i := 13) rfl))) dX12_tellSeries_113 ((hI6074 16 rfl).trans ((hI6040 16 rfl).trans (hI4688 16 rfl))) ?_
                      by_cases c6086 : (I 16).toInt = 0
                      · have ec6086 : (I 16) = 0 := Int32.toInt_inj.mp c6086
                        rw [ec6086]
                        show GW κ 2 0 0 (wM r g I6074 (up3 A6074 9 (y6083.toNatClampNeg) 100000) L6074) 116 [(1, .int 1), (0, .ref (r 0))] [.int 0, .ref (r 9)]
                        refine g_dup2 hk dX12_tellSeries_116 rfl rfl ?_
                        refine lM_8 (v := (A4688 8 0)) hk (vp_in_iff.mpr ⟨by decide, by decide⟩) ((congrFun (hA6074 8 rfl) _).trans (congrFun (hA6040 8 rfl) _)) dX12_tellSeries_117 ?_
                        refine g_iconst (v := 1) hk dX12_tellSeries_118 (by decide) ?_
                        refine g_iadd hk dX12_tellSeries_119 ?_
                        refine g_topi (fun y6087 ey6087 => ?_)
                        have hy6087 : y6087.toInt = (A4688 8 0).toInt + 1 := i32_add ey6087 rfl rfl (by omega) (by omega)
                        refine sM_8 (j := 0) hk (vp_in_iff.mpr ⟨by decide, by decide⟩) (by decide) dX12_tellSeries_120 ?_
                        have f6088 := IvM_s8_0 hV6074
                        have f6089 := IvM_s8_1 hV6074
                        refine g_aload_n hk dX12_tellSeries_121 rfl ?_
                        refine g_dup hk dX12_tellSeries_122 rfl ?_
                        refine gM_i11 (v := (I4688 11)) hk hin12 (List.mem_cons_of_mem _ (List.mem_append_left _ (List.mem_of_getElem? (i := 0) rfl))) dX12_tellSeries_123 ((hI6074 11 rfl).trans (hI6040 11 rfl)) ?_
                        refine g_iconst (v := 1) hk dX12_tellSeries_126 (by decide) ?_
                        have b6090l := Int32.le_toInt (I4688 11)
                        have b6090h := Int32.toInt_lt (I4688 11)
                        refine g_iadd hk dX12_tellSeries_127 ?_
                        refine g_topi (fun y6091 ey6091 => ?_)
                        refine pM_i11 hk hin12 (List.mem_cons_of_mem _ (List.mem_append_left _ (List.mem_of_getElem? (i := 0) rfl))) dX12_tellSeries_128 ?_
                        refine g_goto (tgt := 5) hk dX12_tellSeries_131 (by decide) ?_
                        exact g_lv (List.forall_mem_cons.mpr ⟨List.mem_of_getElem? (i := 1) rfl, (fun _ h => absurd h List.not_mem_nil)⟩) (ih5724 (upd I6074 11 y6091) (up3 (up3 A6074 9 (y6083.toNatClampNeg) 100000) 8 0 y6087) L6074 (show Md [4, 6, 7, 8, 9, 11, 12, 13] (upd I 11 0) (upd I6074 11 y6091) from Md.tr hI4688 (show Md [4, 6, 7, 8, 9, 11, 12, 13] I4688 (upd I6074 11 y6091) from (Md.up (Md.tr (Md.tr Md.rf hI6040 rfl) hI6074 rfl) rfl)) rfl) (show Md [8, 9] A (up3 (up3 A6074 9 (y6083.toNatClampNeg) 100000) 8 0 y6087) from Md.tr hA4688 (show Md [8, 9] A4688 (up3 (up3 A6074 9 (y6083.toNatClampNeg) 100000) 8 0 y6087) from (Md.up3 (Md.up3 (Md.tr (Md.tr Md.rf hA6040 rfl) hA6074 rfl) rfl) rfl)) rfl) ⟨(IvM_f1 (I := I6074) (A := A6074) hV6074), (IvM_f2 (I := I6074) (A := A6074) hV6074), (IvM_f3 (I := I6074) (A := A6074) hV6074), (IvM_f4 (I := I6074) (A := A6074) hV6074), (IvM_f6 (I := I6074) (A := A6074) hV6074), (IvM_f8 (I := I6074) (A := A6074) hV6074), (IvM_f15 (I := I6074) (A := A6074) hV6074), (IvM_f16 (I := I6074) (A := A6074) hV6074), (IvM_f17 (I := I6074) (A := A6074) hV6074), (IvM_f18 (I := I6074) (A := A6074) hV6074), (IvM_f22 (I := I6074) (A := A6074) hV6074), (IvM_f23 (I := I6074) (A := A6074) hV6074), (IvM_f24 (I := I6074) (A := A6074) hV6074), (IvM_a11 (I := I6074) (A := A6074) hV6074), (IvM_a26 (I := I6074) (A := A6074) hV6074), (show 0 ≤ ((up3 (up3 A6074 9 (y6083.toNatClampNeg) 100000) 8 0 y6087) 8 0).toInt ∧ ((up3 (up3 A6074 9 (y6083.toNatClampNeg) 100000) 8 0 y6087) 8 0).toInt ≤ 160 from by rw [show (up3 (up3 A6074 9 (y6083.toNatClampNeg) 100000) 8 0 y6087) 8 0 = y6087 from rfl]; exact ⟨by omega, by omega⟩), (show 0 ≤ ((up3 (up3 A6074 9 (y6083.toNatClampNeg) 100000) 8 0 y6087) 8 1).toInt ∧ ((up3 (up3 A6074 9 (y6083.toNatClampNeg) 100000) 8 0 y6087) 8 1).toInt ≤ 160 from by rw [show (up3 (up3 A6074 9 (y6083.toNatClampNeg) 100000) 8 0 y6087) 8 1 = (A6074 8 1) from rfl]; exact ⟨by omega, by omega⟩), (IvM_s10_0 (I := I6074) (A := A6074) hV6074), (IvM_s10_1 (I := I6074) (A := A6074) hV6074), (IvM_s17_0 (I := I6074) (A := A6074) hV6074), (IvM_s17_164 (I := I6074) (A := A6074) hV6074), (IvM_lv (I := I6074) (A := A6074) hV6074), (IvM_sd (I := I6074) (A := A6074) hV6074), (IvM_nq (I := I6074) (A := A6074) hV6074), (IvM_hr (I := I6074) (A := A6074) hV6074), (IvM_hh (I := I6074) (A := A6074) hV6074), trivial⟩ (by first | (rw [show ((upd I6074 11 y6091) 4) = (I6074 4) from rfl] <;> omega) | omega) (by first | (rw [show ((upd I6074 11 y6091) 6) = (I6074 6) from rfl] <;> omega) | omega) (by first | (rw [show ((upd I6074 11 y6091) 8) = (I4688 8) from ((hI6074 8 rfl).trans (hI6040 8 rfl))] <;> omega) | omega) (by first | (rw [show ((upd I6074 11 y6091) 4) = (I6074 4) from rfl] <;> omega) | omega) (by omega))
                      exfalso; omega
                    · skip
                      have f6092 := IvM_f4 hIv
                      have f6093 := IvM_f6 hIv
                      have f6094 := IvM_f8 hIv
                      exact g_vret hk hR ⟨I6074, (up3 A6074 9 (y6083.toNatClampNeg) 100000), L6074, (show Md [4, 6, 7, 8, 9, 11, 12, 13] I I6074 from (Md.tr (Md.tr (Md.tr (Md.up Md.rf rfl) hI4688 rfl) hI6040 rfl) hI6074 rfl)), (show Md [8, 9] A (up3 A6074 9 (y6083.toNatClampNeg) 100000) from (Md.up3 (Md.tr (Md.tr (Md.tr Md.rf hA4688 rfl) hA6040 rfl) hA6074 rfl) rfl)), ⟨(IvM_f1 (I := I6074) (A := A6074) hV6074), (IvM_f2 (I := I6074) (A := A6074) hV6074), (IvM_f3 (I := I6074) (A := A6074) hV6074), (IvM_f4 (I := I6074) (A := A6074) hV6074), (IvM_f6 (I := I6074) (A := A6074) hV6074), (IvM_f8 (I := I6074) (A := A6074) hV6074), (IvM_f15 (I := I6074) (A := A6074) hV6074), (IvM_f16 (I := I6074) (A := A6074) hV6074), (IvM_f17 (I := I6074) (A := A6074) hV6074), (IvM_f18 (I := I6074) (A := A6074) hV6074), (IvM_f22 (I := I6074) (A := A6074) hV6074), (IvM_f23 (I := I6074) (A := A6074) hV6074), (IvM_f24 (I := I6074) (A := A6074) hV6074), (IvM_a11 (I := I6074) (A := A6074) hV6074), (IvM_a26 (I := I6074) (A := A6074) hV6074), (IvM_s8_0 (I := I6074) (A := A6074) hV6074), (IvM_s8_1 (I := I6074) (A := A6074) hV6074), (IvM_s10_0 (I := I6074) (A := A6074) hV6074), (IvM_s10_1 (I := I6074) (A := A6074) hV6074), (IvM_s17_0 (I := I6074) (A := A6074) hV6074), (IvM_s17_164 (I := I6074) (A := A6074) hV6074), (IvM_lv (I := I6074) (A := A6074) hV6074), (IvM_sd (I := I6074) (A := A6074) hV6074), (IvM_nq (I := I6074) (A := A6074) hV6074), (IvM_hr (I := I6074) (A := A6074) hV6074), (IvM_hh (I := I6074) (A := A6074) hV6074), trivial⟩, (by omega), (by omega), (by rw [show (I6074 8) = (I4688 8) from ((hI6074 8 rfl).trans (hI6040 8 rfl))] <;> omega), rfl, rfl⟩ dX12_tellSeries_107
                  exfalso; omega
                exfalso; omega
            · skip
              have f6095 := IvM_f4 hIv
              have f6096 := IvM_f6 hIv
              have f6097 := IvM_f8 hIv
              exact g_vret hk hR ⟨I6040, A6040, L6040, (show Md [4, 6, 7, 8, 9, 11, 12, 13] I I6040 from (Md.tr (Md.tr (Md.up Md.rf rfl) hI4688 rfl) hI6040 rfl)), (show Md [8, 9] A A6040 from (Md.tr (Md.tr Md.rf hA4688 rfl) hA6040 rfl)), hV6040, (by rw [show (I6040 4) = (I4688 4) from (hI6040 4 rfl)] <;> omega), (by omega), (by rw [show (I6040 8) = (I4688 8) from (hI6040 8 rfl)] <;> omega), rfl, rfl⟩ dX12_tellSeries_48
        by_cases c6098 : (I 16).toInt = 1
        · have ec6098 : (I 16) = 1 := Int32.toInt_inj.mp c6098
          rw [ec6098]
          show GW κ 2 0 0 (wM r g I4688 A4688 L4688) 29 [(0, .ref (r 0))] [.int 1, .ref (r 9)]
          refine lM_8 (v := (A4688 8 1)) hk (vp_in_iff.mpr ⟨by decide, by decide⟩) rfl dX12_tellSeries_29 ?_
          have f6099 := IvM_s8_1 hV4688
          refine g_sipush (v := 160) hk dX12_tellSeries_30 (by decide) ?_
          refine g_icmp_ne (tgt := 41) (a := (A4688 8 1).toInt) (b := 160) hk dX12_tellSeries_33 (by decide) rfl rfl (fun c6100 => ?_) (fun c6100 => ?_)
          · skip
            refine g_aload_n hk dX12_tellSeries_41 rfl ?_
            refine gM_i6 (v := (I4688 6)) hk hin12 (List.mem_cons_of_mem _ (List.mem_append_left _ (List.mem_of_getElem? (i := 11) rfl))) dX12_tellSeries_42 rfl ?_
            refine g_if_le (tgt := 49) (a := (I4688 6).toInt) hk dX12_tellSeries_45 (by decide) rfl (fun c6101 => ?_) (fun c6101 => ?_)
            · skip
              refine g_aload_n hk dX12_tellSeries_49 rfl ?_
              refine g_bipush (v := 26) hk dX12_tellSeries_50 (by decide) ?_
              have k6102 : (26 : Int32).toInt = 26 := rfl
              refine g_callV (n := 1) hk (j125_X12_is l D zt r g I4688 A4688 L4688 26 hV4688) (SP.same _) (fun _ h => h) (gi_V (List.mem_cons_of_mem _ (List.mem_append_left _ (List.mem_of_getElem? (i := 5) rfl))) (List.mem_cons_of_mem _ (List.mem_append_left _ (List.mem_of_getElem? (i := 6) rfl))) (List.mem_cons_of_mem _ (List.mem_append_left _ (List.mem_of_getElem? (i := 7) rfl))) (List.mem_cons_of_mem _ (List.mem_append_left _ (List.mem_of_getElem? (i := 4) rfl))) (gi_sub (fun w h => (List.mem_cons_of_mem _ (List.mem_append_right _ (List.mem_append_right _ (List.mem_append_right _ (List.mem_append_left _ h)))))) zg_j125_X12_is)) rfl rfl rfl (by decide +kernel) ⟨Nat.le_of_ble_eq_true rfl, Nat.le_of_ble_eq_true rfl⟩ 0 rfl rfl rfl rfl (Nat.le_of_ble_eq_true rfl) ⟨Nat.le_of_ble_eq_true rfl, Nat.le_of_ble_eq_true rfl⟩ dX12_tellSeries_52 (fun v ty' w' hp hk' => ?_)
              rcases hp with ⟨c6103, rfl, rfl⟩ | ⟨c6105, rfl, rfl⟩
              · skip
                rw [show (A4688 2 (I4688 4).toNatClampNeg) = (A 2 (I4688 4).toNatClampNeg) from (congrFun (hA4688 2 rfl) _)] at c6103
                show GW κ 2 0 0 (wM r g I4688 A4688 L4688) 55 [(0, .ref (r 0))] [.int 0]
                refine g_istore_n (lv' := [(1, .int 0), (0, .ref (r 0))]) hk dX12_tellSeries_55 (by decide) rfl ?_
                refine g_iload_n hk dX12_tellSeries_56 rfl ?_
                refine g_if_eq (tgt := 64) (a := 0) hk dX12_tellSeries_57 (by decide) rfl (fun _ => ?_) (fun z9 => absurd (show (0 : Int) = (0 : Int) from by decide) z9)
                refine g_aload_n hk dX12_tellSeries_64 rfl ?_
                refine gM_r0_27 hk hin12 (List.mem_cons_of_mem _ (List.mem_append_left _ (List.mem_of_getElem? (i := 14) rfl))) dX12_tellSeries_65 ?_
                refine g_sipush (v := 160) hk dX12_tellSeries_68 (by decide) ?_
                refine g_aload_n hk dX12_tellSeries_71 rfl ?_
                refine gM_i16 (v := (I 16)) hk hin12 (List.mem_cons_of_mem _ (List.mem_append_left _ (List.mem_of_getElem? (i := 13) rfl))) dX12_tellSeries_72 (hI4688 16 rfl) ?_
                by_cases c6107 : (I 16).toInt = 1
                · have ec6107 : (I 16) = 1 := Int32.toInt_inj.mp c6107
                  rw [ec6107]
                  show GW κ 2 0 0 (wM r g I4688 A4688 L4688) 75 [(1, .int 0), (0, .ref (r 0))] [.int 1, .int 160, .ref (r 10)]
                  refine g_imul hk dX12_tellSeries_75 ?_
                  refine g_norm (v := 160) (by decide) ?_
                  refine g_aload_n hk dX12_tellSeries_76 rfl ?_
                  refine gM_r0_26 hk hin12 (List.mem_cons_of_mem _ (List.mem_append_left _ (List.mem_of_getElem? (i := 12) rfl))) dX12_tellSeries_77 ?_
                  refine g_aload_n hk dX12_tellSeries_80 rfl ?_
                  refine gM_i16 (v := (I 16)) hk hin12 (List.mem_cons_of_mem _ (List.mem_append_left _ (List.mem_of_getElem? (i := 13) rfl))) dX12_tellSeries_81 (hI4688 16 rfl) ?_
                  by_cases c6108 : (I 16).toInt = 1
                  · have ec6108 : (I 16) = 1 := Int32.toInt_inj.mp c6108
                    rw [ec6108]
                    show GW κ 2 0 0 (wM r g I4688 A4688 L4688) 84 [(1, .int 0), (0, .ref (r 0))] [.int 1, .ref (r 9), .int 160, .ref (r 10)]
                    refine lM_8 (v := (A4688 8 1)) hk (vp_in_iff.mpr ⟨by decide, by decide⟩) rfl dX12_tellSeries_84 ?_
                    refine g_iadd hk dX12_tellSeries_85 ?_
                    refine g_topi (fun y6109 ey6109 => ?_)
                    have hy6109 : y6109.toInt = 160 + (A4688 8 1).toInt := i32_add ey6109 rfl rfl (by omega) (by omega)
                    refine g_iload_n hk dX12_tellSeries_86 rfl ?_
                    refine g_if_eq (tgt := 95) (a := 0) hk dX12_tellSeries_87 (by decide) rfl (fun _ => ?_) (fun z9 => absurd (show (0 : Int) = (0 : Int) from by decide) z9)
                    refine g_aload_n hk dX12_tellSeries_95 rfl ?_
                    refine g_callV (n := 0) hk (j132_X12_readingTold l D zt r g I4688 A4688 L4688  hV4688) (SP.same _) (fun _ h => h) (gi_V (List.mem_cons_of_mem _ (List.mem_append_left _ (List.mem_of_getElem? (i := 15) rfl))) (List.mem_cons_of_mem _ (List.mem_append_left _ (List.mem_of_getElem? (i := 16) rfl))) (List.mem_cons_of_mem _ (List.mem_append_left _ (List.mem_of_getElem? (i := 17) rfl))) (List.mem_cons_of_mem _ (List.mem_append_left _ (List.mem_of_getElem? (i := 4) rfl))) (gi_sub (fun w h => (List.mem_cons_of_mem _ (List.mem_append_right _ (List.mem_append_right _ (List.mem_append_right _ (List.mem_append_right _ (List.mem_append_right _ (List.mem_append_left _ h)))))))) zg_j132_X12_readingTold)) rfl rfl rfl (by decide +kernel) ⟨Nat.le_of_ble_eq_true rfl, Nat.le_of_ble_eq_true rfl⟩ 0 rfl rfl rfl rfl (Nat.le_of_ble_eq_true rfl) ⟨Nat.le_of_ble_eq_true rfl, Nat.le_of_ble_eq_true rfl⟩ dX12_tellSeries_96 (fun v ty' w' hp hk' => ?_)
                    obtain ⟨I6111, A6111, L6111, hI6111, hA6111, hV6111, y6110, r6112, r6113, r6114, r6115, rfl, rfl⟩ := hp
                    have f6116 := IvM_f4 hV6111
                    have f6117 := IvM_f6 hV6111
                    have f6118 := IvM_f8 hV6111
                    show GW κ 2 0 0 (wM r g I6111 A6111 L6111) 99 [(1, .int 0), (0, .ref (r 0))] [.int y6110, .int y6109, .ref (r 10)]
                    refine sM_9 (j := y6109.toNatClampNeg) hk (vp_in_iff.mpr ⟨by omega, by omega⟩) rfl dX12_tellSeries_99 ?_
                    refine g_aload_n hk dX12_tellSeries_100 rfl ?_
                    refine gM_i6 (v := (I6111 6)) hk hin12 (List.mem_cons_of_mem _ (List.mem_append_left _ (List.mem_of_getElem? (i := 11) rfl))) dX12_tellSeries_101 rfl ?_
                    refine g_if_le (tgt := 108) (a := (I6111 6).toInt) hk dX12_tellSeries_104 (by decide) rfl (fun c6119 => ?_) (fun c6119 => ?_)
                    · skip
                      refine g_aload_n hk dX12_tellSeries_108 rfl ?_
                      refine gM_r0_26 hk hin12 (List.mem_cons_of_mem _ (List.mem_append_left _ (List.mem_of_getElem? (i := 12) rfl))) dX12_tellSeries_109 ?_
                      refine g_aload_n hk dX12_tellSeries_112 rfl ?_
                      refine gM_i16 (v := (I 16)) hk hin12 (List.mem_cons_of_mem _ (List.mem_append_left _ (List.mem_of_getElem? (i := 13) rfl))) dX12_tellSeries_113 ((hI6111 16 rfl).trans (hI4688 16 rfl)) ?_
                      by_cases c6120 : (I 16).toInt = 1
                      · have ec6120 : (I 16) = 1 := Int32.toInt_inj.mp c6120
                        rw [ec6120]
                        show GW κ 2 0 0 (wM r g I6111 (up3 A6111 9 (y6109.toNatClampNeg) y6110) L6111) 116 [(1, .int 0), (0, .ref (r 0))] [.int 1, .ref (r 9)]
                        refine g_dup2 hk dX12_tellSeries_116 rfl rfl ?_
                        refine lM_8 (v := (A4688 8 1)) hk (vp_in_iff.mpr ⟨by decide, by decide⟩) (congrFun (hA6111 8 rfl) _) dX12_tellSeries_117 ?_
                        refine g_iconst (v := 1) hk dX12_tellSeries_118 (by decide) ?_
                        refine g_iadd hk dX12_tellSeries_119 ?_
                        refine g_topi (fun y6121 ey6121 => ?_)
                        have hy6121 : y6121.toInt = (A4688 8 1).toInt + 1 := i32_add ey6121 rfl rfl (by omega) (by omega)
                        refine sM_8 (j := 1) hk (vp_in_iff.mpr ⟨by decide, by decide⟩) (by decide) dX12_tellSeries_120 ?_
                        have f6122 := IvM_s8_0 hV6111
                        have f6123 := IvM_s8_1 hV6111
                        refine g_aload_n hk dX12_tellSeries_121 rfl ?_
                        refine g_dup hk dX12_tellSeries_122 rfl ?_
                        refine gM_i11 (v := (I4688 11)) hk hin12 (List.mem_cons_of_mem _ (List.mem_append_left _ (List.mem_of_getElem? (i := 0) rfl))) dX12_tellSeries_123 (hI6111 11 rfl) ?_
                        refine g_iconst (v := 1) hk dX12_tellSeries_126 (by decide) ?_
                        have b6124l := Int32.le_toInt (I4688 11)
                        have b6124h := Int32.toInt_lt (I4688 11)
                        refine g_iadd hk dX12_tellSeries_127 ?_
                        refine g_topi (fun y6125 ey6125 => ?_)
                        refine pM_i11 hk hin12 (List.mem_cons_of_mem _ (List.mem_append_left _ (List.mem_of_getElem? (i := 0) rfl))) dX12_tellSeries_128 ?_
                        refine g_goto (tgt := 5) hk dX12_tellSeries_131 (by decide) ?_
                        exact g_lv (List.forall_mem_cons.mpr ⟨List.mem_of_getElem? (i := 1) rfl, (fun _ h => absurd h List.not_mem_nil)⟩) (ih5724 (upd I6111 11 y6125) (up3 (up3 A6111 9 (y6109.toNatClampNeg) y6110) 8 1 y6121) L6111 (show Md [4, 6, 7, 8, 9, 11, 12, 13] (upd I 11 0) (upd I6111 11 y6125) from Md.tr hI4688 (show Md [4, 6, 7, 8, 9, 11, 12, 13] I4688 (upd I6111 11 y6125) from (Md.up (Md.tr Md.rf hI6111 rfl) rfl)) rfl) (show Md [8, 9] A (up3 (up3 A6111 9 (y6109.toNatClampNeg) y6110) 8 1 y6121) from Md.tr hA4688 (show Md [8, 9] A4688 (up3 (up3 A6111 9 (y6109.toNatClampNeg) y6110) 8 1 y6121) from (Md.up3 (Md.up3 (Md.tr Md.rf hA6111 rfl) rfl) rfl)) rfl) ⟨(IvM_f1 (I := I6111) (A := A6111) hV6111), (IvM_f2 (I := I6111) (A := A6111) hV6111), (IvM_f3 (I := I6111) (A := A6111) hV6111), (IvM_f4 (I := I6111) (A := A6111) hV6111), (IvM_f6 (I := I6111) (A := A6111) hV6111), (IvM_f8 (I := I6111) (A := A6111) hV6111), (IvM_f15 (I := I6111) (A := A6111) hV6111), (IvM_f16 (I := I6111) (A := A6111) hV6111), (IvM_f17 (I := I6111) (A := A6111) hV6111), (IvM_f18 (I := I6111) (A := A6111) hV6111), (IvM_f22 (I := I6111) (A := A6111) hV6111), (IvM_f23 (I := I6111) (A := A6111) hV6111), (IvM_f24 (I := I6111) (A := A6111) hV6111), (IvM_a11 (I := I6111) (A := A6111) hV6111), (IvM_a26 (I := I6111) (A := A6111) hV6111), (show 0 ≤ ((up3 (up3 A6111 9 (y6109.toNatClampNeg) y6110) 8 1 y6121) 8 0).toInt ∧ ((up3 (up3 A6111 9 (y6109.toNatClampNeg) y6110) 8 1 y6121) 8 0).toInt ≤ 160 from by rw [show (up3 (up3 A6111 9 (y6109.toNatClampNeg) y6110) 8 1 y6121) 8 0 = (A6111 8 0) from rfl]; exact ⟨by omega, by omega⟩), (show 0 ≤ ((up3 (up3 A6111 9 (y6109.toNatClampNeg) y6110) 8 1 y6121) 8 1).toInt ∧ ((up3 (up3 A6111 9 (y6109.toNatClampNeg) y6110) 8 1 y6121) 8 1).toInt ≤ 160 from by rw [show (up3 (up3 A6111 9 (y6109.toNatClampNeg) y6110) 8 1 y6121) 8 1 = y6121 from rfl]; exact ⟨by omega, by omega⟩), (IvM_s10_0 (I := I6111) (A := A6111) hV6111), (IvM_s10_1 (I := I6111) (A := A6111) hV6111), (IvM_s17_0 (I := I6111) (A := A6111) hV6111), (IvM_s17_164 (I := I6111) (A := A6111) hV6111), (IvM_lv (I := I6111) (A := A6111) hV6111), (IvM_sd (I := I6111) (A := A6111) hV6111), (IvM_nq (I := I6111) (A := A6111) hV6111), (IvM_hr (I := I6111) (A := A6111) hV6111), (IvM_hh (I := I6111) (A := A6111) hV6111), trivial⟩ (by first | (rw [show ((upd I6111 11 y6125) 4) = (I6111 4) from rfl] <;> omega) | omega) (by first | (rw [show ((upd I6111 11 y6125) 6) = (I6111 6) from rfl] <;> omega) | omega) (by first | (rw [show ((upd I6111 11 y6125) 8) = (I6111 8) from rfl] <;> omega) | omega) (by first | (rw [show ((upd I6111 11 y6125) 4) = (I6111 4) from rfl] <;> omega) | omega) (by omega))
                      exfalso; omega
                    · skip
                      have f6126 := IvM_f4 hIv
                      have f6127 := IvM_f6 hIv
                      have f6128 := IvM_f8 hIv
                      exact g_vret hk hR ⟨I6111, (up3 A6111 9 (y6109.toNatClampNeg) y6110), L6111, (show Md [4, 6, 7, 8, 9, 11, 12, 13] I I6111 from (Md.tr (Md.tr (Md.up Md.rf rfl) hI4688 rfl) hI6111 rfl)), (show Md [8, 9] A (up3 A6111 9 (y6109.toNatClampNeg) y6110) from (Md.up3 (Md.tr (Md.tr Md.rf hA4688 rfl) hA6111 rfl) rfl)), ⟨(IvM_f1 (I := I6111) (A := A6111) hV6111), (IvM_f2 (I := I6111) (A := A6111) hV6111), (IvM_f3 (I := I6111) (A := A6111) hV6111), (IvM_f4 (I := I6111) (A := A6111) hV6111), (IvM_f6 (I := I6111) (A := A6111) hV6111), (IvM_f8 (I := I6111) (A := A6111) hV6111), (IvM_f15 (I := I6111) (A := A6111) hV6111), (IvM_f16 (I := I6111) (A := A6111) hV6111), (IvM_f17 (I := I6111) (A := A6111) hV6111), (IvM_f18 (I := I6111) (A := A6111) hV6111), (IvM_f22 (I := I6111) (A := A6111) hV6111), (IvM_f23 (I := I6111) (A := A6111) hV6111), (IvM_f24 (I := I6111) (A := A6111) hV6111), (IvM_a11 (I := I6111) (A := A6111) hV6111), (IvM_a26 (I := I6111) (A := A6111) hV6111), (IvM_s8_0 (I := I6111) (A := A6111) hV6111), (IvM_s8_1 (I := I6111) (A := A6111) hV6111), (IvM_s10_0 (I := I6111) (A := A6111) hV6111), (IvM_s10_1 (I := I6111) (A := A6111) hV6111), (IvM_s17_0 (I := I6111) (A := A6111) hV6111), (IvM_s17_164 (I := I6111) (A := A6111) hV6111), (IvM_lv (I := I6111) (A := A6111) hV6111), (IvM_sd (I := I6111) (A := A6111) hV6111), (IvM_nq (I := I6111) (A := A6111) hV6111), (IvM_hr (I := I6111) (A := A6111) hV6111), (IvM_hh (I := I6111) (A := A6111) hV6111), trivial⟩, (by omega), (by omega), (by omega), rfl, rfl⟩ dX12_tellSeries_107
                  exfalso; omega
                exfalso; omega
              · skip
                rw [show (A4688 2 (I4688 4).toNatClampNeg) = (A 2 (I4688 4).toNatClampNeg) from (congrFun (hA4688 2 rfl) _)] at c6105
                show GW κ 2 0 0 (wM r g I4688 A4688 L4688) 55 [(0, .ref (r 0))] [.int 1]
                refine g_istore_n (lv' := [(1, .int 1), (0, .ref (r 0))]) hk dX12_tellSeries_55 (by decide) rfl ?_
                refine g_iload_n hk dX12_tellSeries_56 rfl ?_
                refine g_if_eq (tgt := 64) (a := 1) hk dX12_tellSeries_57 (by decide) rfl (fun z9 => absurd z9 (show ¬ ((1 : Int) = (0 : Int)) from by decide)) (fun _ => ?_)
                refine g_aload_n hk dX12_tellSeries_60 rfl ?_
                refine g_callV (n := 0) hk (j127_X12_goesOn l D zt r g I4688 A4688 L4688  hV4688) (SP.same _) (fun _ h => h) (gi_V (List.mem_cons_of_mem _ (List.mem_append_left _ (List.mem_of_getElem? (i := 18) rfl))) (List.mem_cons_of_mem _ (List.mem_append_left _ (List.mem_of_getElem? (i := 19) rfl))) (List.mem_cons_of_mem _ (List.mem_append_left _ (List.mem_of_getElem? (i := 20) rfl))) (List.mem_cons_of_mem _ (List.mem_append_left _ (List.mem_of_getElem? (i := 4) rfl))) (gi_sub (fun w h => (List.mem_cons_of_mem _ (List.mem_append_right _ (List.mem_append_right _ (List.mem_append_right _ (List.mem_append_right _ (List.mem_append_right _ (List.mem_append_right _ (List.mem_append_left _ h))))))))) zg_j127_X12_goesOn)) rfl rfl rfl (by decide +kernel) ⟨Nat.le_of_ble_eq_true rfl, Nat.le_of_ble_eq_true rfl⟩ 0 rfl rfl rfl rfl (Nat.le_of_ble_eq_true rfl) ⟨Nat.le_of_ble_eq_true rfl, Nat.le_of_ble_eq_true rfl⟩ dX12_tellSeries_61 (fun v ty' w' hp hk' => ?_)
                obtain ⟨I6130, A6130, L6130, hI6130, hA6130, hV6130, r6131, r6132, r6133, r6134, rfl, rfl⟩ := hp
                have f6135 := IvM_f4 hV6130
                have f6136 := IvM_f6 hV6130
                rw [show (I6130 8) = (I4688 8) from (hI6130 8 rfl)] at r6133
                show GW κ 2 0 0 (wM r g I6130 A6130 L6130) 64 [(1, .int 1), (0, .ref (r 0))] []
                refine g_aload_n hk dX12_tellSeries_64 rfl ?_
                refine gM_r0_27 hk hin12 (List.mem_cons_of_mem _ (List.mem_append_left _ (List.mem_of_getElem? (i := 14) rfl))) dX12_tellSeries_65 ?_
                refine g_sipush (v := 160) hk dX12_tellSeries_68 (by decide) ?_
                refine g_aload_n hk dX12_tellSeries_71 rfl ?_
                refine gM_i16 (v := (I 16)) hk hin12 (List.mem_cons_of_mem _ (List.mem_append_left _ (List.mem_of_getElem? (i := 13) rfl))) dX12_tellSeries_72 ((hI6130 16 rfl).trans (hI4688 16 rfl)) ?_
                by_cases c6137 : (I 16).toInt = 1
                · have ec6137 : (I 16) = 1 := Int32.toInt_inj.mp c6137
                  rw [ec6137]
                  show GW κ 2 0 0 (wM r g I6130 A6130 L6130) 75 [(1, .int 1), (0, .ref (r 0))] [.int 1, .int 160, .ref (r 10)]
                  refine g_imul hk dX12_tellSeries_75 ?_
                  refine g_norm (v := 160) (by decide) ?_
                  refine g_aload_n hk dX12_tellSeries_76 rfl ?_
                  refine gM_r0_26 hk hin12 (List.mem_cons_of_mem _ (List.mem_append_left _ (List.mem_of_getElem? (i := 12) rfl))) dX12_tellSeries_77 ?_
                  refine g_aload_n hk dX12_tellSeries_80 rfl ?_
                  refine gM_i16 (v := (I 16)) hk hin12 (List.mem_cons_of_mem _ (List.mem_append_left _ (List.mem_of_getElem? (i := 13) rfl))) dX12_tellSeries_81 ((hI6130 16 rfl).trans (hI4688 16 rfl)) ?_
                  by_cases c6138 : (I 16).toInt = 1
                  · have ec6138 : (I 16) = 1 := Int32.toInt_inj.mp c6138
                    rw [ec6138]
                    show GW κ 2 0 0 (wM r g I6130 A6130 L6130) 84 [(1, .int 1), (0, .ref (r 0))] [.int 1, .ref (r 9), .int 160, .ref (r 10)]
                    refine lM_8 (v := (A4688 8 1)) hk (vp_in_iff.mpr ⟨by decide, by decide⟩) (congrFun (hA6130 8 rfl) _) dX12_tellSeries_84 ?_
                    refine g_iadd hk dX12_tellSeries_85 ?_
                    refine g_topi (fun y6139 ey6139 => ?_)
                    have hy6139 : y6139.toInt = 160 + (A4688 8 1).toInt := i32_add ey6139 rfl rfl (by omega) (by omega)
                    refine g_iload_n hk dX12_tellSeries_86 rfl ?_
                    refine g_if_eq (tgt := 95) (a := 1) hk dX12_tellSeries_87 (by decide) rfl (fun z9 => absurd z9 (show ¬ ((1 : Int) = (0 : Int)) from by decide)) (fun _ => ?_)
                    refine g_ldc (v := 100000) hk (List.mem_cons_of_mem _ (List.mem_append_left _ (List.mem_of_getElem? (i := 21) rfl))) dX12_tellSeries_90 ?_
                    refine g_goto (tgt := 99) hk dX12_tellSeries_92 (by decide) ?_
                    have k6140 : (100000 : Int32).toInt = 100000 := rfl
                    refine sM_9 (j := y6139.toNatClampNeg) hk (vp_in_iff.mpr ⟨by omega, by omega⟩) rfl dX12_tellSeries_99 ?_
                    refine g_aload_n hk dX12_tellSeries_100 rfl ?_
                    refine gM_i6 (v := (I6130 6)) hk hin12 (List.mem_cons_of_mem _ (List.mem_append_left _ (List.mem_of_getElem? (i := 11) rfl))) dX12_tellSeries_101 rfl ?_
                    refine g_if_le (tgt := 108) (a := (I6130 6).toInt) hk dX12_tellSeries_104 (by decide) rfl (fun c6141 => ?_) (fun c6141 => ?_)
                    · skip
                      refine g_aload_n hk dX12_tellSeries_108 rfl ?_
                      refine gM_r0_26 hk hin12 (List.mem_cons_of_mem _ (List.mem_append_left _ (List.mem_of_getElem? (i := 12) rfl))) dX12_tellSeries_109 ?_
                      refine g_aload_n hk dX12_tellSeries_112 rfl ?_
                      refine gM_i16 (v := (I 16)) hk hin12 (List.mem_cons_of_mem _ (List.mem_append_left _ (List.mem_of_getElem? (i := 13) rfl))) dX12_tellSeries_113 ((hI6130 16 rfl).trans (hI4688 16 rfl)) ?_
                      by_cases c6142 : (I 16).toInt = 1
                      · have ec6142 : (I 16) = 1 := Int32.toInt_inj.mp c6142
                        rw [ec6142]
                        show GW κ 2 0 0 (wM r g I6130 (up3 A6130 9 (y6139.toNatClampNeg) 100000) L6130) 116 [(1, .int 1), (0, .ref (r 0))] [.int 1, .ref (r 9)]
                        refine g_dup2 hk dX12_tellSeries_116 rfl rfl ?_
                        refine lM_8 (v := (A4688 8 1)) hk (vp_in_iff.mpr ⟨by decide, by decide⟩) (congrFun (hA6130 8 rfl) _) dX12_tellSeries_117 ?_
                        refine g_iconst (v := 1) hk dX12_tellSeries_118 (by decide) ?_
                        refine g_iadd hk dX12_tellSeries_119 ?_
                        refine g_topi (fun y6143 ey6143 => ?_)
                        have hy6143 : y6143.toInt = (A4688 8 1).toInt + 1 := i32_add ey6143 rfl rfl (by omega) (by omega)
                        refine sM_8 (j := 1) hk (vp_in_iff.mpr ⟨by decide, by decide⟩) (by decide) dX12_tellSeries_120 ?_
                        have f6144 := IvM_s8_0 hV6130
                        have f6145 := IvM_s8_1 hV6130
                        refine g_aload_n hk dX12_tellSeries_121 rfl ?_
                        refine g_dup hk dX12_tellSeries_122 rfl ?_
                        refine gM_i11 (v := (I4688 11)) hk hin12 (List.mem_cons_of_mem _ (List.mem_append_left _ (List.mem_of_getElem? (i := 0) rfl))) dX12_tellSeries_123 (hI6130 11 rfl) ?_
                        refine g_iconst (v := 1) hk dX12_tellSeries_126 (by decide) ?_
                        have b6146l := Int32.le_toInt (I4688 11)
                        have b6146h := Int32.toInt_lt (I4688 11)
                        refine g_iadd hk dX12_tellSeries_127 ?_
                        refine g_topi (fun y6147 ey6147 => ?_)
                        refine pM_i11 hk hin12 (List.mem_cons_of_mem _ (List.mem_append_left _ (List.mem_of_getElem? (i := 0) rfl))) dX12_tellSeries_128 ?_
                        refine g_goto (tgt := 5) hk dX12_tellSeries_131 (by decide) ?_
                        exact g_lv (List.forall_mem_cons.mpr ⟨List.mem_of_getElem? (i := 1) rfl, (fun _ h => absurd h List.not_mem_nil)⟩) (ih5724 (upd I6130 11 y6147) (up3 (up3 A6130 9 (y6139.toNatClampNeg) 100000) 8 1 y6143) L6130 (show Md [4, 6, 7, 8, 9, 11, 12, 13] (upd I 11 0) (upd I6130 11 y6147) from Md.tr hI4688 (show Md [4, 6, 7, 8, 9, 11, 12, 13] I4688 (upd I6130 11 y6147) from (Md.up (Md.tr Md.rf hI6130 rfl) rfl)) rfl) (show Md [8, 9] A (up3 (up3 A6130 9 (y6139.toNatClampNeg) 100000) 8 1 y6143) from Md.tr hA4688 (show Md [8, 9] A4688 (up3 (up3 A6130 9 (y6139.toNatClampNeg) 100000) 8 1 y6143) from (Md.up3 (Md.up3 (Md.tr Md.rf hA6130 rfl) rfl) rfl)) rfl) ⟨(IvM_f1 (I := I6130) (A := A6130) hV6130), (IvM_f2 (I := I6130) (A := A6130) hV6130), (IvM_f3 (I := I6130) (A := A6130) hV6130), (IvM_f4 (I := I6130) (A := A6130) hV6130), (IvM_f6 (I := I6130) (A := A6130) hV6130), (IvM_f8 (I := I6130) (A := A6130) hV6130), (IvM_f15 (I := I6130) (A := A6130) hV6130), (IvM_f16 (I := I6130) (A := A6130) hV6130), (IvM_f17 (I := I6130) (A := A6130) hV6130), (IvM_f18 (I := I6130) (A := A6130) hV6130), (IvM_f22 (I := I6130) (A := A6130) hV6130), (IvM_f23 (I := I6130) (A := A6130) hV6130), (IvM_f24 (I := I6130) (A := A6130) hV6130), (IvM_a11 (I := I6130) (A := A6130) hV6130), (IvM_a26 (I := I6130) (A := A6130) hV6130), (show 0 ≤ ((up3 (up3 A6130 9 (y6139.toNatClampNeg) 100000) 8 1 y6143) 8 0).toInt ∧ ((up3 (up3 A6130 9 (y6139.toNatClampNeg) 100000) 8 1 y6143) 8 0).toInt ≤ 160 from by rw [show (up3 (up3 A6130 9 (y6139.toNatClampNeg) 100000) 8 1 y6143) 8 0 = (A6130 8 0) from rfl]; exact ⟨by omega, by omega⟩), (show 0 ≤ ((up3 (up3 A6130 9 (y6139.toNatClampNeg) 100000) 8 1 y6143) 8 1).toInt ∧ ((up3 (up3 A6130 9 (y6139.toNatClampNeg) 100000) 8 1 y6143) 8 1).toInt ≤ 160 from by rw [show (up3 (up3 A6130 9 (y6139.toNatClampNeg) 100000) 8 1 y6143) 8 1 = y6143 from rfl]; exact ⟨by omega, by omega⟩), (IvM_s10_0 (I := I6130) (A := A6130) hV6130), (IvM_s10_1 (I := I6130) (A := A6130) hV6130), (IvM_s17_0 (I := I6130) (A := A6130) hV6130), (IvM_s17_164 (I := I6130) (A := A6130) hV6130), (IvM_lv (I := I6130) (A := A6130) hV6130), (IvM_sd (I := I6130) (A := A6130) hV6130), (IvM_nq (I := I6130) (A := A6130) hV6130), (IvM_hr (I := I6130) (A := A6130) hV6130), (IvM_hh (I := I6130) (A := A6130) hV6130), trivial⟩ (by first | (rw [show ((upd I6130 11 y6147) 4) = (I6130 4) from rfl] <;> omega) | omega) (by first | (rw [show ((upd I6130 11 y6147) 6) = (I6130 6) from rfl] <;> omega) | omega) (by first | (rw [show ((upd I6130 11 y6147) 8) = (I4688 8) from (hI6130 8 rfl)] <;> omega) | omega) (by first | (rw [show ((upd I6130 11 y6147) 4) = (I6130 4) from rfl] <;> omega) | omega) (by omega))
                      exfalso; omega
                    · skip
                      have f6148 := IvM_f4 hIv
                      have f6149 := IvM_f6 hIv
                      have f6150 := IvM_f8 hIv
                      exact g_vret hk hR ⟨I6130, (up3 A6130 9 (y6139.toNatClampNeg) 100000), L6130, (show Md [4, 6, 7, 8, 9, 11, 12, 13] I I6130 from (Md.tr (Md.tr (Md.up Md.rf rfl) hI4688 rfl) hI6130 rfl)), (show Md [8, 9] A (up3 A6130 9 (y6139.toNatClampNeg) 100000) from (Md.up3 (Md.tr (Md.tr Md.rf hA4688 rfl) hA6130 rfl) rfl)), ⟨(IvM_f1 (I := I6130) (A := A6130) hV6130), (IvM_f2 (I := I6130) (A := A6130) hV6130), (IvM_f3 (I := I6130) (A := A6130) hV6130), (IvM_f4 (I := I6130) (A := A6130) hV6130), (IvM_f6 (I := I6130) (A := A6130) hV6130), (IvM_f8 (I := I6130) (A := A6130) hV6130), (IvM_f15 (I := I6130) (A := A6130) hV6130), (IvM_f16 (I := I6130) (A := A6130) hV6130), (IvM_f17 (I := I6130) (A := A6130) hV6130), (IvM_f18 (I := I6130) (A := A6130) hV6130), (IvM_f22 (I := I6130) (A := A6130) hV6130), (IvM_f23 (I := I6130) (A := A6130) hV6130), (IvM_f24 (I := I6130) (A := A6130) hV6130), (IvM_a11 (I := I6130) (A := A6130) hV6130), (IvM_a26 (I := I6130) (A := A6130) hV6130), (IvM_s8_0 (I := I6130) (A := A6130) hV6130), (IvM_s8_1 (I := I6130) (A := A6130) hV6130), (IvM_s10_0 (I := I6130) (A := A6130) hV6130), (IvM_s10_1 (I := I6130) (A := A6130) hV6130), (IvM_s17_0 (I := I6130) (A := A6130) hV6130), (IvM_s17_164 (I := I6130) (A := A6130) hV6130), (IvM_lv (I := I6130) (A := A6130) hV6130), (IvM_sd (I := I6130) (A := A6130) hV6130), (IvM_nq (I := I6130) (A := A6130) hV6130), (IvM_hr (I := I6130) (A := A6130) hV6130), (IvM_hh (I := I6130) (A := A6130) hV6130), trivial⟩, (by omega), (by omega), (by rw [show (I6130 8) = (I4688 8) from (hI6130 8 rfl)] <;> omega), rfl, rfl⟩ dX12_tellSeries_107
                  exfalso; omega
                exfalso; omega
            · skip
              have f6151 := IvM_f4 hIv
              have f6152 := IvM_f6 hIv
              have f6153 := IvM_f8 hIv
              exact g_vret hk hR ⟨I4688, A4688, L4688, (show Md [4, 6, 7, 8, 9, 11, 12, 13] I I4688 from (Md.tr (Md.up Md.rf rfl) hI4688 rfl)), (show Md [8, 9] A A4688 from (Md.tr Md.rf hA4688 rfl)), hV4688, (by omega), (by omega), (by omega), rfl, rfl⟩ dX12_tellSeries_48
          · skip
            refine g_aload_n hk dX12_tellSeries_36 rfl ?_
            refine g_iconst (v := 2) hk dX12_tellSeries_37 (by decide) ?_
            have k6154 : (2 : Int32).toInt = 2 := rfl
            refine g_callV (n := 1) hk (j128_X12_fail l D zt r g I4688 A4688 L4688 2 hV4688 (by decide) (by decide)) (SP.same _) (fun _ h => h) (gi_V (List.mem_cons_of_mem _ (List.mem_append_left _ (List.mem_of_getElem? (i := 22) rfl))) (List.mem_cons_of_mem _ (List.mem_append_left _ (List.mem_of_getElem? (i := 23) rfl))) (List.mem_cons_of_mem _ (List.mem_append_left _ (List.mem_of_getElem? (i := 24) rfl))) (List.mem_cons_of_mem _ (List.mem_append_left _ (List.mem_of_getElem? (i := 4) rfl))) (gi_sub (fun w h => (List.mem_cons_of_mem _ (List.mem_append_right _ (List.mem_append_right _ (List.mem_append_right _ (List.mem_append_right _ (List.mem_append_right _ (List.mem_append_right _ (List.mem_append_right _ (List.mem_append_left _ h)))))))))) zg_j128_X12_fail)) rfl rfl rfl (by decide +kernel) ⟨Nat.le_of_ble_eq_true rfl, Nat.le_of_ble_eq_true rfl⟩ 0 rfl rfl rfl rfl (Nat.le_of_ble_eq_true rfl) ⟨Nat.le_of_ble_eq_true rfl, Nat.le_of_ble_eq_true rfl⟩ dX12_tellSeries_38 (fun v ty' w' hp hk' => ?_)
            obtain ⟨I6156, A6156, L6156, hI6156, hA6156, hV6156, r6157, r6158, r6159, rfl, rfl⟩ := hp
            have f6160 := IvM_f6 hV6156
            rw [show (I6156 8) = (I4688 8) from (hI6156 8 rfl)] at r6158
            show GW κ 2 0 0 (wM r g I6156 A6156 L6156) 41 [(0, .ref (r 0))] []
            refine g_aload_n hk dX12_tellSeries_41 rfl ?_
            refine gM_i6 (v := (I6156 6)) hk hin12 (List.mem_cons_of_mem _ (List.mem_append_left _ (List.mem_of_getElem? (i := 11) rfl))) dX12_tellSeries_42 rfl ?_
            refine g_if_le (tgt := 49) (a := (I6156 6).toInt) hk dX12_tellSeries_45 (by decide) rfl (fun c6161 => ?_) (fun c6161 => ?_)
            · skip
              refine g_aload_n hk dX12_tellSeries_49 rfl ?_
              refine g_bipush (v := 26) hk dX12_tellSeries_50 (by decide) ?_
              have k6162 : (26 : Int32).toInt = 26 := rfl
              refine g_callV (n := 1) hk (j125_X12_is l D zt r g I6156 A6156 L6156 26 hV6156) (SP.same _) (fun _ h => h) (gi_V (List.mem_cons_of_mem _ (List.mem_append_left _ (List.mem_of_getElem? (i := 5) rfl))) (List.mem_cons_of_mem _ (List.mem_append_left _ (List.mem_of_getElem? (i := 6) rfl))) (List.mem_cons_of_mem _ (List.mem_append_left _ (List.mem_of_getElem? (i := 7) rfl))) (List.mem_cons_of_mem _ (List.mem_append_left _ (List.mem_of_getElem? (i := 4) rfl))) (gi_sub (fun w h => (List.mem_cons_of_mem _ (List.mem_append_right _ (List.mem_append_right _ (List.mem_append_right _ (List.mem_append_left _ h)))))) zg_j125_X12_is)) rfl rfl rfl (by decide +kernel) ⟨Nat.le_of_ble_eq_true rfl, Nat.le_of_ble_eq_true rfl⟩ 0 rfl rfl rfl rfl (Nat.le_of_ble_eq_true rfl) ⟨Nat.le_of_ble_eq_true rfl, Nat.le_of_ble_eq_true rfl⟩ dX12_tellSeries_52 (fun v ty' w' hp hk' => ?_)
              rcases hp with ⟨c6163, rfl, rfl⟩ | ⟨c6165, rfl, rfl⟩
              · skip
                rw [show (A6156 2 (I6156 4).toNatClampNeg) = (A 2 (I4688 4).toNatClampNeg) from (by rw [show I6156 4 = (I4688 4) from (hI6156 4 rfl)]; exact ((congrFun (hA6156 2 rfl) _).trans (congrFun (hA4688 2 rfl) _)))] at c6163
                show GW κ 2 0 0 (wM r g I6156 A6156 L6156) 55 [(0, .ref (r 0))] [.int 0]
                refine g_istore_n (lv' := [(1, .int 0), (0, .ref (r 0))]) hk dX12_tellSeries_55 (by decide) rfl ?_
                refine g_iload_n hk dX12_tellSeries_56 rfl ?_
                refine g_if_eq (tgt := 64) (a := 0) hk dX12_tellSeries_57 (by decide) rfl (fun _ => ?_) (fun z9 => absurd (show (0 : Int) = (0 : Int) from by decide) z9)
                refine g_aload_n hk dX12_tellSeries_64 rfl ?_
                refine gM_r0_27 hk hin12 (List.mem_cons_of_mem _ (List.mem_append_left _ (List.mem_of_getElem? (i := 14) rfl))) dX12_tellSeries_65 ?_
                refine g_sipush (v := 160) hk dX12_tellSeries_68 (by decide) ?_
                refine g_aload_n hk dX12_tellSeries_71 rfl ?_
                refine gM_i16 (v := (I 16)) hk hin12 (List.mem_cons_of_mem _ (List.mem_append_left _ (List.mem_of_getElem? (i := 13) rfl))) dX12_tellSeries_72 ((hI6156 16 rfl).trans (hI4688 16 rfl)) ?_
                by_cases c6167 : (I 16).toInt = 1
                · have ec6167 : (I 16) = 1 := Int32.toInt_inj.mp c6167
                  rw [ec6167]
                  show GW κ 2 0 0 (wM r g I6156 A6156 L6156) 75 [(1, .int 0), (0, .ref (r 0))] [.int 1, .int 160, .ref (r 10)]
                  refine g_imul hk dX12_tellSeries_75 ?_
                  refine g_norm (v := 160) (by decide) ?_
                  refine g_aload_n hk dX12_tellSeries_76 rfl ?_
                  refine gM_r0_26 hk hin12 (List.mem_cons_of_mem _ (List.mem_append_left _ (List.mem_of_getElem? (i := 12) rfl))) dX12_tellSeries_77 ?_
                  refine g_aload_n hk dX12_tellSeries_80 rfl ?_
                  refine gM_i16 (v := (I 16)) hk hin12 (List.mem_cons_of_mem _ (List.mem_append_left _ (List.mem_of_getElem? (i := 13) rfl))) dX12_tellSeries_81 ((hI6156 16 rfl).trans (hI4688 16 rfl)) ?_
                  by_cases c6168 : (I 16).toInt = 1
                  · have ec6168 : (I 16) = 1 := Int32.toInt_inj.mp c6168
                    rw [ec6168]
                    show GW κ 2 0 0 (wM r g I6156 A6156 L6156) 84 [(1, .int 0), (0, .ref (r 0))] [.int 1, .ref (r 9), .int 160, .ref (r 10)]
                    refine lM_8 (v := (A4688 8 1)) hk (vp_in_iff.mpr ⟨by decide, by decide⟩) (congrFun (hA6156 8 rfl) _) dX12_tellSeries_84 ?_
                    refine g_iadd hk dX12_tellSeries_85 ?_
                    refine g_topi (fun y6169 ey6169 => ?_)
                    have hy6169 : y6169.toInt = 160 + (A4688 8 1).toInt := i32_add ey6169 rfl rfl (by omega) (by omega)
                    refine g_iload_n hk dX12_tellSeries_86 rfl ?_
                    refine g_if_eq (tgt := 95) (a := 0) hk dX12_tellSeries_87 (by decide) rfl (fun _ => ?_) (fun z9 => absurd (show (0 : Int) = (0 : Int) from by decide) z9)
                    refine g_aload_n hk dX12_tellSeries_95 rfl ?_
                    refine g_callV (n := 0) hk (j132_X12_readingTold l D zt r g I6156 A6156 L6156  hV6156) (SP.same _) (fun _ h => h) (gi_V (List.mem_cons_of_mem _ (List.mem_append_left _ (List.mem_of_getElem? (i := 15) rfl))) (List.mem_cons_of_mem _ (List.mem_append_left _ (List.mem_of_getElem? (i := 16) rfl))) (List.mem_cons_of_mem _ (List.mem_append_left _ (List.mem_of_getElem? (i := 17) rfl))) (List.mem_cons_of_mem _ (List.mem_append_left _ (List.mem_of_getElem? (i := 4) rfl))) (gi_sub (fun w h => (List.mem_cons_of_mem _ (List.mem_append_right _ (List.mem_append_right _ (List.mem_append_right _ (List.mem_append_right _ (List.mem_append_right _ (List.mem_append_left _ h)))))))) zg_j132_X12_readingTold)) rfl rfl rfl (by decide +kernel) ⟨Nat.le_of_ble_eq_true rfl, Nat.le_of_ble_eq_true rfl⟩ 0 rfl rfl rfl rfl (Nat.le_of_ble_eq_true rfl) ⟨Nat.le_of_ble_eq_true rfl, Nat.le_of_ble_eq_true rfl⟩ dX12_tellSeries_96 (fun v ty' w' hp hk' => ?_)
                    obtain ⟨I6171, A6171, L6171, hI6171, hA6171, hV6171, y6170, r6172, r6173, r6174, r6175, rfl, rfl⟩ := hp
                    have f6176 := IvM_f4 hV6171
                    rw [show (I6156 4) = (I4688 4) from (hI6156 4 rfl)] at r6172
                    have f6177 := IvM_f6 hV6171
                    have f6178 := IvM_f8 hV6171
                    rw [show (I6156 8) = (I4688 8) from (hI6156 8 rfl)] at r6174
                    rw [show (I6156 4) = (I4688 4) from (hI6156 4 rfl)] at r6175
                    show GW κ 2 0 0 (wM r g I6171 A6171 L6171) 99 [(1, .int 0), (0, .ref (r 0))] [.int y6170, .int y6169, .ref (r 10)]
                    refine sM_9 (j := y6169.toNatClampNeg) hk (vp_in_iff.mpr ⟨by omega, by omega⟩) rfl dX12_tellSeries_99 ?_
                    refine g_aload_n hk dX12_tellSeries_100 rfl ?_
                    refine gM_i6 (v := (I6171 6)) hk hin12 (List.mem_cons_of_mem _ (List.mem_append_left _ (List.mem_of_getElem? (i := 11) rfl))) dX12_tellSeries_101 rfl ?_
                    refine g_if_le (tgt := 108) (a := (I6171 6).toInt) hk dX12_tellSeries_104 (by decide) rfl (fun c6179 => ?_) (fun c6179 => ?_)
                    · skip
                      refine g_aload_n hk dX12_tellSeries_108 rfl ?_
                      refine gM_r0_26 hk hin12 (List.mem_cons_of_mem _ (List.mem_append_left _ (List.mem_of_getElem? (i := 12) rfl))) dX12_tellSeries_109 ?_
                      refine g_aload_n hk dX12_tellSeries_112 rfl ?_
                      refine gM_i16 (v := (I 16)) hk hin12 (List.mem_cons_of_mem _ (List.mem_append_left _ (List.mem_of_getElem? (i := 13) rfl))) dX12_tellSeries_113 ((hI6171 16 rfl).trans ((hI6156 16 rfl).trans (hI4688 16 rfl))) ?_
                      by_cases c6180 : (I 16).toInt = 1
                      · have ec6180 : (I 16) = 1 := Int32.toInt_inj.mp c6180
                        rw [ec6180]
                        show GW κ 2 0 0 (wM r g I6171 (up3 A6171 9 (y6169.toNatClampNeg) y6170) L6171) 116 [(1, .int 0), (0, .ref (r 0))] [.int 1, .ref (r 9)]
                        refine g_dup2 hk dX12_tellSeries_116 rfl rfl ?_
                        refine lM_8 (v := (A4688 8 1)) hk (vp_in_iff.mpr ⟨by decide, by decide⟩) ((congrFun (hA6171 8 rfl) _).trans (congrFun (hA6156 8 rfl) _)) dX12_tellSeries_117 ?_
                        refine g_iconst (v := 1) hk dX12_tellSeries_118 (by decide) ?_
                        refine g_iadd hk dX12_tellSeries_119 ?_
                        refine g_topi (fun y6181 ey6181 => ?_)
                        have hy6181 : y6181.toInt = (A4688 8 1).toInt + 1 := i32_add ey6181 rfl rfl (by omega) (by omega)
                        refine sM_8 (j := 1) hk (vp_in_iff.mpr ⟨by decide, by decide⟩) (by decide) dX12_tellSeries_120 ?_
                        have f6182 := IvM_s8_0 hV6171
                        have f6183 := IvM_s8_1 hV6171
                        refine g_aload_n hk dX12_tellSeries_121 rfl ?_
                        refine g_dup hk dX12_tellSeries_122 rfl ?_
                        refine gM_i11 (v := (I4688 11)) hk hin12 (List.mem_cons_of_mem _ (List.mem_append_left _ (List.mem_of_getElem? (i := 0) rfl))) dX12_tellSeries_123 ((hI6171 11 rfl).trans (hI6156 11 rfl)) ?_
                        refine g_iconst (v := 1) hk dX12_tellSeries_126 (by decide) ?_
                        have b6184l := Int32.le_toInt (I4688 11)
                        have b6184h := Int32.toInt_lt (I4688 11)
                        refine g_iadd hk dX12_tellSeries_127 ?_
                        refine g_topi (fun y6185 ey6185 => ?_)
                        refine pM_i11 hk hin12 (List.mem_cons_of_mem _ (List.mem_append_left _ (List.mem_of_getElem? (i := 0) rfl))) dX12_tellSeries_128 ?_
                        refine g_goto (tgt := 5) hk dX12_tellSeries_131 (by decide) ?_
                        exact g_lv (List.forall_mem_cons.mpr ⟨List.mem_of_getElem? (i := 1) rfl, (fun _ h => absurd h List.not_mem_nil)⟩) (ih5724 (upd I6171 11 y6185) (up3 (up3 A6171 9 (y6169.toNatClampNeg) y6170) 8 1 y6181) L6171 (show Md [4, 6, 7, 8, 9, 11, 12, 13] (upd I 11 0) (upd I6171 11 y6185) from Md.tr hI4688 (show Md [4, 6, 7, 8, 9, 11, 12, 13] I4688 (upd I6171 11 y6185) from (Md.up (Md.tr (Md.tr Md.rf hI6156 rfl) hI6171 rfl) rfl)) rfl) (show Md [8, 9] A (up3 (up3 A6171 9 (y6169.toNatClampNeg) y6170) 8 1 y6181) from Md.tr hA4688 (show Md [8, 9] A4688 (up3 (up3 A6171 9 (y6169.toNatClampNeg) y6170) 8 1 y6181) from (Md.up3 (Md.up3 (Md.tr (Md.tr Md.rf hA6156 rfl) hA6171 rfl) rfl) rfl)) rfl) ⟨(IvM_f1 (I := I6171) (A := A6171) hV6171), (IvM_f2 (I := I6171) (A := A6171) hV6171), (IvM_f3 (I := I6171) (A := A6171) hV6171), (IvM_f4 (I := I6171) (A := A6171) hV6171), (IvM_f6 (I := I6171) (A := A6171) hV6171), (IvM_f8 (I := I6171) (A := A6171) hV6171), (IvM_f15 (I := I6171) (A := A6171) hV6171), (IvM_f16 (I := I6171) (A := A6171) hV6171), (IvM_f17 (I := I6171) (A := A6171) hV6171), (IvM_f18 (I := I6171) (A := A6171) hV6171), (IvM_f22 (I := I6171) (A := A6171) hV6171), (IvM_f23 (I := I6171) (A := A6171) hV6171), (IvM_f24 (I := I6171) (A := A6171) hV6171), (IvM_a11 (I := I6171) (A := A6171) hV6171), (IvM_a26 (I := I6171) (A := A6171) hV6171), (show 0 ≤ ((up3 (up3 A6171 9 (y6169.toNatClampNeg) y6170) 8 1 y6181) 8 0).toInt ∧ ((up3 (up3 A6171 9 (y6169.toNatClampNeg) y6170) 8 1 y6181) 8 0).toInt ≤ 160 from by rw [show (up3 (up3 A6171 9 (y6169.toNatClampNeg) y6170) 8 1 y6181) 8 0 = (A6171 8 0) from rfl]; exact ⟨by omega, by omega⟩), (show 0 ≤ ((up3 (up3 A6171 9 (y6169.toNatClampNeg) y6170) 8 1 y6181) 8 1).toInt ∧ ((up3 (up3 A6171 9 (y6169.toNatClampNeg) y6170) 8 1 y6181) 8 1).toInt ≤ 160 from by rw [show (up3 (up3 A6171 9 (y6169.toNatClampNeg) y6170) 8 1 y6181) 8 1 = y6181 from rfl]; exact ⟨by omega, by omega⟩), (IvM_s10_0 (I := I6171) (A := A6171) hV6171), (IvM_s10_1 (I := I6171) (A := A6171) hV6171), (IvM_s17_0 (I := I6171) (A := A6171) hV6171), (IvM_s17_164 (I := I6171) (A := A6171) hV6171), (IvM_lv (I := I6171) (A := A6171) hV6171), (IvM_sd (I := I6171) (A := A6171) hV6171), (IvM_nq (I := I6171) (A := A6171) hV6171), (IvM_hr (I := I6171) (A := A6171) hV6171), (IvM_hh (I := I6171) (A := A6171) hV6171), trivial⟩ (by first | (rw [show ((upd I6171 11 y6185) 4) = (I6171 4) from rfl] <;> omega) | omega) (by first | (rw [show ((upd I6171 11 y6185) 6) = (I6171 6) from rfl] <;> omega) | omega) (by first | (rw [show ((upd I6171 11 y6185) 8) = (I6171 8) from rfl] <;> omega) | omega) (by first | (rw [show ((upd I6171 11 y6185) 4) = (I6171 4) from rfl] <;> omega) | omega) (by omega))
                      exfalso; omega
                    · skip
                      have f6186 := IvM_f4 hIv
                      have f6187 := IvM_f6 hIv
                      have f6188 := IvM_f8 hIv
                      exact g_vret hk hR ⟨I6171, (up3 A6171 9 (y6169.toNatClampNeg) y6170), L6171, (show Md [4, 6, 7, 8, 9, 11, 12, 13] I I6171 from (Md.tr (Md.tr (Md.tr (Md.up Md.rf rfl) hI4688 rfl) hI6156 rfl) hI6171 rfl)), (show Md [8, 9] A (up3 A6171 9 (y6169.toNatClampNeg) y6170) from (Md.up3 (Md.tr (Md.tr (Md.tr Md.rf hA4688 rfl) hA6156 rfl) hA6171 rfl) rfl)), ⟨(IvM_f1 (I := I6171) (A := A6171) hV6171), (IvM_f2 (I := I6171) (A := A6171) hV6171), (IvM_f3 (I := I6171) (A := A6171) hV6171), (IvM_f4 (I := I6171) (A := A6171) hV6171), (IvM_f6 (I := I6171) (A := A6171) hV6171), (IvM_f8 (I := I6171) (A := A6171) hV6171), (IvM_f15 (I := I6171) (A := A6171) hV6171), (IvM_f16 (I := I6171) (A := A6171) hV6171), (IvM_f17 (I := I6171) (A := A6171) hV6171), (IvM_f18 (I := I6171) (A := A6171) hV6171), (IvM_f22 (I := I6171) (A := A6171) hV6171), (IvM_f23 (I := I6171) (A := A6171) hV6171), (IvM_f24 (I := I6171) (A := A6171) hV6171), (IvM_a11 (I := I6171) (A := A6171) hV6171), (IvM_a26 (I := I6171) (A := A6171) hV6171), (IvM_s8_0 (I := I6171) (A := A6171) hV6171), (IvM_s8_1 (I := I6171) (A := A6171) hV6171), (IvM_s10_0 (I := I6171) (A := A6171) hV6171), (IvM_s10_1 (I := I6171) (A := A6171) hV6171), (IvM_s17_0 (I := I6171) (A := A6171) hV6171), (IvM_s17_164 (I := I6171) (A := A6171) hV6171), (IvM_lv (I := I6171) (A := A6171) hV6171), (IvM_sd (I := I6171) (A := A6171) hV6171), (IvM_nq (I := I6171) (A := A6171) hV6171), (IvM_hr (I := I6171) (A := A6171) hV6171), (IvM_hh (I := I6171) (A := A6171) hV6171), trivial⟩, (by omega), (by omega), (by omega), rfl, rfl⟩ dX12_tellSeries_107
                  exfalso; omega
                exfalso; omega
              · skip
                rw [show (A6156 2 (I6156 4).toNatClampNeg) = (A 2 (I4688 4).toNatClampNeg) from (by rw [show I6156 4 = (I4688 4) from (hI6156 4 rfl)]; exact ((congrFun (hA6156 2 rfl) _).trans (congrFun (hA4688 2 rfl) _)))] at c6165
                show GW κ 2 0 0 (wM r g I6156 A6156 L6156) 55 [(0, .ref (r 0))] [.int 1]
                refine g_istore_n (lv' := [(1, .int 1), (0, .ref (r 0))]) hk dX12_tellSeries_55 (by decide) rfl ?_
                refine g_iload_n hk dX12_tellSeries_56 rfl ?_
                refine g_if_eq (tgt := 64) (a := 1) hk dX12_tellSeries_57 (by decide) rfl (fun z9 => absurd z9 (show ¬ ((1 : Int) = (0 : Int)) from by decide)) (fun _ => ?_)
                refine g_aload_n hk dX12_tellSeries_60 rfl ?_
                refine g_callV (n := 0) hk (j127_X12_goesOn l D zt r g I6156 A6156 L6156  hV6156) (SP.same _) (fun _ h => h) (gi_V (List.mem_cons_of_mem _ (List.mem_append_left _ (List.mem_of_getElem? (i := 18) rfl))) (List.mem_cons_of_mem _ (List.mem_append_left _ (List.mem_of_getElem? (i := 19) rfl))) (List.mem_cons_of_mem _ (List.mem_append_left _ (List.mem_of_getElem? (i := 20) rfl))) (List.mem_cons_of_mem _ (List.mem_append_left _ (List.mem_of_getElem? (i := 4) rfl))) (gi_sub (fun w h => (List.mem_cons_of_mem _ (List.mem_append_right _ (List.mem_append_right _ (List.mem_append_right _ (List.mem_append_right _ (List.mem_append_right _ (List.mem_append_right _ (List.mem_append_left _ h))))))))) zg_j127_X12_goesOn)) rfl rfl rfl (by decide +kernel) ⟨Nat.le_of_ble_eq_true rfl, Nat.le_of_ble_eq_true rfl⟩ 0 rfl rfl rfl rfl (Nat.le_of_ble_eq_true rfl) ⟨Nat.le_of_ble_eq_true rfl, Nat.le_of_ble_eq_true rfl⟩ dX12_tellSeries_61 (fun v ty' w' hp hk' => ?_)
                obtain ⟨I6190, A6190, L6190, hI6190, hA6190, hV6190, r6191, r6192, r6193, r6194, rfl, rfl⟩ := hp
                have f6195 := IvM_f4 hV6190
                rw [show (I6156 4) = (I4688 4) from (hI6156 4 rfl)] at r6191
                have f6196 := IvM_f6 hV6190
                rw [show (I6156 8) = (I4688 8) from (hI6156 8 rfl), show (I6190 8) = (I4688 8) from ((hI6190 8 rfl).trans (hI6156 8 rfl))] at r6193
                rw [show (I6156 4) = (I4688 4) from (hI6156 4 rfl)] at r6194
                show GW κ 2 0 0 (wM r g I6190 A6190 L6190) 64 [(1, .int 1), (0, .ref (r 0))] []
                refine g_aload_n hk dX12_tellSeries_64 rfl ?_
                refine gM_r0_27 hk hin12 (List.mem_cons_of_mem _ (List.mem_append_left _ (List.mem_of_getElem? (i := 14) rfl))) dX12_tellSeries_65 ?_
                refine g_sipush (v := 160) hk dX12_tellSeries_68 (by decide) ?_
                refine g_aload_n hk dX12_tellSeries_71 rfl ?_
                refine gM_i16 (v := (I 16)) hk hin12 (List.mem_cons_of_mem _ (List.mem_append_left _ (List.mem_of_getElem? (i := 13) rfl))) dX12_tellSeries_72 ((hI6190 16 rfl).trans ((hI6156 16 rfl).trans (hI4688 16 rfl))) ?_
                by_cases c6197 : (I 16).toInt = 1
                · have ec6197 : (I 16) = 1 := Int32.toInt_inj.mp c6197
                  rw [ec6197]
                  show GW κ 2 0 0 (wM r g I6190 A6190 L6190) 75 [(1, .int 1), (0, .ref (r 0))] [.int 1, .int 160, .ref (r 10)]
                  refine g_imul hk dX12_tellSeries_75 ?_
                  refine g_norm (v := 160) (by decide) ?_
                  refine g_aload_n hk dX12_tellSeries_76 rfl ?_
                  refine gM_r0_26 hk hin12 (List.mem_cons_of_mem _ (List.mem_append_left _ (List.mem_of_getElem? (i := 12) rfl))) dX12_tellSeries_77 ?_
                  refine g_aload_n hk dX12_tellSeries_80 rfl ?_
                  refine gM_i16 (v := (I 16)) hk hin12 (List.mem_cons_of_mem _ (List.mem_append_left _ (List.mem_of_getElem? (i := 13) rfl))) dX12_tellSeries_81 ((hI6190 16 rfl).trans ((hI6156 16 rfl).trans (hI4688 16 rfl))) ?_
                  by_cases c6198 : (I 16).toInt = 1
                  · have ec6198 : (I 16) = 1 := Int32.toInt_inj.mp c6198
                    rw [ec6198]
                    show GW κ 2 0 0 (wM r g I6190 A6190 L6190) 84 [(1, .int 1), (0, .ref (r 0))] [.int 1, .ref (r 9), .int 160, .ref (r 10)]
                    refine lM_8 (v := (A4688 8 1)) hk (vp_in_iff.mpr ⟨by decide, by decide⟩) ((congrFun (hA6190 8 rfl) _).trans (congrFun (hA6156 8 rfl) _)) dX12_tellSeries_84 ?_
                    refine g_iadd hk dX12_tellSeries_85 ?_
                    refine g_topi (fun y6199 ey6199 => ?_)
                    have hy6199 : y6199.toInt = 160 + (A4688 8 1).toInt := i32_add ey6199 rfl rfl (by omega) (by omega)
                    refine g_iload_n hk dX12_tellSeries_86 rfl ?_
                    refine g_if_eq (tgt := 95) (a := 1) hk dX12_tellSeries_87 (by decide) rfl (fun z9 => absurd z9 (show ¬ ((1 : Int) = (0 : Int)) from by decide)) (fun _ => ?_)
                    refine g_ldc (v := 100000) hk (List.mem_cons_of_mem _ (List.mem_append_left _ (List.mem_of_getElem? (i := 21) rfl))) dX12_tellSeries_90 ?_
                    refine g_goto (tgt := 99) hk dX12_tellSeries_92 (by decide) ?_
                    have k6200 : (100000 : Int32).toInt = 100000 := rfl
                    refine sM_9 (j := y6199.toNatClampNeg) hk (vp_in_iff.mpr ⟨by omega, by omega⟩) rfl dX12_tellSeries_99 ?_
                    refine g_aload_n hk dX12_tellSeries_100 rfl ?_
                    refine gM_i6 (v := (I6190 6)) hk hin12 (List.mem_cons_of_mem _ (List.mem_append_left _ (List.mem_of_getElem? (i := 11) rfl))) dX12_tellSeries_101 rfl ?_
                    refine g_if_le (tgt := 108) (a := (I6190 6).toInt) hk dX12_tellSeries_104 (by decide) rfl (fun c6201 => ?_) (fun c6201 => ?_)
                    · skip
                      refine g_aload_n hk dX12_tellSeries_108 rfl ?_
                      refine gM_r0_26 hk hin12 (List.mem_cons_of_mem _ (List.mem_append_left _ (List.mem_of_getElem? (i := 12) rfl))) dX12_tellSeries_109 ?_
                      refine g_aload_n hk dX12_tellSeries_112 rfl ?_
                      refine gM_i16 (v := (I 16)) hk hin12 (List.mem_cons_of_mem _ (List.mem_append_left _ (List.mem_of_getElem? (i := 13) rfl))) dX12_tellSeries_113 ((hI6190 16 rfl).trans ((hI6156 16 rfl).trans (hI4688 16 rfl))) ?_
                      by_cases c6202 : (I 16).toInt = 1
                      · have ec6202 : (I 16) = 1 := Int32.toInt_inj.mp c6202
                        rw [ec6202]
                        show GW κ 2 0 0 (wM r g I6190 (up3 A6190 9 (y6199.toNatClampNeg) 100000) L6190) 116 [(1, .int 1), (0, .ref (r 0))] [.int 1, .ref (r 9)]
                        refine g_dup2 hk dX12_tellSeries_116 rfl rfl ?_
                        refine lM_8 (v := (A4688 8 1)) hk (vp_in_iff.mpr ⟨by decide, by decide⟩) ((congrFun (hA6190 8 rfl) _).trans (congrFun (hA6156 8 rfl) _)) dX12_tellSeries_117 ?_
                        refine g_iconst (v := 1) hk dX12_tellSeries_118 (by decide) ?_
                        refine g_iadd hk dX12_tellSeries_119 ?_
                        refine g_topi (fun y6203 ey6203 => ?_)
                        have hy6203 : y6203.toInt = (A4688 8 1).toInt + 1 := i32_add ey6203 rfl rfl (by omega) (by omega)
                        refine sM_8 (j := 1) hk (vp_in_iff.mpr ⟨by decide, by decide⟩) (by decide) dX12_tellSeries_120 ?_
                        have f6204 := IvM_s8_0 hV6190
                        have f6205 := IvM_s8_1 hV6190
                        refine g_aload_n hk dX12_tellSeries_121 rfl ?_
                        refine g_dup hk dX12_tellSeries_122 rfl ?_
                        refine gM_i11 (v := (I4688 11)) hk hin12 (List.mem_cons_of_mem _ (List.mem_append_left _ (List.mem_of_getElem? (i := 0) rfl))) dX12_tellSeries_123 ((hI6190 11 rfl).trans (hI6156 11 rfl)) ?_
                        refine g_iconst (v := 1) hk dX12_tellSeries_126 (by decide) ?_
                        have b6206l := Int32.le_toInt (I4688 11)
                        have b6206h := Int32.toInt_lt (I4688 11)
                        refine g_iadd hk dX12_tellSeries_127 ?_
                        refine g_topi (fun y6207 ey6207 => ?_)
                        refine pM_i11 hk hin12 (List.mem_cons_of_mem _ (List.mem_append_left _ (List.mem_of_getElem? (i := 0) rfl))) dX12_tellSeries_128 ?_
                        refine g_goto (tgt := 5) hk dX12_tellSeries_131 (by decide) ?_
                        exact g_lv (List.forall_mem_cons.mpr ⟨List.mem_of_getElem? (i := 1) rfl, (fun _ h => absurd h List.not_mem_nil)⟩) (ih5724 (upd I6190 11 y6207) (up3 (up3 A6190 9 (y6199.toNatClampNeg) 100000) 8 1 y6203) L6190 (show Md [4, 6, 7, 8, 9, 11, 12, 13] (upd I 11 0) (upd I6190 11 y6207) from Md.tr hI4688 (show Md [4, 6, 7, 8, 9, 11, 12, 13] I4688 (upd I6190 11 y6207) from (Md.up (Md.tr (Md.tr Md.rf hI6156 rfl) hI6190 rfl) rfl)) rfl) (show Md [8, 9] A (up3 (up3 A6190 9 (y6199.toNatClampNeg) 100000) 8 1 y6203) from Md.tr hA4688 (show Md [8, 9] A4688 (up3 (up3 A6190 9 (y6199.toNatClampNeg) 100000) 8 1 y6203) from (Md.up3 (Md.up3 (Md.tr (Md.tr Md.rf hA6156 rfl) hA6190 rfl) rfl) rfl)) rfl) ⟨(IvM_f1 (I := I6190) (A := A6190) hV6190), (IvM_f2 (I := I6190) (A := A6190) hV6190), (IvM_f3 (I := I6190) (A := A6190) hV6190), (IvM_f4 (I := I6190) (A := A6190) hV6190), (IvM_f6 (I := I6190) (A := A6190) hV6190), (IvM_f8 (I := I6190) (A := A6190) hV6190), (IvM_f15 (I := I6190) (A := A6190) hV6190), (IvM_f16 (I := I6190) (A := A6190) hV6190), (IvM_f17 (I := I6190) (A := A6190) hV6190), (IvM_f18 (I := I6190) (A := A6190) hV6190), (IvM_f22 (I := I6190) (A := A6190) hV6190), (IvM_f23 (I := I6190) (A := A6190) hV6190), (IvM_f24 (I := I6190) (A := A6190) hV6190), (IvM_a11 (I := I6190) (A := A6190) hV6190), (IvM_a26 (I := I6190) (A := A6190) hV6190), (show 0 ≤ ((up3 (up3 A6190 9 (y6199.toNatClampNeg) 100000) 8 1 y6203) 8 0).toInt ∧ ((up3 (up3 A6190 9 (y6199.toNatClampNeg) 100000) 8 1 y6203) 8 0).toInt ≤ 160 from by rw [show (up3 (up3 A6190 9 (y6199.toNatClampNeg) 100000) 8 1 y6203) 8 0 = (A6190 8 0) from rfl]; exact ⟨by omega, by omega⟩), (show 0 ≤ ((up3 (up3 A6190 9 (y6199.toNatClampNeg) 100000) 8 1 y6203) 8 1).toInt ∧ ((up3 (up3 A6190 9 (y6199.toNatClampNeg) 100000) 8 1 y6203) 8 1).toInt ≤ 160 from by rw [show (up3 (up3 A6190 9 (y6199.toNatClampNeg) 100000) 8 1 y6203) 8 1 = y6203 from rfl]; exact ⟨by omega, by omega⟩), (IvM_s10_0 (I := I6190) (A := A6190) hV6190), (IvM_s10_1 (I := I6190) (A := A6190) hV6190), (IvM_s17_0 (I := I6190) (A := A6190) hV6190), (IvM_s17_164 (I := I6190) (A := A6190) hV6190), (IvM_lv (I := I6190) (A := A6190) hV6190), (IvM_sd (I := I6190) (A := A6190) hV6190), (IvM_nq (I := I6190) (A := A6190) hV6190), (IvM_hr (I := I6190) (A := A6190) hV6190), (IvM_hh (I := I6190) (A := A6190) hV6190), trivial⟩ (by first | (rw [show ((upd I6190 11 y6207) 4) = (I6190 4) from rfl] <;> omega) | omega) (by first | (rw [show ((upd I6190 11 y6207) 6) = (I6190 6) from rfl] <;> omega) | omega) (by first | (rw [show ((upd I6190 11 y6207) 8) = (I4688 8) from ((hI6190 8 rfl).trans (hI6156 8 rfl))] <;> omega) | omega) (by first | (rw [show ((upd I6190 11 y6207) 4) = (I6190 4) from rfl] <;> omega) | omega) (by omega))
                      exfalso; omega
                    · skip
                      have f6208 := IvM_f4 hIv
                      have f6209 := IvM_f6 hIv
                      have f6210 := IvM_f8 hIv
                      exact g_vret hk hR ⟨I6190, (up3 A6190 9 (y6199.toNatClampNeg) 100000), L6190, (show Md [4, 6, 7, 8, 9, 11, 12, 13] I I6190 from (Md.tr (Md.tr (Md.tr (Md.up Md.rf rfl) hI4688 rfl) hI6156 rfl) hI6190 rfl)), (show Md [8, 9] A (up3 A6190 9 (y6199.toNatClampNeg) 100000) from (Md.up3 (Md.tr (Md.tr (Md.tr Md.rf hA4688 rfl) hA6156 rfl) hA6190 rfl) rfl)), ⟨(IvM_f1 (I := I6190) (A := A6190) hV6190), (IvM_f2 (I := I6190) (A := A6190) hV6190), (IvM_f3 (I := I6190) (A := A6190) hV6190), (IvM_f4 (I := I6190) (A := A6190) hV6190), (IvM_f6 (I := I6190) (A := A6190) hV6190), (IvM_f8 (I := I6190) (A := A6190) hV6190), (IvM_f15 (I := I6190) (A := A6190) hV6190), (IvM_f16 (I := I6190) (A := A6190) hV6190), (IvM_f17 (I := I6190) (A := A6190) hV6190), (IvM_f18 (I := I6190) (A := A6190) hV6190), (IvM_f22 (I := I6190) (A := A6190) hV6190), (IvM_f23 (I := I6190) (A := A6190) hV6190), (IvM_f24 (I := I6190) (A := A6190) hV6190), (IvM_a11 (I := I6190) (A := A6190) hV6190), (IvM_a26 (I := I6190) (A := A6190) hV6190), (IvM_s8_0 (I := I6190) (A := A6190) hV6190), (IvM_s8_1 (I := I6190) (A := A6190) hV6190), (IvM_s10_0 (I := I6190) (A := A6190) hV6190), (IvM_s10_1 (I := I6190) (A := A6190) hV6190), (IvM_s17_0 (I := I6190) (A := A6190) hV6190), (IvM_s17_164 (I := I6190) (A := A6190) hV6190), (IvM_lv (I := I6190) (A := A6190) hV6190), (IvM_sd (I := I6190) (A := A6190) hV6190), (IvM_nq (I := I6190) (A := A6190) hV6190), (IvM_hr (I := I6190) (A := A6190) hV6190), (IvM_hh (I := I6190) (A := A6190) hV6190), trivial⟩, (by omega), (by omega), (by rw [show (I6190 8) = (I4688 8) from ((hI6190 8 rfl).trans (hI6156 8 rfl))] <;> omega), rfl, rfl⟩ dX12_tellSeries_107
                  exfalso; omega
                exfalso; omega
            · skip
              have f6211 := IvM_f4 hIv
              have f6212 := IvM_f6 hIv
              have f6213 := IvM_f8 hIv
              exact g_vret hk hR ⟨I6156, A6156, L6156, (show Md [4, 6, 7, 8, 9, 11, 12, 13] I I6156 from (Md.tr (Md.tr (Md.up Md.rf rfl) hI4688 rfl) hI6156 rfl)), (show Md [8, 9] A A6156 from (Md.tr (Md.tr Md.rf hA4688 rfl) hA6156 rfl)), hV6156, (by rw [show (I6156 4) = (I4688 4) from (hI6156 4 rfl)] <;> omega), (by omega), (by rw [show (I6156 8) = (I4688 8) from (hI6156 8 rfl)] <;> omega), rfl, rfl⟩ dX12_tellSeries_48
        exfalso; omega
  have f6214 := IvM_f4 hIv
  obtain ⟨n6215, n6215a, n6215b⟩ : ∃ n : Nat, 401 - (I 4).toInt < (n : Int) ∧ 0 < n := ⟨((401 - (I 4).toInt : Int)).toNat + 1, by omega, by omega⟩
  have f6216 := IvM_f6 hIv
  have f6217 := IvM_f8 hIv
  exact lp5721 n6215 (upd I 11 0) A L Md.rf Md.rf ⟨(IvM_f1 (I := I) (A := A) hIv), (IvM_f2 (I := I) (A := A) hIv), (IvM_f3 (I := I) (A := A) hIv), (IvM_f4 (I := I) (A := A) hIv), (IvM_f6 (I := I) (A := A) hIv), (IvM_f8 (I := I) (A := A) hIv), (IvM_f15 (I := I) (A := A) hIv), (IvM_f16 (I := I) (A := A) hIv), (IvM_f17 (I := I) (A := A) hIv), (IvM_f18 (I := I) (A := A) hIv), (IvM_f22 (I := I) (A := A) hIv), (IvM_f23 (I := I) (A := A) hIv), (IvM_f24 (I := I) (A := A) hIv), (IvM_a11 (I := I) (A := A) hIv), (IvM_a26 (I := I) (A := A) hIv), (IvM_s8_0 (I := I) (A := A) hIv), (IvM_s8_1 (I := I) (A := A) hIv), (IvM_s10_0 (I := I) (A := A) hIv), (IvM_s10_1 (I := I) (A := A) hIv), (IvM_s17_0 (I := I) (A := A) hIv), (IvM_s17_164 (I := I) (A := A) hIv), (IvM_lv (I := I) (A := A) hIv), (IvM_sd (I := I) (A := A) hIv), (IvM_nq (I := I) (A := A) hIv), (IvM_hr (I := I) (A := A) hIv), (IvM_hh (I := I) (A := A) hIv), trivial⟩ (by first | (rw [show ((upd I 11 0) 4) = (I 4) from rfl] <;> omega) | omega) (by first | (rw [show ((upd I 11 0) 6) = (I 6) from rfl] <;> omega) | omega) (by first | (rw [show ((upd I 11 0) 8) = (I 8) from rfl] <;> omega) | omega) (by first | exact n6215a | (rw [show ((upd I 11 0) 4) = (I 4) from rfl] <;> exact n6215a)) n6215b
