def wo_j129_X12_tellSeries : List Cond := [Cond.fieldLink RX12 170 "WarpDeskModel" "here" "I", Cond.methodLink RX12 235 yX12_isReading, Cond.instanceMethod yX12_isReading, Cond.selects RX12 yX12_isReading yX12_isReading, Cond.initialized RX12, Cond.methodLink RX12 188 yX12_is, Cond.instanceMethod yX12_is, Cond.selects RX12 yX12_is yX12_is, Cond.methodLink RX12 216 yX12_must, Cond.instanceMethod yX12_must, Cond.selects RX12 yX12_must yX12_must, Cond.fieldLink RX12 161 "WarpDeskModel" "fault" "I", Cond.fieldLink RX12 43 "WarpDeskModel" "placesTold" "[I", Cond.fieldLink RX12 200 "WarpDeskModel" "side" "I", Cond.fieldLink RX12 46 "WarpDeskModel" "seriesTold" "[I", Cond.methodLink RX12 240 yX12_readingTold, Cond.instanceMethod yX12_readingTold, Cond.selects RX12 yX12_readingTold yX12_readingTold, Cond.methodLink RX12 191 yX12_goesOn, Cond.instanceMethod yX12_goesOn, Cond.selects RX12 yX12_goesOn yX12_goesOn, Cond.constant RX12 239 (100000), Cond.methodLink RX12 185 yX12_fail, Cond.instanceMethod yX12_fail, Cond.selects RX12 yX12_fail yX12_fail]
def wz_j129_X12_tellSeries : List Cond := .code yX12_tellSeries cX12_tellSeries 2 none :: (wo_j129_X12_tellSeries ++ (wsX120 ++ (wz_j130_X12_isReading ++ (wz_j125_X12_is ++ (wz_j131_X12_must ++ (wz_j132_X12_readingTold ++ (wz_j127_X12_goesOn ++ (wz_j128_X12_fail ++ ([] : List Cond)))))))))
theorem zg_j129_X12_tellSeries : ∀ w ∈ wz_j129_X12_tellSeries, goodWord w = true := zg_cons rfl (zg_app (by decide +kernel) (zg_app zgU_wsX120 (zg_app zg_j130_X12_isReading (zg_app zg_j125_X12_is (zg_app zg_j131_X12_must (zg_app zg_j132_X12_readingTold (zg_app zg_j127_X12_goesOn (zg_app zg_j128_X12_fail zg_nil))))))))
theorem zi_j129_X12_tellSeries : ∀ w ∈ wz_j129_X12_tellSeries, w ∈ lw_tbl := zi_cons zw_1602 (zi_app (zi_cons zw_1396 (zi_cons zw_1603 (zi_cons zw_1605 (zi_cons zw_57 (zi_cons zw_115 (zi_cons zw_1583 (zi_cons zw_1585 (zi_cons zw_52 (zi_cons zw_1620 (zi_cons zw_1622 (zi_cons zw_61 (zi_cons zw_1391 (zi_cons zw_1404 (zi_cons zw_1401 (zi_cons zw_1405 (zi_cons zw_1608 (zi_cons zw_1610 (zi_cons zw_58 (zi_cons zw_1591 (zi_cons zw_1593 (zi_cons zw_54 (zi_cons zw_1607 (zi_cons zw_1595 (zi_cons zw_1597 (zi_cons zw_55 zi_nil))))))))))))))))))))))))) (zi_app inX12 (zi_app zi_j130_X12_isReading (zi_app zi_j125_X12_is (zi_app zi_j131_X12_must (zi_app zi_j132_X12_readingTold (zi_app zi_j127_X12_goesOn (zi_app zi_j128_X12_fail zi_nil))))))))
set_option maxHeartbeats 4000000 in
set_option maxRecDepth 100000 in
theorem j129_X12_tellSeries (l : Launch) (D : va_G) (zt : Nat × Nat × Nat × (Nat → Nat) × (Nat → Nat)) (r : Nat → Nat) (g : Nat → ClassId) (I : Nat → Int32) (A : Nat → Nat → Int32) (L : Nat → Nat → Int64) (hIv : IvM I A) : GM l D zt (tyM g) yX12_tellSeries wz_j129_X12_tellSeries ({ frames := 4, cells := 0, slots := 0, locals := 86 } : Room) [.ref (r 0)] (wM r g I A L) (fun v _ w' => ∃ (I' : Nat → Int32) (A' : Nat → Nat → Int32) (L' : Nat → Nat → Int64), Md [4, 6, 7, 8, 9, 11, 12, 13] I I' ∧ Md [8, 9] A A' ∧ IvM I' A' ∧ ((I 4).toInt ≤ (I' 4).toInt) ∧ ((I 6).toInt ≤ (I' 6).toInt) ∧ ((I 8).toInt ≤ 9 * (I' 8).toInt) ∧ v = none ∧ w' = wM r g I' A' L') 0 0 := by
  refine GM.of (cc := cX12_tellSeries) (maxL := 2) (ret := none) (own := RX12) (lv := [(0, .ref (r 0))]) (by decide) rfl rfl (Nat.le_of_ble_eq_true rfl) rfl (fun κ sz hk hR hN => ?_)
  have hin12 : ∀ w ∈ u_ws RX12 TX12 55, w ∈ wz_j129_X12_tellSeries := fun w h => (List.mem_cons_of_mem _ (List.mem_append_right _ (List.mem_append_left _ h)))
  refine g_aload_n hk dX12_tellSeries_0 rfl ?_
  refine g_iconst (v := 0) hk dX12_tellSeries_1 (by decide) ?_
  refine pM_i11 hk hin12 (List.mem_cons_of_mem _ (List.mem_append_left _ (List.mem_of_getElem? (i := 0) rfl))) dX12_tellSeries_2 ?_
  have f5670 := IvM_f4 hIv
  have f5671 := IvM_f6 hIv
  have f5672 := IvM_f8 hIv
  have lp5676 : ∀ (n5677 : Nat) (I4643 : Nat → Int32) (A4643 : Nat → Nat → Int32) (L4643 : Nat → Nat → Int64), (Md [4, 6, 7, 8, 9, 11, 12, 13] (upd I 11 0) I4643) → (Md [8, 9] A A4643) → (IvM I4643 A4643) → ((I 4).toInt ≤ (I4643 4).toInt) → ((I 6).toInt ≤ (I4643 6).toInt) → ((I 8).toInt ≤ 9 * (I4643 8).toInt) → (401 - (I4643 4).toInt < (n5677 : Int)) → (0 < n5677) → GW κ 2 0 0 (wM r g I4643 A4643 L4643) 5 [(0, .ref (r 0))] [] := by
    intro n5677
    induction n5677 with
    | zero =>
      intro I4643 A4643 L4643 hI4643 hA4643 hV4643 h5673 h5674 h5675 m5678 m5678z
      exact absurd m5678z (Nat.lt_irrefl 0)
    | succ n5677 ih5679 =>
      intro I4643 A4643 L4643 hI4643 hA4643 hV4643 h5673 h5674 h5675 m5678 m5678z
      have f5680 := IvM_f4 hV4643
      have f5681 := IvM_f6 hV4643
      have f5682 := IvM_f8 hV4643
      refine g_aload_n hk dX12_tellSeries_5 rfl ?_
      refine g_callV (n := 0) hk (j130_X12_isReading l D zt r g I4643 A4643 L4643  hV4643) (SP.same _) (fun _ h => h) (gi_V (List.mem_cons_of_mem _ (List.mem_append_left _ (List.mem_of_getElem? (i := 1) rfl))) (List.mem_cons_of_mem _ (List.mem_append_left _ (List.mem_of_getElem? (i := 2) rfl))) (List.mem_cons_of_mem _ (List.mem_append_left _ (List.mem_of_getElem? (i := 3) rfl))) (List.mem_cons_of_mem _ (List.mem_append_left _ (List.mem_of_getElem? (i := 4) rfl))) (gi_sub (fun w h => (List.mem_cons_of_mem _ (List.mem_append_right _ (List.mem_append_right _ (List.mem_append_left _ h))))) zg_j130_X12_isReading)) rfl rfl rfl (by decide +kernel) ⟨Nat.le_of_ble_eq_true rfl, Nat.le_of_ble_eq_true rfl⟩ 0 rfl rfl rfl rfl (Nat.le_of_ble_eq_true rfl) ⟨Nat.le_of_ble_eq_true rfl, Nat.le_of_ble_eq_true rfl⟩ dX12_tellSeries_6 (fun v ty' w' hp hk' => ?_)
      rcases hp with ⟨rfl, rfl⟩ | ⟨rfl, rfl⟩
      · skip
        show GW κ 2 0 0 (wM r g I4643 A4643 L4643) 9 [(0, .ref (r 0))] [.int 0]
        refine g_if_ne (tgt := 21) (a := 0) hk dX12_tellSeries_9 (by decide) rfl (fun z9 => absurd z9 (show ¬ ((0 : Int) ≠ (0 : Int)) from by decide)) (fun _ => ?_)
        refine g_aload_n hk dX12_tellSeries_12 rfl ?_
        refine g_bipush (v := 26) hk dX12_tellSeries_13 (by decide) ?_
        have k5685 : (26 : Int32).toInt = 26 := rfl
        refine g_callV (n := 1) hk (j125_X12_is l D zt r g I4643 A4643 L4643 26 hV4643) (SP.same _) (fun _ h => h) (gi_V (List.mem_cons_of_mem _ (List.mem_append_left _ (List.mem_of_getElem? (i := 5) rfl))) (List.mem_cons_of_mem _ (List.mem_append_left _ (List.mem_of_getElem? (i := 6) rfl))) (List.mem_cons_of_mem _ (List.mem_append_left _ (List.mem_of_getElem? (i := 7) rfl))) (List.mem_cons_of_mem _ (List.mem_append_left _ (List.mem_of_getElem? (i := 4) rfl))) (gi_sub (fun w h => (List.mem_cons_of_mem _ (List.mem_append_right _ (List.mem_append_right _ (List.mem_append_right _ (List.mem_append_left _ h)))))) zg_j125_X12_is)) rfl rfl rfl (by decide +kernel) ⟨Nat.le_of_ble_eq_true rfl, Nat.le_of_ble_eq_true rfl⟩ 0 rfl rfl rfl rfl (Nat.le_of_ble_eq_true rfl) ⟨Nat.le_of_ble_eq_true rfl, Nat.le_of_ble_eq_true rfl⟩ dX12_tellSeries_15 (fun v ty' w' hp hk' => ?_)
        rcases hp with ⟨c5686, rfl, rfl⟩ | ⟨c5688, rfl, rfl⟩
        · skip
          rw [show (A4643 2 (I4643 4).toNatClampNeg) = (A 2 (I4643 4).toNatClampNeg) from (congrFun (hA4643 2 rfl) _)] at c5686
          show GW κ 2 0 0 (wM r g I4643 A4643 L4643) 18 [(0, .ref (r 0))] [.int 0]
          refine g_if_eq (tgt := 134) (a := 0) hk dX12_tellSeries_18 (by decide) rfl (fun _ => ?_) (fun z9 => absurd (show (0 : Int) = (0 : Int) from by decide) z9)
          refine g_aload_n hk dX12_tellSeries_134 rfl ?_
          refine g_iconst (v := 4) hk dX12_tellSeries_135 (by decide) ?_
          have k5690 : (4 : Int32).toInt = 4 := rfl
          refine g_callV (n := 1) hk (j131_X12_must l D zt r g I4643 A4643 L4643 4 hV4643) (SP.same _) (fun _ h => h) (gi_V (List.mem_cons_of_mem _ (List.mem_append_left _ (List.mem_of_getElem? (i := 8) rfl))) (List.mem_cons_of_mem _ (List.mem_append_left _ (List.mem_of_getElem? (i := 9) rfl))) (List.mem_cons_of_mem _ (List.mem_append_left _ (List.mem_of_getElem? (i := 10) rfl))) (List.mem_cons_of_mem _ (List.mem_append_left _ (List.mem_of_getElem? (i := 4) rfl))) (gi_sub (fun w h => (List.mem_cons_of_mem _ (List.mem_append_right _ (List.mem_append_right _ (List.mem_append_right _ (List.mem_append_right _ (List.mem_append_left _ h))))))) zg_j131_X12_must)) rfl rfl rfl (by decide +kernel) ⟨Nat.le_of_ble_eq_true rfl, Nat.le_of_ble_eq_true rfl⟩ 0 rfl rfl rfl rfl (Nat.le_of_ble_eq_true rfl) ⟨Nat.le_of_ble_eq_true rfl, Nat.le_of_ble_eq_true rfl⟩ dX12_tellSeries_136 (fun v ty' w' hp hk' => ?_)
          obtain ⟨I5692, A5692, L5692, hI5692, hA5692, hV5692, r5693, r5694, r5695, r5696, r5697, rfl, rfl⟩ := hp
          have f5698 := IvM_f4 hV5692
          have f5699 := IvM_f6 hV5692
          rw [show (I5692 8) = (I4643 8) from (hI5692 8 rfl)] at r5695
          rw [show (A4643 2 (I4643 4).toNatClampNeg) = (A 2 (I4643 4).toNatClampNeg) from (congrFun (hA4643 2 rfl) _)] at r5697
          show GW κ 2 0 0 (wM r g I5692 A5692 L5692) 139 [(0, .ref (r 0))] []
          refine g_aload_n hk dX12_tellSeries_139 rfl ?_
          refine gM_i6 (v := (I5692 6)) hk hin12 (List.mem_cons_of_mem _ (List.mem_append_left _ (List.mem_of_getElem? (i := 11) rfl))) dX12_tellSeries_140 rfl ?_
          refine g_if_ne (tgt := 152) (a := (I5692 6).toInt) hk dX12_tellSeries_143 (by decide) rfl (fun c5700 => ?_) (fun c5700 => ?_)
          · skip
            have f5701 := IvM_f4 hIv
            have f5702 := IvM_f6 hIv
            have f5703 := IvM_f8 hIv
            exact g_vret hk hR ⟨I5692, A5692, L5692, (show Md [4, 6, 7, 8, 9, 11, 12, 13] I I5692 from (Md.tr (Md.tr (Md.up Md.rf rfl) hI4643 rfl) hI5692 rfl)), (show Md [8, 9] A A5692 from (Md.tr (Md.tr Md.rf hA4643 rfl) hA5692 rfl)), hV5692, (by omega), (by omega), (by rw [show (I5692 8) = (I4643 8) from (hI5692 8 rfl)] <;> omega), rfl, rfl⟩ dX12_tellSeries_152
          · skip
            refine g_aload_n hk dX12_tellSeries_146 rfl ?_
            refine g_bipush (v := (-2)) hk dX12_tellSeries_147 (by decide) ?_
            refine pM_i11 hk hin12 (List.mem_cons_of_mem _ (List.mem_append_left _ (List.mem_of_getElem? (i := 0) rfl))) dX12_tellSeries_149 ?_
            have f5704 := IvM_f4 hIv
            have f5705 := IvM_f6 hIv
            have f5706 := IvM_f8 hIv
            exact g_vret hk hR ⟨(upd I5692 11 (-2)), A5692, L5692, (show Md [4, 6, 7, 8, 9, 11, 12, 13] I (upd I5692 11 (-2)) from (Md.up (Md.tr (Md.tr (Md.up Md.rf rfl) hI4643 rfl) hI5692 rfl) rfl)), (show Md [8, 9] A A5692 from (Md.tr (Md.tr Md.rf hA4643 rfl) hA5692 rfl)), ⟨(IvM_f1 (I := I5692) (A := A5692) hV5692), (IvM_f2 (I := I5692) (A := A5692) hV5692), (IvM_f3 (I := I5692) (A := A5692) hV5692), (IvM_f4 (I := I5692) (A := A5692) hV5692), (IvM_f6 (I := I5692) (A := A5692) hV5692), (IvM_f8 (I := I5692) (A := A5692) hV5692), (IvM_f15 (I := I5692) (A := A5692) hV5692), (IvM_f16 (I := I5692) (A := A5692) hV5692), (IvM_f17 (I := I5692) (A := A5692) hV5692), (IvM_f18 (I := I5692) (A := A5692) hV5692), (IvM_f22 (I := I5692) (A := A5692) hV5692), (IvM_f23 (I := I5692) (A := A5692) hV5692), (IvM_f24 (I := I5692) (A := A5692) hV5692), (IvM_a11 (I := I5692) (A := A5692) hV5692), (IvM_a26 (I := I5692) (A := A5692) hV5692), (IvM_s8_0 (I := I5692) (A := A5692) hV5692), (IvM_s8_1 (I := I5692) (A := A5692) hV5692), (IvM_s10_0 (I := I5692) (A := A5692) hV5692), (IvM_s10_1 (I := I5692) (A := A5692) hV5692), (IvM_s17_0 (I := I5692) (A := A5692) hV5692), (IvM_s17_164 (I := I5692) (A := A5692) hV5692), (IvM_lv (I := I5692) (A := A5692) hV5692), (IvM_sd (I := I5692) (A := A5692) hV5692), (IvM_nq (I := I5692) (A := A5692) hV5692), (IvM_hr (I := I5692) (A := A5692) hV5692), (IvM_hh (I := I5692) (A := A5692) hV5692), trivial⟩, (by rw [show ((upd I5692 11 (-2)) 4) = (I5692 4) from rfl] <;> omega), (by rw [show ((upd I5692 11 (-2)) 6) = (I5692 6) from rfl] <;> omega), (by rw [show ((upd I5692 11 (-2)) 8) = (I4643 8) from (hI5692 8 rfl)] <;> omega), rfl, rfl⟩ dX12_tellSeries_152
        · skip
          rw [show (A4643 2 (I4643 4).toNatClampNeg) = (A 2 (I4643 4).toNatClampNeg) from (congrFun (hA4643 2 rfl) _)] at c5688
          show GW κ 2 0 0 (wM r g I4643 A4643 L4643) 18 [(0, .ref (r 0))] [.int 1]
          refine g_if_eq (tgt := 134) (a := 1) hk dX12_tellSeries_18 (by decide) rfl (fun z9 => absurd z9 (show ¬ ((1 : Int) = (0 : Int)) from by decide)) (fun _ => ?_)
          refine g_aload_n hk dX12_tellSeries_21 rfl ?_
          refine gM_r0_26 hk hin12 (List.mem_cons_of_mem _ (List.mem_append_left _ (List.mem_of_getElem? (i := 12) rfl))) dX12_tellSeries_22 ?_
          refine g_aload_n hk dX12_tellSeries_25 rfl ?_
          refine gM_i16 (v := (I 16)) hk hin12 (List.mem_cons_of_mem _ (List.mem_append_left _ (List.mem_of_getElem? (i := 13) rfl))) dX12_tellSeries_26 (hI4643 16 rfl) ?_
          have f5707 := IvM_f16 hIv
          by_cases c5708 : (I 16).toInt = 0
          · have ec5708 : (I 16) = 0 := Int32.toInt_inj.mp c5708
            rw [ec5708]
            show GW κ 2 0 0 (wM r g I4643 A4643 L4643) 29 [(0, .ref (r 0))] [.int 0, .ref (r 9)]
            refine lM_8 (v := (A4643 8 0)) hk (vp_in_iff.mpr ⟨by decide, by decide⟩) rfl dX12_tellSeries_29 ?_
            have f5709 := IvM_s8_0 hV4643
            refine g_sipush (v := 160) hk dX12_tellSeries_30 (by decide) ?_
            refine g_icmp_ne (tgt := 41) (a := (A4643 8 0).toInt) (b := 160) hk dX12_tellSeries_33 (by decide) rfl rfl (fun c5710 => ?_) (fun c5710 => ?_)
            · skip
              refine g_aload_n hk dX12_tellSeries_41 rfl ?_
              refine gM_i6 (v := (I4643 6)) hk hin12 (List.mem_cons_of_mem _ (List.mem_append_left _ (List.mem_of_getElem? (i := 11) rfl))) dX12_tellSeries_42 rfl ?_
              refine g_if_le (tgt := 49) (a := (I4643 6).toInt) hk dX12_tellSeries_45 (by decide) rfl (fun c5711 => ?_) (fun c5711 => ?_)
              · skip
                refine g_aload_n hk dX12_tellSeries_49 rfl ?_
                refine g_bipush (v := 26) hk dX12_tellSeries_50 (by decide) ?_
                refine g_callV (n := 1) hk (j125_X12_is l D zt r g I4643 A4643 L4643 26 hV4643) (SP.same _) (fun _ h => h) (gi_V (List.mem_cons_of_mem _ (List.mem_append_left _ (List.mem_of_getElem? (i := 5) rfl))) (List.mem_cons_of_mem _ (List.mem_append_left _ (List.mem_of_getElem? (i := 6) rfl))) (List.mem_cons_of_mem _ (List.mem_append_left _ (List.mem_of_getElem? (i := 7) rfl))) (List.mem_cons_of_mem _ (List.mem_append_left _ (List.mem_of_getElem? (i := 4) rfl))) (gi_sub (fun w h => (List.mem_cons_of_mem _ (List.mem_append_right _ (List.mem_append_right _ (List.mem_append_right _ (List.mem_append_left _ h)))))) zg_j125_X12_is)) rfl rfl rfl (by decide +kernel) ⟨Nat.le_of_ble_eq_true rfl, Nat.le_of_ble_eq_true rfl⟩ 0 rfl rfl rfl rfl (Nat.le_of_ble_eq_true rfl) ⟨Nat.le_of_ble_eq_true rfl, Nat.le_of_ble_eq_true rfl⟩ dX12_tellSeries_52 (fun v ty' w' hp hk' => ?_)
                rcases hp with ⟨c5712, rfl, rfl⟩ | ⟨c5714, rfl, rfl⟩
                · skip
                  rw [show (A4643 2 (I4643 4).toNatClampNeg) = (A 2 (I4643 4).toNatClampNeg) from (congrFun (hA4643 2 rfl) _)] at c5712
                  show GW κ 2 0 0 (wM r g I4643 A4643 L4643) 55 [(0, .ref (r 0))] [.int 0]
                  refine g_istore_n (lv' := [(1, .int 0), (0, .ref (r 0))]) hk dX12_tellSeries_55 (by decide) rfl ?_
                  refine g_iload_n hk dX12_tellSeries_56 rfl ?_
                  refine g_if_eq (tgt := 64) (a := 0) hk dX12_tellSeries_57 (by decide) rfl (fun _ => ?_) (fun z9 => absurd (show (0 : Int) = (0 : Int) from by decide) z9)
                  refine g_aload_n hk dX12_tellSeries_64 rfl ?_
                  refine gM_r0_27 hk hin12 (List.mem_cons_of_mem _ (List.mem_append_left _ (List.mem_of_getElem? (i := 14) rfl))) dX12_tellSeries_65 ?_
                  refine g_sipush (v := 160) hk dX12_tellSeries_68 (by decide) ?_
                  refine g_aload_n hk dX12_tellSeries_71 rfl ?_
                  refine gM_i16 (v := (I 16)) hk hin12 (List.mem_cons_of_mem _ (List.mem_append_left _ (List.mem_of_getElem? (i := 13) rfl))) dX12_tellSeries_72 (hI4643 16 rfl) ?_
                  by_cases c5716 : (I 16).toInt = 0
                  · have ec5716 : (I 16) = 0 := Int32.toInt_inj.mp c5716
                    rw [ec5716]
                    show GW κ 2 0 0 (wM r g I4643 A4643 L4643) 75 [(1, .int 0), (0, .ref (r 0))] [.int 0, .int 160, .ref (r 10)]
                    refine g_imul hk dX12_tellSeries_75 ?_
                    refine g_norm (v := 0) (by decide) ?_
                    refine g_aload_n hk dX12_tellSeries_76 rfl ?_
                    refine gM_r0_26 hk hin12 (List.mem_cons_of_mem _ (List.mem_append_left _ (List.mem_of_getElem? (i := 12) rfl))) dX12_tellSeries_77 ?_
                    refine g_aload_n hk dX12_tellSeries_80 rfl ?_
                    refine gM_i16 (v := (I 16)) hk hin12 (List.mem_cons_of_mem _ (List.mem_append_left _ (List.mem_of_getElem? (i := 13) rfl))) dX12_tellSeries_81 (hI4643 16 rfl) ?_
                    by_cases c5717 : (I 16).toInt = 0
                    · have ec5717 : (I 16) = 0 := Int32.toInt_inj.mp c5717
                      rw [ec5717]
                      show GW κ 2 0 0 (wM r g I4643 A4643 L4643) 84 [(1, .int 0), (0, .ref (r 0))] [.int 0, .ref (r 9), .int 0, .ref (r 10)]
                      refine lM_8 (v := (A4643 8 0)) hk (vp_in_iff.mpr ⟨by decide, by decide⟩) rfl dX12_tellSeries_84 ?_
                      refine g_iadd hk dX12_tellSeries_85 ?_
                      refine g_topi (fun y5718 ey5718 => ?_)
                      have hy5718 : y5718.toInt = 0 + (A4643 8 0).toInt := i32_add ey5718 rfl rfl (by omega) (by omega)
                      refine g_iload_n hk dX12_tellSeries_86 rfl ?_
                      refine g_if_eq (tgt := 95) (a := 0) hk dX12_tellSeries_87 (by decide) rfl (fun _ => ?_) (fun z9 => absurd (show (0 : Int) = (0 : Int) from by decide) z9)
                      refine g_aload_n hk dX12_tellSeries_95 rfl ?_
                      refine g_callV (n := 0) hk (j132_X12_readingTold l D zt r g I4643 A4643 L4643  hV4643) (SP.same _) (fun _ h => h) (gi_V (List.mem_cons_of_mem _ (List.mem_append_left _ (List.mem_of_getElem? (i := 15) rfl))) (List.mem_cons_of_mem _ (List.mem_append_left _ (List.mem_of_getElem? (i := 16) rfl))) (List.mem_cons_of_mem _ (List.mem_append_left _ (List.mem_of_getElem? (i := 17) rfl))) (List.mem_cons_of_mem _ (List.mem_append_left _ (List.mem_of_getElem? (i := 4) rfl))) (gi_sub (fun w h => (List.mem_cons_of_mem _ (List.mem_append_right _ (List.mem_append_right _ (List.mem_append_right _ (List.mem_append_right _ (List.mem_append_right _ (List.mem_append_left _ h)))))))) zg_j132_X12_readingTold)) rfl rfl rfl (by decide +kernel) ⟨Nat.le_of_ble_eq_true rfl, Nat.le_of_ble_eq_true rfl⟩ 0 rfl rfl rfl rfl (Nat.le_of_ble_eq_true rfl) ⟨Nat.le_of_ble_eq_true rfl, Nat.le_of_ble_eq_true rfl⟩ dX12_tellSeries_96 (fun v ty' w' hp hk' => ?_)
                      obtain ⟨I5720, A5720, L5720, hI5720, hA5720, hV5720, y5719, r5721, r5722, r5723, r5724, rfl, rfl⟩ := hp
                      have f5725 := IvM_f4 hV5720
                      have f5726 := IvM_f6 hV5720
                      have f5727 := IvM_f8 hV5720
                      show GW κ 2 0 0 (wM r g I5720 A5720 L5720) 99 [(1, .int 0), (0, .ref (r 0))] [.int y5719, .int y5718, .ref (r 10)]
                      refine sM_9 (j := y5718.toNatClampNeg) hk (vp_in_iff.mpr ⟨by omega, by omega⟩) rfl dX12_tellSeries_99 ?_
                      refine g_aload_n hk dX12_tellSeries_100 rfl ?_
                      refine gM_i6 (v := (I5720 6)) hk hin12 (List.mem_cons_of_mem _ (List.mem_append_left _ (List.mem_of_getElem? (i := 11) rfl))) dX12_tellSeries_101 rfl ?_
                      refine g_if_le (tgt := 108) (a := (I5720 6).toInt) hk dX12_tellSeries_104 (by decide) rfl (fun c5728 => ?_) (fun c5728 => ?_)
                      · skip
                        refine g_aload_n hk dX12_tellSeries_108 rfl ?_
                        refine gM_r0_26 hk hin12 (List.mem_cons_of_mem _ (List.mem_append_left _ (List.mem_of_getElem? (i := 12) rfl))) dX12_tellSeries_109 ?_
                        refine g_aload_n hk dX12_tellSeries_112 rfl ?_
                        refine gM_i16 (v := (I 16)) hk hin12 (List.mem_cons_of_mem _ (List.mem_append_left _ (List.mem_of_getElem? (i := 13) rfl))) dX12_tellSeries_113 ((hI5720 16 rfl).trans (hI4643 16 rfl)) ?_
                        by_cases c5729 : (I 16).toInt = 0
                        · have ec5729 : (I 16) = 0 := Int32.toInt_inj.mp c5729
                          rw [ec5729]
                          show GW κ 2 0 0 (wM r g I5720 (up3 A5720 9 (y5718.toNatClampNeg) y5719) L5720) 116 [(1, .int 0), (0, .ref (r 0))] [.int 0, .ref (r 9)]
                          refine g_dup2 hk dX12_tellSeries_116 rfl rfl ?_
                          refine lM_8 (v := (A4643 8 0)) hk (vp_in_iff.mpr ⟨by decide, by decide⟩) (congrFun (hA5720 8 rfl) _) dX12_tellSeries_117 ?_
                          refine g_iconst (v := 1) hk dX12_tellSeries_118 (by decide) ?_
                          refine g_iadd hk dX12_tellSeries_119 ?_
                          refine g_topi (fun y5730 ey5730 => ?_)
                          have hy5730 : y5730.toInt = (A4643 8 0).toInt + 1 := i32_add ey5730 rfl rfl (by omega) (by omega)
                          refine sM_8 (j := 0) hk (vp_in_iff.mpr ⟨by decide, by decide⟩) (by decide) dX12_tellSeries_120 ?_
                          have f5731 := IvM_s8_0 hV5720
                          have f5732 := IvM_s8_1 hV5720
                          refine g_aload_n hk dX12_tellSeries_121 rfl ?_
                          refine g_dup hk dX12_tellSeries_122 rfl ?_
                          refine gM_i11 (v := (I4643 11)) hk hin12 (List.mem_cons_of_mem _ (List.mem_append_left _ (List.mem_of_getElem? (i := 0) rfl))) dX12_tellSeries_123 (hI5720 11 rfl) ?_
                          refine g_iconst (v := 1) hk dX12_tellSeries_126 (by decide) ?_
                          have b5733l := Int32.le_toInt (I4643 11)
                          have b5733h := Int32.toInt_lt (I4643 11)
                          refine g_iadd hk dX12_tellSeries_127 ?_
                          refine g_topi (fun y5734 ey5734 => ?_)
                          refine pM_i11 hk hin12 (List.mem_cons_of_mem _ (List.mem_append_left _ (List.mem_of_getElem? (i := 0) rfl))) dX12_tellSeries_128 ?_
                          refine g_goto (tgt := 5) hk dX12_tellSeries_131 (by decide) ?_
                          exact g_lv (List.forall_mem_cons.mpr ⟨List.mem_of_getElem? (i := 1) rfl, (fun _ h => absurd h List.not_mem_nil)⟩) (ih5679 (upd I5720 11 y5734) (up3 (up3 A5720 9 (y5718.toNatClampNeg) y5719) 8 0 y5730) L5720 (show Md [4, 6, 7, 8, 9, 11, 12, 13] (upd I 11 0) (upd I5720 11 y5734) from Md.tr hI4643 (show Md [4, 6, 7, 8, 9, 11, 12, 13] I4643 (upd I5720 11 y5734) from (Md.up (Md.tr Md.rf hI5720 rfl) rfl)) rfl) (show Md [8, 9] A (up3 (up3 A5720 9 (y5718.toNatClampNeg) y5719) 8 0 y5730) from Md.tr hA4643 (show Md [8, 9] A4643 (up3 (up3 A5720 9 (y5718.toNatClampNeg) y5719) 8 0 y5730) from (Md.up3 (Md.up3 (Md.tr Md.rf hA5720 rfl) rfl) rfl)) rfl) ⟨(IvM_f1 (I := I5720) (A := A5720) hV5720), (IvM_f2 (I := I5720) (A := A5720) hV5720), (IvM_f3 (I := I5720) (A := A5720) hV5720), (IvM_f4 (I := I5720) (A := A5720) hV5720), (IvM_f6 (I := I5720) (A := A5720) hV5720), (IvM_f8 (I := I5720) (A := A5720) hV5720), (IvM_f15 (I := I5720) (A := A5720) hV5720), (IvM_f16 (I := I5720) (A := A5720) hV5720), (IvM_f17 (I := I5720) (A := A5720) hV5720), (IvM_f18 (I := I5720) (A := A5720) hV5720), (IvM_f22 (I := I5720) (A := A5720) hV5720), (IvM_f23 (I := I5720) (A := A5720) hV5720), (IvM_f24 (I := I5720) (A := A5720) hV5720), (IvM_a11 (I := I5720) (A := A5720) hV5720), (IvM_a26 (I := I5720) (A := A5720) hV5720), (show 0 ≤ ((up3 (up3 A5720 9 (y5718.toNatClampNeg) y5719) 8 0 y5730) 8 0).toInt ∧ ((up3 (up3 A5720 9 (y5718.toNatClampNeg) y5719) 8 0 y5730) 8 0).toInt ≤ 160 from by rw [show (up3 (up3 A5720 9 (y5718.toNatClampNeg) y5719) 8 0 y5730) 8 0 = y5730 from rfl]; exact ⟨by omega, by omega⟩), (show 0 ≤ ((up3 (up3 A5720 9 (y5718.toNatClampNeg) y5719) 8 0 y5730) 8 1).toInt ∧ ((up3 (up3 A5720 9 (y5718.toNatClampNeg) y5719) 8 0 y5730) 8 1).toInt ≤ 160 from by rw [show (up3 (up3 A5720 9 (y5718.toNatClampNeg) y5719) 8 0 y5730) 8 1 = (A5720 8 1) from rfl]; exact (IvM_s8_1 (I := I5720) (A := A5720) hV5720)), (IvM_s10_0 (I := I5720) (A := A5720) hV5720), (IvM_s10_1 (I := I5720) (A := A5720) hV5720), (IvM_s17_0 (I := I5720) (A := A5720) hV5720), (IvM_s17_164 (I := I5720) (A := A5720) hV5720), (IvM_lv (I := I5720) (A := A5720) hV5720), (IvM_sd (I := I5720) (A := A5720) hV5720), (IvM_nq (I := I5720) (A := A5720) hV5720), (IvM_hr (I := I5720) (A := A5720) hV5720), (IvM_hh (I := I5720) (A := A5720) hV5720), trivial⟩ (by first | (rw [show ((upd I5720 11 y5734) 4) = (I5720 4) from rfl] <;> omega) | omega) (by first | (rw [show ((upd I5720 11 y5734) 6) = (I5720 6) from rfl] <;> omega) | omega) (by first | (rw [show ((upd I5720 11 y5734) 8) = (I5720 8) from rfl] <;> omega) | omega) (by first | (rw [show ((upd I5720 11 y5734) 4) = (I5720 4) from rfl] <;> omega) | omega) (by omega))
                        exfalso; omega
                      · skip
                        have f5735 := IvM_f4 hIv
                        have f5736 := IvM_f6 hIv
                        have f5737 := IvM_f8 hIv
                        exact g_vret hk hR ⟨I5720, (up3 A5720 9 (y5718.toNatClampNeg) y5719), L5720, (show Md [4, 6, 7, 8, 9, 11, 12, 13] I I5720 from (Md.tr (Md.tr (Md.up Md.rf rfl) hI4643 rfl) hI5720 rfl)), (show Md [8, 9] A (up3 A5720 9 (y5718.toNatClampNeg) y5719) from (Md.up3 (Md.tr (Md.tr Md.rf hA4643 rfl) hA5720 rfl) rfl)), ⟨(IvM_f1 (I := I5720) (A := A5720) hV5720), (IvM_f2 (I := I5720) (A := A5720) hV5720), (IvM_f3 (I := I5720) (A := A5720) hV5720), (IvM_f4 (I := I5720) (A := A5720) hV5720), (IvM_f6 (I := I5720) (A := A5720) hV5720), (IvM_f8 (I := I5720) (A := A5720) hV5720), (IvM_f15 (I := I5720) (A := A5720) hV5720), (IvM_f16 (I := I5720) (A := A5720) hV5720), (IvM_f17 (I := I5720) (A := A5720) hV5720), (IvM_f18 (I := I5720) (A := A5720) hV5720), (IvM_f22 (I := I5720) (A := A5720) hV5720), (IvM_f23 (I := I5720) (A := A5720) hV5720), (IvM_f24 (I := I5720) (A := A5720) hV5720), (IvM_a11 (I := I5720) (A := A5720) hV5720), (IvM_a26 (I := I5720) (A := A5720) hV5720), (IvM_s8_0 (I := I5720) (A := A5720) hV5720), (IvM_s8_1 (I := I5720) (A := A5720) hV5720), (IvM_s10_0 (I := I5720) (A := A5720) hV5720), (IvM_s10_1 (I := I5720) (A := A5720) hV5720), (IvM_s17_0 (I := I5720) (A := A5720) hV5720), (IvM_s17_164 (I := I5720) (A := A5720) hV5720), (IvM_lv (I := I5720) (A := A5720) hV5720), (IvM_sd (I := I5720) (A := A5720) hV5720), (IvM_nq (I := I5720) (A := A5720) hV5720), (IvM_hr (I := I5720) (A := A5720) hV5720), (IvM_hh (I := I5720) (A := A5720) hV5720), trivial⟩, (by omega), (by omega), (by omega), rfl, rfl⟩ dX12_tellSeries_107
                    exfalso; omega
                  exfalso; omega
                · skip
                  rw [show (A4643 2 (I4643 4).toNatClampNeg) = (A 2 (I4643 4).toNatClampNeg) from (congrFun (hA4643 2 rfl) _)] at c5714
                  show GW κ 2 0 0 (wM r g I4643 A4643 L4643) 55 [(0, .ref (r 0))] [.int 1]
                  refine g_istore_n (lv' := [(1, .int 1), (0, .ref (r 0))]) hk dX12_tellSeries_55 (by decide) rfl ?_
                  refine g_iload_n hk dX12_tellSeries_56 rfl ?_
                  refine g_if_eq (tgt := 64) (a := 1) hk dX12_tellSeries_57 (by decide) rfl (fun z9 => absurd z9 (show ¬ ((1 : Int) = (0 : Int)) from by decide)) (fun _ => ?_)
                  refine g_aload_n hk dX12_tellSeries_60 rfl ?_
                  refine g_callV (n := 0) hk (j127_X12_goesOn l D zt r g I4643 A4643 L4643  hV4643) (SP.same _) (fun _ h => h) (gi_V (List.mem_cons_of_mem _ (List.mem_append_left _ (List.mem_of_getElem? (i := 18) rfl))) (List.mem_cons_of_mem _ (List.mem_append_left _ (List.mem_of_getElem? (i := 19) rfl))) (List.mem_cons_of_mem _ (List.mem_append_left _ (List.mem_of_getElem? (i := 20) rfl))) (List.mem_cons_of_mem _ (List.mem_append_left _ (List.mem_of_getElem? (i := 4) rfl))) (gi_sub (fun w h => (List.mem_cons_of_mem _ (List.mem_append_right _ (List.mem_append_right _ (List.mem_append_right _ (List.mem_append_right _ (List.mem_append_right _ (List.mem_append_right _ (List.mem_append_left _ h))))))))) zg_j127_X12_goesOn)) rfl rfl rfl (by decide +kernel) ⟨Nat.le_of_ble_eq_true rfl, Nat.le_of_ble_eq_true rfl⟩ 0 rfl rfl rfl rfl (Nat.le_of_ble_eq_true rfl) ⟨Nat.le_of_ble_eq_true rfl, Nat.le_of_ble_eq_true rfl⟩ dX12_tellSeries_61 (fun v ty' w' hp hk' => ?_)
                  obtain ⟨I5739, A5739, L5739, hI5739, hA5739, hV5739, r5740, r5741, r5742, r5743, rfl, rfl⟩ := hp
                  have f5744 := IvM_f4 hV5739
                  have f5745 := IvM_f6 hV5739
                  rw [show (I5739 8) = (I4643 8) from (hI5739 8 rfl)] at r5742
                  show GW κ 2 0 0 (wM r g I5739 A5739 L5739) 64 [(1, .int 1), (0, .ref (r 0))] []
                  refine g_aload_n hk dX12_tellSeries_64 rfl ?_
                  refine gM_r0_27 hk hin12 (List.mem_cons_of_mem _ (List.mem_append_left _ (List.mem_of_getElem? (i := 14) rfl))) dX12_tellSeries_65 ?_
                  refine g_sipush (v := 160) hk dX12_tellSeries_68 (by decide) ?_
                  refine g_aload_n hk dX12_tellSeries_71 rfl ?_
                  refine gM_i16 (v := (I 16)) hk hin12 (List.mem_cons_of_mem _ (List.mem_append_left _ (List.mem_of_getElem? (i := 13) rfl))) dX12_tellSeries_72 ((hI5739 16 rfl).trans (hI4643 16 rfl)) ?_
                  by_cases c5746 : (I 16).toInt = 0
                  · have ec5746 : (I 16) = 0 := Int32.toInt_inj.mp c5746
                    rw [ec5746]
                    show GW κ 2 0 0 (wM r g I5739 A5739 L5739) 75 [(1, .int 1), (0, .ref (r 0))] [.int 0, .int 160, .ref (r 10)]
                    refine g_imul hk dX12_tellSeries_75 ?_
                    refine g_norm (v := 0) (by decide) ?_
                    refine g_aload_n hk dX12_tellSeries_76 rfl ?_
                    refine gM_r0_26 hk hin12 (List.mem_cons_of_mem _ (List.mem_append_left _ (List.mem_of_getElem? (i := 12) rfl))) dX12_tellSeries_77 ?_
                    refine g_aload_n hk dX12_tellSeries_80 rfl ?_
                    refine gM_i16 (v := (I 16)) hk hin12 (List.mem_cons_of_mem _ (List.mem_append_left _ (List.mem_of_getElem? (i := 13) rfl))) dX12_tellSeries_81 ((hI5739 16 rfl).trans (hI4643 16 rfl)) ?_
                    by_cases c5747 : (I 16).toInt = 0
                    · have ec5747 : (I 16) = 0 := Int32.toInt_inj.mp c5747
                      rw [ec5747]
                      show GW κ 2 0 0 (wM r g I5739 A5739 L5739) 84 [(1, .int 1), (0, .ref (r 0))] [.int 0, .ref (r 9), .int 0, .ref (r 10)]
                      refine lM_8 (v := (A4643 8 0)) hk (vp_in_iff.mpr ⟨by decide, by decide⟩) (congrFun (hA5739 8 rfl) _) dX12_tellSeries_84 ?_
                      refine g_iadd hk dX12_tellSeries_85 ?_
                      refine g_topi (fun y5748 ey5748 => ?_)
                      have hy5748 : y5748.toInt = 0 + (A4643 8 0).toInt := i32_add ey5748 rfl rfl (by omega) (by omega)
                      refine g_iload_n hk dX12_tellSeries_86 rfl ?_
                      refine g_if_eq (tgt := 95) (a := 1) hk dX12_tellSeries_87 (by decide) rfl (fun z9 => absurd z9 (show ¬ ((1 : Int) = (0 : Int)) from by decide)) (fun _ => ?_)
                      refine g_ldc (v := 100000) hk (List.mem_cons_of_mem _ (List.mem_append_left _ (List.mem_of_getElem? (i := 21) rfl))) dX12_tellSeries_90 ?_
                      refine g_goto (tgt := 99) hk dX12_tellSeries_92 (by decide) ?_
                      have k5749 : (100000 : Int32).toInt = 100000 := rfl
                      refine sM_9 (j := y5748.toNatClampNeg) hk (vp_in_iff.mpr ⟨by omega, by omega⟩) rfl dX12_tellSeries_99 ?_
                      refine g_aload_n hk dX12_tellSeries_100 rfl ?_
                      refine gM_i6 (v := (I5739 6)) hk hin12 (List.mem_cons_of_mem _ (List.mem_append_left _ (List.mem_of_getElem? (i := 11) rfl))) dX12_tellSeries_101 rfl ?_
                      refine g_if_le (tgt := 108) (a := (I5739 6).toInt) hk dX12_tellSeries_104 (by decide) rfl (fun c5750 => ?_) (fun c5750 => ?_)
                      · skip
                        refine g_aload_n hk dX12_tellSeries_108 rfl ?_
                        refine gM_r0_26 hk hin12 (List.mem_cons_of_mem _ (List.mem_append_left _ (List.mem_of_getElem? (i := 12) rfl))) dX12_tellSeries_109 ?_
                        refine g_aload_n hk dX12_tellSeries_112 rfl ?_
                        refine gM_i16 (v := (I 16)) hk hin12 (List.mem_cons_of_mem _ (List.mem_append_left _ (List.mem_of_getElem? (i := 13) rfl))) dX12_tellSeries_113 ((hI5739 16 rfl).trans (hI4643 16 rfl)) ?_
                        by_cases c5751 : (I 16).toInt = 0
                        · have ec5751 : (I 16) = 0 := Int32.toInt_inj.mp c5751
                          rw [ec5751]
                          show GW κ 2 0 0 (wM r g I5739 (up3 A5739 9 (y5748.toNatClampNeg) 100000) L5739) 116 [(1, .int 1), (0, .ref (r 0))] [.int 0, .ref (r 9)]
                          refine g_dup2 hk dX12_tellSeries_116 rfl rfl ?_
                          refine lM_8 (v := (A4643 8 0)) hk (vp_in_iff.mpr ⟨by decide, by decide⟩) (congrFun (hA5739 8 rfl) _) dX12_tellSeries_117 ?_
                          refine g_iconst (v := 1) hk dX12_tellSeries_118 (by decide) ?_
                          refine g_iadd hk dX12_tellSeries_119 ?_
                          refine g_topi (fun y5752 ey5752 => ?_)
                          have hy5752 : y5752.toInt = (A4643 8 0).toInt + 1 := i32_add ey5752 rfl rfl (by omega) (by omega)
                          refine sM_8 (j := 0) hk (vp_in_iff.mpr ⟨by decide, by decide⟩) (by decide) dX12_tellSeries_120 ?_
                          have f5753 := IvM_s8_0 hV5739
                          have f5754 := IvM_s8_1 hV5739
                          refine g_aload_n hk dX12_tellSeries_121 rfl ?_
                          refine g_dup hk dX12_tellSeries_122 rfl ?_
                          refine gM_i11 (v := (I4643 11)) hk hin12 (List.mem_cons_of_mem _ (List.mem_append_left _ (List.mem_of_getElem? (i := 0) rfl))) dX12_tellSeries_123 (hI5739 11 rfl) ?_
                          refine g_iconst (v := 1) hk dX12_tellSeries_126 (by decide) ?_
                          have b5755l := Int32.le_toInt (I4643 11)
                          have b5755h := Int32.toInt_lt (I4643 11)
                          refine g_iadd hk dX12_tellSeries_127 ?_
                          refine g_topi (fun y5756 ey5756 => ?_)
                          refine pM_i11 hk hin12 (List.mem_cons_of_mem _ (List.mem_append_left _ (List.mem_of_getElem? (i := 0) rfl))) dX12_tellSeries_128 ?_
                          refine g_goto (tgt := 5) hk dX12_tellSeries_131 (by decide) ?_
                          exact g_lv (List.forall_mem_cons.mpr ⟨List.mem_of_getElem? (i := 1) rfl, (fun _ h => absurd h List.not_mem_nil)⟩) (ih5679 (upd I5739 11 y5756) (up3 (up3 A5739 9 (y5748.toNatClampNeg) 100000) 8 0 y5752) L5739 (show Md [4, 6, 7, 8, 9, 11, 12, 13] (upd I 11 0) (upd I5739 11 y5756) from Md.tr hI4643 (show Md [4, 6, 7, 8, 9, 11, 12, 13] I4643 (upd I5739 11 y5756) from (Md.up (Md.tr Md.rf hI5739 rfl) rfl)) rfl) (show Md [8, 9] A (up3 (up3 A5739 9 (y5748.toNatClampNeg) 100000) 8 0 y5752) from Md.tr hA4643 (show Md [8, 9] A4643 (up3 (up3 A5739 9 (y5748.toNatClampNeg) 100000) 8 0 y5752) from (Md.up3 (Md.up3 (Md.tr Md.rf hA5739 rfl) rfl) rfl)) rfl) ⟨(IvM_f1 (I := I5739) (A := A5739) hV5739), (IvM_f2 (I := I5739) (A := A5739) hV5739), (IvM_f3 (I := I5739) (A := A5739) hV5739), (IvM_f4 (I := I5739) (A := A5739) hV5739), (IvM_f6 (I := I5739) (A := A5739) hV5739), (IvM_f8 (I := I5739) (A := A5739) hV5739), (IvM_f15 (I := I5739) (A := A5739) hV5739), (IvM_f16 (I := I5739) (A := A5739) hV5739), (IvM_f17 (I := I5739) (A := A5739) hV5739), (IvM_f18 (I := I5739) (A := A5739) hV5739), (IvM_f22 (I := I5739) (A := A5739) hV5739), (IvM_f23 (I := I5739) (A := A5739) hV5739), (IvM_f24 (I := I5739) (A := A5739) hV5739), (IvM_a11 (I := I5739) (A := A5739) hV5739), (IvM_a26 (I := I5739) (A := A5739) hV5739), (show 0 ≤ ((up3 (up3 A5739 9 (y5748.toNatClampNeg) 100000) 8 0 y5752) 8 0).toInt ∧ ((up3 (up3 A5739 9 (y5748.toNatClampNeg) 100000) 8 0 y5752) 8 0).toInt ≤ 160 from by rw [show (up3 (up3 A5739 9 (y5748.toNatClampNeg) 100000) 8 0 y5752) 8 0 = y5752 from rfl]; exact ⟨by omega, by omega⟩), (show 0 ≤ ((up3 (up3 A5739 9 (y5748.toNatClampNeg) 100000) 8 0 y5752) 8 1).toInt ∧ ((up3 (up3 A5739 9 (y5748.toNatClampNeg) 100000) 8 0 y5752) 8 1).toInt ≤ 160 from by rw [show (up3 (up3 A5739 9 (y5748.toNatClampNeg) 100000) 8 0 y5752) 8 1 = (A5739 8 1) from rfl]; exact (IvM_s8_1 (I := I5739) (A := A5739) hV5739)), (IvM_s10_0 (I := I5739) (A := A5739) hV5739), (IvM_s10_1 (I := I5739) (A := A5739) hV5739), (IvM_s17_0 (I := I5739) (A := A5739) hV5739), (IvM_s17_164 (I := I5739) (A := A5739) hV5739), (IvM_lv (I := I5739) (A := A5739) hV5739), (IvM_sd (I := I5739) (A := A5739) hV5739), (IvM_nq (I := I5739) (A := A5739) hV5739), (IvM_hr (I := I5739) (A := A5739) hV5739), (IvM_hh (I := I5739) (A := A5739) hV5739), trivial⟩ (by first | (rw [show ((upd I5739 11 y5756) 4) = (I5739 4) from rfl] <;> omega) | omega) (by first | (rw [show ((upd I5739 11 y5756) 6) = (I5739 6) from rfl] <;> omega) | omega) (by first | (rw [show ((upd I5739 11 y5756) 8) = (I4643 8) from (hI5739 8 rfl)] <;> omega) | omega) (by first | (rw [show ((upd I5739 11 y5756) 4) = (I5739 4) from rfl] <;> omega) | omega) (by omega))
                        exfalso; omega
                      · skip
                        have f5757 := IvM_f4 hIv
                        have f5758 := IvM_f6 hIv
                        have f5759 := IvM_f8 hIv
                        exact g_vret hk hR ⟨I5739, (up3 A5739 9 (y5748.toNatClampNeg) 100000), L5739, (show Md [4, 6, 7, 8, 9, 11, 12, 13] I I5739 from (Md.tr (Md.tr (Md.up Md.rf rfl) hI4643 rfl) hI5739 rfl)), (show Md [8, 9] A (up3 A5739 9 (y5748.toNatClampNeg) 100000) from (Md.up3 (Md.tr (Md.tr Md.rf hA4643 rfl) hA5739 rfl) rfl)), ⟨(IvM_f1 (I := I5739) (A := A5739) hV5739), (IvM_f2 (I := I5739) (A := A5739) hV5739), (IvM_f3 (I := I5739) (A := A5739) hV5739), (IvM_f4 (I := I5739) (A := A5739) hV5739), (IvM_f6 (I := I5739) (A := A5739) hV5739), (IvM_f8 (I := I5739) (A := A5739) hV5739), (IvM_f15 (I := I5739) (A := A5739) hV5739), (IvM_f16 (I := I5739) (A := A5739) hV5739), (IvM_f17 (I := I5739) (A := A5739) hV5739), (IvM_f18 (I := I5739) (A := A5739) hV5739), (IvM_f22 (I := I5739) (A := A5739) hV5739), (IvM_f23 (I := I5739) (A := A5739) hV5739), (IvM_f24 (I := I5739) (A := A5739) hV5739), (IvM_a11 (I := I5739) (A := A5739) hV5739), (IvM_a26 (I := I5739) (A := A5739) hV5739), (IvM_s8_0 (I := I5739) (A := A5739) hV5739), (IvM_s8_1 (I := I5739) (A := A5739) hV5739), (IvM_s10_0 (I := I5739) (A := A5739) hV5739), (IvM_s10_1 (I := I5739) (A := A5739) hV5739), (IvM_s17_0 (I := I5739) (A := A5739) hV5739), (IvM_s17_164 (I := I5739) (A := A5739) hV5739), (IvM_lv (I := I5739) (A := A5739) hV5739), (IvM_sd (I := I5739) (A := A5739) hV5739), (IvM_nq (I := I5739) (A := A5739) hV5739), (IvM_hr (I := I5739) (A := A5739) hV5739), (IvM_hh (I := I5739) (A := A5739) hV5739), trivial⟩, (by omega), (by omega), (by rw [show (I5739 8) = (I4643 8) from (hI5739 8 rfl)] <;> omega), rfl, rfl⟩ dX12_tellSeries_107
                    exfalso; omega
                  exfalso; omega
              · skip
                have f5760 := IvM_f4 hIv
                have f5761 := IvM_f6 hIv
                have f5762 := IvM_f8 hIv
                exact g_vret hk hR ⟨I4643, A4643, L4643, (show Md [4, 6, 7, 8, 9, 11, 12, 13] I I4643 from (Md.tr (Md.up Md.rf rfl) hI4643 rfl)), (show Md [8, 9] A A4643 from (Md.tr Md.rf hA4643 rfl)), hV4643, (by omega), (by omega), (by omega), rfl, rfl⟩ dX12_tellSeries_48
            · skip
              refine g_aload_n hk dX12_tellSeries_36 rfl ?_
              refine g_iconst (v := 2) hk dX12_tellSeries_37 (by decide) ?_
              have k5763 : (2 : Int32).toInt = 2 := rfl
              refine g_callV (n := 1) hk (j128_X12_fail l D zt r g I4643 A4643 L4643 2 hV4643 (by decide) (by decide)) (SP.same _) (fun _ h => h) (gi_V (List.mem_cons_of_mem _ (List.mem_append_left _ (List.mem_of_getElem? (i := 22) rfl))) (List.mem_cons_of_mem _ (List.mem_append_left _ (List.mem_of_getElem? (i := 23) rfl))) (List.mem_cons_of_mem _ (List.mem_append_left _ (List.mem_of_getElem? (i := 24) rfl))) (List.mem_cons_of_mem _ (List.mem_append_left _ (List.mem_of_getElem? (i := 4) rfl))) (gi_sub (fun w h => (List.mem_cons_of_mem _ (List.mem_append_right _ (List.mem_append_right _ (List.mem_append_right _ (List.mem_append_right _ (List.mem_append_right _ (List.mem_append_right _ (List.mem_append_right _ (List.mem_append_left _ h)))))))))) zg_j128_X12_fail)) rfl rfl rfl (by decide +kernel) ⟨Nat.le_of_ble_eq_true rfl, Nat.le_of_ble_eq_true rfl⟩ 0 rfl rfl rfl rfl (Nat.le_of_ble_eq_true rfl) ⟨Nat.le_of_ble_eq_true rfl, Nat.le_of_ble_eq_true rfl⟩ dX12_tellSeries_38 (fun v ty' w' hp hk' => ?_)
              obtain ⟨I5765, A5765, L5765, hI5765, hA5765, hV5765, r5766, r5767, r5768, rfl, rfl⟩ := hp
              have f5769 := IvM_f6 hV5765
              rw [show (I5765 8) = (I4643 8) from (hI5765 8 rfl)] at r5767
              show GW κ 2 0 0 (wM r g I5765 A5765 L5765) 41 [(0, .ref (r 0))] []
              refine g_aload_n hk dX12_tellSeries_41 rfl ?_
              refine gM_i6 (v := (I5765 6)) hk hin12 (List.mem_cons_of_mem _ (List.mem_append_left _ (List.mem_of_getElem? (i := 11) rfl))) dX12_tellSeries_42 rfl ?_
              refine g_if_le (tgt := 49) (a := (I5765 6).toInt) hk dX12_tellSeries_45 (by decide) rfl (fun c5770 => ?_) (fun c5770 => ?_)
              · skip
                refine g_aload_n hk dX12_tellSeries_49 rfl ?_
                refine g_bipush (v := 26) hk dX12_tellSeries_50 (by decide) ?_
                refine g_callV (n := 1) hk (j125_X12_is l D zt r g I5765 A5765 L5765 26 hV5765) (SP.same _) (fun _ h => h) (gi_V (List.mem_cons_of_mem _ (List.mem_append_left _ (List.mem_of_getElem? (i := 5) rfl))) (List.mem_cons_of_mem _ (List.mem_append_left _ (List.mem_of_getElem? (i := 6) rfl))) (List.mem_cons_of_mem _ (List.mem_append_left _ (List.mem_of_getElem? (i := 7) rfl))) (List.mem_cons_of_mem _ (List.mem_append_left _ (List.mem_of_getElem? (i := 4) rfl))) (gi_sub (fun w h => (List.mem_cons_of_mem _ (List.mem_append_right _ (List.mem_append_right _ (List.mem_append_right _ (List.mem_append_left _ h)))))) zg_j125_X12_is)) rfl rfl rfl (by decide +kernel) ⟨Nat.le_of_ble_eq_true rfl, Nat.le_of_ble_eq_true rfl⟩ 0 rfl rfl rfl rfl (Nat.le_of_ble_eq_true rfl) ⟨Nat.le_of_ble_eq_true rfl, Nat.le_of_ble_eq_true rfl⟩ dX12_tellSeries_52 (fun v ty' w' hp hk' => ?_)
                rcases hp with ⟨c5771, rfl, rfl⟩ | ⟨c5773, rfl, rfl⟩
                · skip
                  rw [show (A5765 2 (I5765 4).toNatClampNeg) = (A 2 (I4643 4).toNatClampNeg) from (by rw [show I5765 4 = (I4643 4) from (hI5765 4 rfl)]; exact ((congrFun (hA5765 2 rfl) _).trans (congrFun (hA4643 2 rfl) _)))] at c5771
                  show GW κ 2 0 0 (wM r g I5765 A5765 L5765) 55 [(0, .ref (r 0))] [.int 0]
                  refine g_istore_n (lv' := [(1, .int 0), (0, .ref (r 0))]) hk dX12_tellSeries_55 (by decide) rfl ?_
                  refine g_iload_n hk dX12_tellSeries_56 rfl ?_
                  refine g_if_eq (tgt := 64) (a := 0) hk dX12_tellSeries_57 (by decide) rfl (fun _ => ?_) (fun z9 => absurd (show (0 : Int) = (0 : Int) from by decide) z9)
                  refine g_aload_n hk dX12_tellSeries_64 rfl ?_
                  refine gM_r0_27 hk hin12 (List.mem_cons_of_mem _ (List.mem_append_left _ (List.mem_of_getElem? (i := 14) rfl))) dX12_tellSeries_65 ?_
                  refine g_sipush (v := 160) hk dX12_tellSeries_68 (by decide) ?_
                  refine g_aload_n hk dX12_tellSeries_71 rfl ?_
                  refine gM_i16 (v := (I 16)) hk hin12 (List.mem_cons_of_mem _ (List.mem_append_left _ (List.mem_of_getElem? (i := 13) rfl))) dX12_tellSeries_72 ((hI5765 16 rfl).trans (hI4643 16 rfl)) ?_
                  by_cases c5775 : (I 16).toInt = 0
                  · have ec5775 : (I 16) = 0 := Int32.toInt_inj.mp c5775
                    rw [ec5775]
                    show GW κ 2 0 0 (wM r g I5765 A5765 L5765) 75 [(1, .int 0), (0, .ref (r 0))] [.int 0, .int 160, .ref (r 10)]
                    refine g_imul hk dX12_tellSeries_75 ?_
                    refine g_norm (v := 0) (by decide) ?_
                    refine g_aload_n hk dX12_tellSeries_76 rfl ?_
                    refine gM_r0_26 hk hin12 (List.mem_cons_of_mem _ (List.mem_append_left _ (List.mem_of_getElem? (i := 12) rfl))) dX12_tellSeries_77 ?_
                    refine g_aload_n hk dX12_tellSeries_80 rfl ?_
                    refine gM_i16 (v := (I 16)) hk hin12 (List.mem_cons_of_mem _ (List.mem_append_left _ (List.mem_of_getElem? (i := 13) rfl))) dX12_tellSeries_81 ((hI5765 16 rfl).trans (hI4643 16 rfl)) ?_
                    by_cases c5776 : (I 16).toInt = 0
                    · have ec5776 : (I 16) = 0 := Int32.toInt_inj.mp c5776
                      rw [ec5776]
                      show GW κ 2 0 0 (wM r g I5765 A5765 L5765) 84 [(1, .int 0), (0, .ref (r 0))] [.int 0, .ref (r 9), .int 0, .ref (r 10)]
                      refine lM_8 (v := (A4643 8 0)) hk (vp_in_iff.mpr ⟨by decide, by decide⟩) (congrFun (hA5765 8 rfl) _) dX12_tellSeries_84 ?_
                      refine g_iadd hk dX12_tellSeries_85 ?_
                      refine g_topi (fun y5777 ey5777 => ?_)
                      have hy5777 : y5777.toInt = 0 + (A4643 8 0).toInt := i32_add ey5777 rfl rfl (by omega) (by omega)
                      refine g_iload_n hk dX12_tellSeries_86 rfl ?_
                      refine g_if_eq (tgt := 95) (a := 0) hk dX12_tellSeries_87 (by decide) rfl (fun _ => ?_) (fun z9 => absurd (show (0 : Int) = (0 : Int) from by decide) z9)
                      refine g_aload_n hk dX12_tellSeries_95 rfl ?_
                      refine g_callV (n := 0) hk (j132_X12_readingTold l D zt r g I5765 A5765 L5765  hV5765) (SP.same _) (fun _ h => h) (gi_V (List.mem_cons_of_mem _ (List.mem_append_left _ (List.mem_of_getElem? (i := 15) rfl))) (List.mem_cons_of_mem _ (List.mem_append_left _ (List.mem_of_getElem? (i := 16) rfl))) (List.mem_cons_of_mem _ (List.mem_append_left _ (List.mem_of_getElem? (i := 17) rfl))) (List.mem_cons_of_mem _ (List.mem_append_left _ (List.mem_of_getElem? (i := 4) rfl))) (gi_sub (fun w h => (List.mem_cons_of_mem _ (List.mem_append_right _ (List.mem_append_right _ (List.mem_append_right _ (List.mem_append_right _ (List.mem_append_right _ (List.mem_append_left _ h)))))))) zg_j132_X12_readingTold)) rfl rfl rfl (by decide +kernel) ⟨Nat.le_of_ble_eq_true rfl, Nat.le_of_ble_eq_true rfl⟩ 0 rfl rfl rfl rfl (Nat.le_of_ble_eq_true rfl) ⟨Nat.le_of_ble_eq_true rfl, Nat.le_of_ble_eq_true rfl⟩ dX12_tellSeries_96 (fun v ty' w' hp hk' => ?_)
                      obtain ⟨I5779, A5779, L5779, hI5779, hA5779, hV5779, y5778, r5780, r5781, r5782, r5783, rfl, rfl⟩ := hp
                      have f5784 := IvM_f4 hV5779
                      rw [show (I5765 4) = (I4643 4) from (hI5765 4 rfl)] at r5780
                      have f5785 := IvM_f6 hV5779
                      have f5786 := IvM_f8 hV5779
                      rw [show (I5765 8) = (I4643 8) from (hI5765 8 rfl)] at r5782
                      rw [show (I5765 4) = (I4643 4) from (hI5765 4 rfl)] at r5783
                      show GW κ 2 0 0 (wM r g I5779 A5779 L5779) 99 [(1, .int 0), (0, .ref (r 0))] [.int y5778, .int y5777, .ref (r 10)]
                      refine sM_9 (j := y5777.toNatClampNeg) hk (vp_in_iff.mpr ⟨by omega, by omega⟩) rfl dX12_tellSeries_99 ?_
                      refine g_aload_n hk dX12_tellSeries_100 rfl ?_
                      refine gM_i6 (v := (I5779 6)) hk hin12 (List.mem_cons_of_mem _ (List.mem_append_left _ (List.mem_of_getElem? (i := 11) rfl))) dX12_tellSeries_101 rfl ?_
                      refine g_if_le (tgt := 108) (a := (I5779 6).toInt) hk dX12_tellSeries_104 (by decide) rfl (fun c5787 => ?_) (fun c5787 => ?_)
                      · skip
                        refine g_aload_n hk dX12_tellSeries_108 rfl ?_
                        refine gM_r0_26 hk hin12 (List.mem_cons_of_mem _ (List.mem_append_left _ (List.mem_of_getElem? (i := 12) rfl))) dX12_tellSeries_109 ?_
                        refine g_aload_n hk dX12_tellSeries_112 rfl ?_
                        refine gM_i16 (v := (I 16)) hk hin12 (List.mem_cons_of_mem _ (List.mem_append_left _ (List.mem_of_getElem? (i := 13) rfl))) dX12_tellSeries_113 ((hI5779 16 rfl).trans ((hI5765 16 rfl).trans (hI4643 16 rfl))) ?_
                        by_cases c5788 : (I 16).toInt = 0
                        · have ec5788 : (I 16) = 0 := Int32.toInt_inj.mp c5788
                          rw [ec5788]
                          show GW κ 2 0 0 (wM r g I5779 (up3 A5779 9 (y5777.toNatClampNeg) y5778) L5779) 116 [(1, .int 0), (0, .ref (r 0))] [.int 0, .ref (r 9)]
                          refine g_dup2 hk dX12_tellSeries_116 rfl rfl ?_
                          refine lM_8 (v := (A4643 8 0)) hk (vp_in_iff.mpr ⟨by decide, by decide⟩) ((congrFun (hA5779 8 rfl) _).trans (congrFun (hA5765 8 rfl) _)) dX12_tellSeries_117 ?_
                          refine g_iconst (v := 1) hk dX12_tellSeries_118 (by decide) ?_
                          refine g_iadd hk dX12_tellSeries_119 ?_
                          refine g_topi (fun y5789 ey5789 => ?_)
                          have hy5789 : y5789.toInt = (A4643 8 0).toInt + 1 := i32_add ey5789 rfl rfl (by omega) (by omega)
                          refine sM_8 (j := 0) hk (vp_in_iff.mpr ⟨by decide, by decide⟩) (by decide) dX12_tellSeries_120 ?_
                          have f5790 := IvM_s8_0 hV5779
                          have f5791 := IvM_s8_1 hV5779
                          refine g_aload_n hk dX12_tellSeries_121 rfl ?_
                          refine g_dup hk dX12_tellSeries_122 rfl ?_
                          refine gM_i11 (v := (I4643 11)) hk hin12 (List.mem_cons_of_mem _ (List.mem_append_left _ (List.mem_of_getElem? (i := 0) rfl))) dX12_tellSeries_123 ((hI5779 11 rfl).trans (hI5765 11 rfl)) ?_
                          refine g_iconst (v := 1) hk dX12_tellSeries_126 (by decide) ?_
                          have b5792l := Int32.le_toInt (I4643 11)
                          have b5792h := Int32.toInt_lt (I4643 11)
                          refine g_iadd hk dX12_tellSeries_127 ?_
                          refine g_topi (fun y5793 ey5793 => ?_)
                          refine pM_i11 hk hin12 (List.mem_cons_of_mem _ (List.mem_append_left _ (List.mem_of_getElem? (i := 0) rfl))) dX12_tellSeries_128 ?_
                          refine g_goto (tgt := 5) hk dX12_tellSeries_131 (by decide) ?_
                          exact g_lv (List.forall_mem_cons.mpr ⟨List.mem_of_getElem? (i := 1) rfl, (fun _ h => absurd h List.not_mem_nil)⟩) (ih5679 (upd I5779 11 y5793) (up3 (up3 A5779 9 (y5777.toNatClampNeg) y5778) 8 0 y5789) L5779 (show Md [4, 6, 7, 8, 9, 11, 12, 13] (upd I 11 0) (upd I5779 11 y5793) from Md.tr hI4643 (show Md [4, 6, 7, 8, 9, 11, 12, 13] I4643 (upd I5779 11 y5793) from (Md.up (Md.tr (Md.tr Md.rf hI5765 rfl) hI5779 rfl) rfl)) rfl) (show Md [8, 9] A (up3 (up3 A5779 9 (y5777.toNatClampNeg) y5778) 8 0 y5789) from Md.tr hA4643 (show Md [8, 9] A4643 (up3 (up3 A5779 9 (y5777.toNatClampNeg) y5778) 8 0 y5789) from (Md.up3 (Md.up3 (Md.tr (Md.tr Md.rf hA5765 rfl) hA5779 rfl) rfl) rfl)) rfl) ⟨(IvM_f1 (I := I5779) (A := A5779) hV5779), (IvM_f2 (I := I5779) (A := A5779) hV5779), (IvM_f3 (I := I5779) (A := A5779) hV5779), (IvM_f4 (I := I5779) (A := A5779) hV5779), (IvM_f6 (I := I5779) (A := A5779) hV5779), (IvM_f8 (I := I5779) (A := A5779) hV5779), (IvM_f15 (I := I5779) (A := A5779) hV5779), (IvM_f16 (I := I5779) (A := A5779) hV5779), (IvM_f17 (I := I5779) (A := A5779) hV5779), (IvM_f18 (I := I5779) (A := A5779) hV5779), (IvM_f22 (I := I5779) (A := A5779) hV5779), (IvM_f23 (I := I5779) (A := A5779) hV5779), (IvM_f24 (I := I5779) (A := A5779) hV5779), (IvM_a11 (I := I5779) (A := A5779) hV5779), (IvM_a26 (I := I5779) (A := A5779) hV5779), (show 0 ≤ ((up3 (up3 A5779 9 (y5777.toNatClampNeg) y5778) 8 0 y5789) 8 0).toInt ∧ ((up3 (up3 A5779 9 (y5777.toNatClampNeg) y5778) 8 0 y5789) 8 0).toInt ≤ 160 from by rw [show (up3 (up3 A5779 9 (y5777.toNatClampNeg) y5778) 8 0 y5789) 8 0 = y5789 from rfl]; exact ⟨by omega, by omega⟩), (show 0 ≤ ((up3 (up3 A5779 9 (y5777.toNatClampNeg) y5778) 8 0 y5789) 8 1).toInt ∧ ((up3 (up3 A5779 9 (y5777.toNatClampNeg) y5778) 8 0 y5789) 8 1).toInt ≤ 160 from by rw [show (up3 (up3 A5779 9 (y5777.toNatClampNeg) y5778) 8 0 y5789) 8 1 = (A5779 8 1) from rfl]; exact (IvM_s8_1 (I := I5779) (A := A5779) hV5779)), (IvM_s10_0 (I := I5779) (A := A5779) hV5779), (IvM_s10_1 (I := I5779) (A := A5779) hV5779), (IvM_s17_0 (I := I5779) (A := A5779) hV5779), (IvM_s17_164 (I := I5779) (A := A5779) hV5779), (IvM_lv (I := I5779) (A := A5779) hV5779), (IvM_sd (I := I5779) (A := A5779) hV5779), (IvM_nq (I := I5779) (A := A5779) hV5779), (IvM_hr (I := I5779) (A := A5779) hV5779), (IvM_hh (I := I5779) (A := A5779) hV5779), trivial⟩ (by first | (rw [show ((upd I5779 11 y5793) 4) = (I5779 4) from rfl] <;> omega) | omega) (by first | (rw [show ((upd I5779 11 y5793) 6) = (I5779 6) from rfl] <;> omega) | omega) (by first | (rw [show ((upd I5779 11 y5793) 8) = (I5779 8) from rfl] <;> omega) | omega) (by first | (rw [show ((upd I5779 11 y5793) 4) = (I5779 4) from rfl] <;> omega) | omega) (by omega))
                        exfalso; omega
                      · skip
                        have f5794 := IvM_f4 hIv
                        have f5795 := IvM_f6 hIv
                        have f5796 := IvM_f8 hIv
                        exact g_vret hk hR ⟨I5779, (up3 A5779 9 (y5777.toNatClampNeg) y5778), L5779, (show Md [4, 6, 7, 8, 9, 11, 12, 13] I I5779 from (Md.tr (Md.tr (Md.tr (Md.up Md.rf rfl) hI4643 rfl) hI5765 rfl) hI5779 rfl)), (show Md [8, 9] A (up3 A5779 9 (y5777.toNatClampNeg) y5778) from (Md.up3 (Md.tr (Md.tr (Md.tr Md.rf hA4643 rfl) hA5765 rfl) hA5779 rfl) rfl)), ⟨(IvM_f1 (I := I5779) (A := A5779) hV5779), (IvM_f2 (I := I5779) (A := A5779) hV5779), (IvM_f3 (I := I5779) (A := A5779) hV5779), (IvM_f4 (I := I5779) (A := A5779) hV5779), (IvM_f6 (I := I5779) (A := A5779) hV5779), (IvM_f8 (I := I5779) (A := A5779) hV5779), (IvM_f15 (I := I5779) (A := A5779) hV5779), (IvM_f16 (I := I5779) (A := A5779) hV5779), (IvM_f17 (I := I5779) (A := A5779) hV5779), (IvM_f18 (I := I5779) (A := A5779) hV5779), (IvM_f22 (I := I5779) (A := A5779) hV5779), (IvM_f23 (I := I5779) (A := A5779) hV5779), (IvM_f24 (I := I5779) (A := A5779) hV5779), (IvM_a11 (I := I5779) (A := A5779) hV5779), (IvM_a26 (I := I5779) (A := A5779) hV5779), (IvM_s8_0 (I := I5779) (A := A5779) hV5779), (IvM_s8_1 (I := I5779) (A := A5779) hV5779), (IvM_s10_0 (I := I5779) (A := A5779) hV5779), (IvM_s10_1 (I := I5779) (A := A5779) hV5779), (IvM_s17_0 (I := I5779) (A := A5779) hV5779), (IvM_s17_164 (I := I5779) (A := A5779) hV5779), (IvM_lv (I := I5779) (A := A5779) hV5779), (IvM_sd (I := I5779) (A := A5779) hV5779), (IvM_nq (I := I5779) (A := A5779) hV5779), (IvM_hr (I := I5779) (A := A5779) hV5779), (IvM_hh (I := I5779) (A := A5779) hV5779), trivial⟩, (by omega), (by omega), (by omega), rfl, rfl⟩ dX12_tellSeries_107
                    exfalso; omega
                  exfalso; omega
                · skip
                  rw [show (A5765 2 (I5765 4).toNatClampNeg) = (A 2 (I4643 4).toNatClampNeg) from (by rw [show I5765 4 = (I4643 4) from (hI5765 4 rfl)]; exact ((congrFun (hA5765 2 rfl) _).trans (congrFun (hA4643 2 rfl) _)))] at c5773
                  show GW κ 2 0 0 (wM r g I5765 A5765 L5765) 55 [(0, .ref (r 0))] [.int 1]
                  refine g_istore_n (lv' := [(1, .int 1), (0, .ref (r 0))]) hk dX12_tellSeries_55 (by decide) rfl ?_
                  refine g_iload_n hk dX12_tellSeries_56 rfl ?_
                  refine g_if_eq (tgt := 64) (a := 1) hk dX12_tellSeries_57 (by decide) rfl (fun z9 => absurd z9 (show ¬ ((1 : Int) = (0 : Int)) from by decide)) (fun _ => ?_)
                  refine g_aload_n hk dX12_tellSeries_60 rfl ?_
                  refine g_callV (n := 0) hk (j127_X12_goesOn l D zt r g I5765 A5765 L5765  hV5765) (SP.same _) (fun _ h => h) (gi_V (List.mem_cons_of_mem _ (List.mem_append_left _ (List.mem_of_getElem? (i := 18) rfl))) (List.mem_cons_of_mem _ (List.mem_append_left _ (List.mem_of_getElem? (i := 19) rfl))) (List.mem_cons_of_mem _ (List.mem_append_left _ (List.mem_of_getElem? (i := 20) rfl))) (List.mem_cons_of_mem _ (List.mem_append_left _ (List.mem_of_getElem? (i := 4) rfl))) (gi_sub (fun w h => (List.mem_cons_of_mem _ (List.mem_append_right _ (List.mem_append_right _ (List.mem_append_right _ (List.mem_append_right _ (List.mem_append_right _ (List.mem_append_right _ (List.mem_append_left _ h))))))))) zg_j127_X12_goesOn)) rfl rfl rfl (by decide +kernel) ⟨Nat.le_of_ble_eq_true rfl, Nat.le_of_ble_eq_true rfl⟩ 0 rfl rfl rfl rfl (Nat.le_of_ble_eq_true rfl) ⟨Nat.le_of_ble_eq_true rfl, Nat.le_of_ble_eq_true rfl⟩ dX12_tellSeries_61 (fun v ty' w' hp hk' => ?_)
                  obtain ⟨I5798, A5798, L5798, hI5798, hA5798, hV5798, r5799, r5800, r5801, r5802, rfl, rfl⟩ := hp
                  have f5803 := IvM_f4 hV5798
                  rw [show (I5765 4) = (I4643 4) from (hI5765 4 rfl)] at r5799
                  have f5804 := IvM_f6 hV5798
                  rw [show (I5765 8) = (I4643 8) from (hI5765 8 rfl), show (I5798 8) = (I4643 8) from ((hI5798 8 rfl).trans (hI5765 8 rfl))] at r5801
                  rw [show (I5765 4) = (I4643 4) from (hI5765 4 rfl)] at r5802
                  show GW κ 2 0 0 (wM r g I5798 A5798 L5798) 64 [(1, .int 1), (0, .ref (r 0))] []
                  refine g_aload_n hk dX12_tellSeries_64 rfl ?_
                  refine gM_r0_27 hk hin12 (List.mem_cons_of_mem _ (List.mem_append_left _ (List.mem_of_getElem? (i := 14) rfl))) dX12_tellSeries_65 ?_
                  refine g_sipush (v := 160) hk dX12_tellSeries_68 (by decide) ?_
                  refine g_aload_n hk dX12_tellSeries_71 rfl ?_
                  refine gM_i16 (v := (I 16)) hk hin12 (List.mem_cons_of_mem _ (List.mem_append_left _ (List.mem_of_getElem? (i := 13) rfl))) dX12_tellSeries_72 ((hI5798 16 rfl).trans ((hI5765 16 rfl).trans (hI4643 16 rfl))) ?_
                  by_cases c5805 : (I 16).toInt = 0
                  · have ec5805 : (I 16) = 0 := Int32.toInt_inj.mp c5805
                    rw [ec5805]
                    show GW κ 2 0 0 (wM r g I5798 A5798 L5798) 75 [(1, .int 1), (0, .ref (r 0))] [.int 0, .int 160, .ref (r 10)]
                    refine g_imul hk dX12_tellSeries_75 ?_
                    refine g_norm (v := 0) (by decide) ?_
                    refine g_aload_n hk dX12_tellSeries_76 rfl ?_
                    refine gM_r0_26 hk hin12 (List.mem_cons_of_mem _ (List.mem_append_left _ (List.mem_of_getElem? (i := 12) rfl))) dX12_tellSeries_77 ?_
                    refine g_aload_n hk dX12_tellSeries_80 rfl ?_
                    refine gM_i16 (v := (I 16)) hk hin12 (List.mem_cons_of_mem _ (List.mem_append_left _ (List.mem_of_getElem? (i := 13) rfl))) dX12_tellSeries_81 ((hI5798 16 rfl).trans ((hI5765 16 rfl).trans (hI4643 16 rfl))) ?_
                    by_cases c5806 : (I 16).toInt = 0
                    · have ec5806 : (I 16) = 0 := Int32.toInt_inj.mp c5806
                      rw [ec5806]
                      show GW κ 2 0 0 (wM r g I5798 A5798 L5798) 84 [(1, .int 1), (0, .ref (r 0))] [.int 0, .ref (r 9), .int 0, .ref (r 10)]
                      refine lM_8 (v := (A4643 8 0)) hk (vp_in_iff.mpr ⟨by decide, by decide⟩) ((congrFun (hA5798 8 rfl) _).trans (congrFun (hA5765 8 rfl) _)) dX12_tellSeries_84 ?_
                      refine g_iadd hk dX12_tellSeries_85 ?_
                      refine g_topi (fun y5807 ey5807 => ?_)
                      have hy5807 : y5807.toInt = 0 + (A4643 8 0).toInt := i32_add ey5807 rfl rfl (by omega) (by omega)
                      refine g_iload_n hk dX12_tellSeries_86 rfl ?_
                      refine g_if_eq (tgt := 95) (a := 1) hk dX12_tellSeries_87 (by decide) rfl (fun z9 => absurd z9 (show ¬ ((1 : Int) = (0 : Int)) from by decide)) (fun _ => ?_)
                      refine g_ldc (v := 100000) hk (List.mem_cons_of_mem _ (List.mem_append_left _ (List.mem_of_getElem? (i := 21) rfl))) dX12_tellSeries_90 ?_
                      refine g_goto (tgt := 99) hk dX12_tellSeries_92 (by decide) ?_
                      have k5808 : (100000 : Int32).toInt = 100000 := rfl
                      refine sM_9 (j := y5807.toNatClampNeg) hk (vp_in_iff.mpr ⟨by omega, by omega⟩) rfl dX12_tellSeries_99 ?_
                      refine g_aload_n hk dX12_tellSeries_100 rfl ?_
                      refine gM_i6 (v := (I5798 6)) hk hin12 (List.mem_cons_of_mem _ (List.mem_append_left _ (List.mem_of_getElem? (i := 11) rfl))) dX12_tellSeries_101 rfl ?_
                      refine g_if_le (tgt := 108) (a := (I5798 6).toInt) hk dX12_tellSeries_104 (by decide) rfl (fun c5809 => ?_) (fun c5809 => ?_)
                      · skip
                        refine g_aload_n hk dX12_tellSeries_108 rfl ?_
                        refine gM_r0_26 hk hin12 (List.mem_cons_of_mem _ (List.mem_append_left _ (List.mem_of_getElem? (i := 12) rfl))) dX12_tellSeries_109 ?_
                        refine g_aload_n hk dX12_tellSeries_112 rfl ?_
                        refine gM_i16 (v := (I 16)) hk hin12 (List.mem_cons_of_mem _ (List.mem_append_left _ (List.mem_of_getElem? (i := 13) rfl))) dX12_tellSeries_113 ((hI5798 16 rfl).trans ((hI5765 16 rfl).trans (hI4643 16 rfl))) ?_
                        by_cases c5810 : (I 16).toInt = 0
                        · have ec5810 : (I 16) = 0 := Int32.toInt_inj.mp c5810
                          rw [ec5810]
                          show GW κ 2 0 0 (wM r g I5798 (up3 A5798 9 (y5807.toNatClampNeg) 100000) L5798) 116 [(1, .int 1), (0, .ref (r 0))] [.int 0, .ref (r 9)]
                          refine g_dup2 hk dX12_tellSeries_116 rfl rfl ?_
                          refine lM_8 (v := (A4643 8 0)) hk (vp_in_iff.mpr ⟨by decide, by decide⟩) ((congrFun (hA5798 8 rfl) _).trans (congrFun (hA5765 8 rfl) _)) dX12_tellSeries_117 ?_
                          refine g_iconst (v := 1) hk dX12_tellSeries_118 (by decide) ?_
                          refine g_iadd hk dX12_tellSeries_119 ?_
                          refine g_topi (fun y5811 ey5811 => ?_)
                          have hy5811 : y5811.toInt = (A4643 8 0).toInt + 1 := i32_add ey5811 rfl rfl (by omega) (by omega)
                          refine sM_8 (j := 0) hk (vp_in_iff.mpr ⟨by decide, by decide⟩) (by decide) dX12_tellSeries_120 ?_
                          have f5812 := IvM_s8_0 hV5798
                          have f5813 := IvM_s8_1 hV5798
                          refine g_aload_n hk dX12_tellSeries_121 rfl ?_
                          refine g_dup hk dX12_tellSeries_122 rfl ?_
                          refine gM_i11 (v := (I4643 11)) hk hin12 (List.mem_cons_of_mem _ (List.mem_append_left _ (List.mem_of_getElem? (i := 0) rfl))) dX12_tellSeries_123 ((hI5798 11 rfl).trans (hI5765 11 rfl)) ?_
                          refine g_iconst (v := 1) hk dX12_tellSeries_126 (by decide) ?_
                          have b5814l := Int32.le_toInt (I4643 11)
                          have b5814h := Int32.toInt_lt (I4643 11)
                          refine g_iadd hk dX12_tellSeries_127 ?_
                          refine g_topi (fun y5815 ey5815 => ?_)
                          refine pM_i11 hk hin12 (List.mem_cons_of_mem _ (List.mem_append_left _ (List.mem_of_getElem? (i := 0) rfl))) dX12_tellSeries_128 ?_
                          refine g_goto (tgt := 5) hk dX12_tellSeries_131 (by decide) ?_
                          exact g_lv (List.forall_mem_cons.mpr ⟨List.mem_of_getElem? (i := 1) rfl, (fun _ h => absurd h List.not_mem_nil)⟩) (ih5679 (upd I5798 11 y5815) (up3 (up3 A5798 9 (y5807.toNatClampNeg) 100000) 8 0 y5811) L5798 (show Md [4, 6, 7, 8, 9, 11, 12, 13] (upd I 11 0) (upd I5798 11 y5815) from Md.tr hI4643 (show Md [4, 6, 7, 8, 9, 11, 12, 13] I4643 (upd I5798 11 y5815) from (Md.up (Md.tr (Md.tr Md.rf hI5765 rfl) hI5798 rfl) rfl)) rfl) (show Md [8, 9] A (up3 (up3 A5798 9 (y5807.toNatClampNeg) 100000) 8 0 y5811) from Md.tr hA4643 (show Md [8, 9] A4643 (up3 (up3 A5798 9 (y5807.toNatClampNeg) 100000) 8 0 y5811) from (Md.up3 (Md.up3 (Md.tr (Md.tr Md.rf hA5765 rfl) hA5798 rfl) rfl) rfl)) rfl) ⟨(IvM_f1 (I := I5798) (A := A5798) hV5798), (IvM_f2 (I := I5798) (A := A5798) hV5798), (IvM_f3 (I := I5798) (A := A5798) hV5798), (IvM_f4 (I := I5798) (A := A5798) hV5798), (IvM_f6 (I := I5798) (A := A5798) hV5798), (IvM_f8 (I := I5798) (A := A5798) hV5798), (IvM_f15 (I := I5798) (A := A5798) hV5798), (IvM_f16 (I := I5798) (A := A5798) hV5798), (IvM_f17 (I := I5798) (A := A5798) hV5798), (IvM_f18 (I := I5798) (A := A5798) hV5798), (IvM_f22 (I := I5798) (A := A5798) hV5798), (IvM_f23 (I := I5798) (A := A5798) hV5798), (IvM_f24 (I := I5798) (A := A5798) hV5798), (IvM_a11 (I := I5798) (A := A5798) hV5798), (IvM_a26 (I := I5798) (A := A5798) hV5798), (show 0 ≤ ((up3 (up3 A5798 9 (y5807.toNatClampNeg) 100000) 8 0 y5811) 8 0).toInt ∧ ((up3 (up3 A5798 9 (y5807.toNatClampNeg) 100000) 8 0 y5811) 8 0).toInt ≤ 160 from by rw [show (up3 (up3 A5798 9 (y5807.toNatClampNeg) 100000) 8 0 y5811) 8 0 = y5811 from rfl]; exact ⟨by omega, by omega⟩), (show 0 ≤ ((up3 (up3 A5798 9 (y5807.toNatClampNeg) 100000) 8 0 y5811) 8 1).toInt ∧ ((up3 (up3 A5798 9 (y5807.toNatClampNeg) 100000) 8 0 y5811) 8 1).toInt ≤ 160 from by rw [show (up3 (up3 A5798 9 (y5807.toNatClampNeg) 100000) 8 0 y5811) 8 1 = (A5798 8 1) from rfl]; exact (IvM_s8_1 (I := I5798) (A := A5798) hV5798)), (IvM_s10_0 (I := I5798) (A := A5798) hV5798), (IvM_s10_1 (I := I5798) (A := A5798) hV5798), (IvM_s17_0 (I := I5798) (A := A5798) hV5798), (IvM_s17_164 (I := I5798) (A := A5798) hV5798), (IvM_lv (I := I5798) (A := A5798) hV5798), (IvM_sd (I := I5798) (A := A5798) hV5798), (IvM_nq (I := I5798) (A := A5798) hV5798), (IvM_hr (I := I5798) (A := A5798) hV5798), (IvM_hh (I := I5798) (A := A5798) hV5798), trivial⟩ (by first | (rw [show ((upd I5798 11 y5815) 4) = (I5798 4) from rfl] <;> omega) | omega) (by first | (rw [show ((upd I5798 11 y5815) 6) = (I5798 6) from rfl] <;> omega) | omega) (by first | (rw [show ((upd I5798 11 y5815) 8) = (I4643 8) from ((hI5798 8 rfl).trans (hI5765 8 rfl))] <;> omega) | omega) (by first | (rw [show ((upd I5798 11 y5815) 4) = (I5798 4) from rfl] <;> omega) | omega) (by omega))
                        exfalso; omega
                      · skip
                        have f5816 := IvM_f4 hIv
                        have f5817 := IvM_f6 hIv
                        have f5818 := IvM_f8 hIv
                        exact g_vret hk hR ⟨I5798, (up3 A5798 9 (y5807.toNatClampNeg) 100000), L5798, (show Md [4, 6, 7, 8, 9, 11, 12, 13] I I5798 from (Md.tr (Md.tr (Md.tr (Md.up Md.rf rfl) hI4643 rfl) hI5765 rfl) hI5798 rfl)), (show Md [8, 9] A (up3 A5798 9 (y5807.toNatClampNeg) 100000) from (Md.up3 (Md.tr (Md.tr (Md.tr Md.rf hA4643 rfl) hA5765 rfl) hA5798 rfl) rfl)), ⟨(IvM_f1 (I := I5798) (A := A5798) hV5798), (IvM_f2 (I := I5798) (A := A5798) hV5798), (IvM_f3 (I := I5798) (A := A5798) hV5798), (IvM_f4 (I := I5798) (A := A5798) hV5798), (IvM_f6 (I := I5798) (A := A5798) hV5798), (IvM_f8 (I := I5798) (A := A5798) hV5798), (IvM_f15 (I := I5798) (A := A5798) hV5798), (IvM_f16 (I := I5798) (A := A5798) hV5798), (IvM_f17 (I := I5798) (A := A5798) hV5798), (IvM_f18 (I := I5798) (A := A5798) hV5798), (IvM_f22 (I := I5798) (A := A5798) hV5798), (IvM_f23 (I := I5798) (A := A5798) hV5798), (IvM_f24 (I := I5798) (A := A5798) hV5798), (IvM_a11 (I := I5798) (A := A5798) hV5798), (IvM_a26 (I := I5798) (A := A5798) hV5798), (IvM_s8_0 (I := I5798) (A := A5798) hV5798), (IvM_s8_1 (I := I5798) (A := A5798) hV5798), (IvM_s10_0 (I := I5798) (A := A5798) hV5798), (IvM_s10_1 (I := I5798) (A := A5798) hV5798), (IvM_s17_0 (I := I5798) (A := A5798) hV5798), (IvM_s17_164 (I := I5798) (A := A5798) hV5798), (IvM_lv (I := I5798) (A := A5798) hV5798), (IvM_sd (I := I5798) (A := A5798) hV5798), (IvM_nq (I := I5798) (A := A5798) hV5798), (IvM_hr (I := I5798) (A := A5798) hV5798), (IvM_hh (I := I5798) (A := A5798) hV5798), trivial⟩, (by omega), (by omega), (by rw [show (I5798 8) = (I4643 8) from ((hI5798 8 rfl).trans (hI5765 8 rfl))] <;> omega), rfl, rfl⟩ dX12_tellSeries_107
                    exfalso; omega
                  exfalso; omega
              · skip
                have f5819 := IvM_f4 hIv
                have f5820 := IvM_f6 hIv
                have f5821 := IvM_f8 hIv
                exact g_vret hk hR ⟨I5765, A5765, L5765, (show Md [4, 6, 7, 8, 9, 11, 12, 13] I I5765 from (Md.tr (Md.tr (Md.up Md.rf rfl) hI4643 rfl) hI5765 rfl)), (show Md [8, 9] A A5765 from (Md.tr (Md.tr Md.rf hA4643 rfl) hA5765 rfl)), hV5765, (by rw [show (I5765 4) = (I4643 4) from (hI5765 4 rfl)] <;> omega), (by omega), (by rw [show (I5765 8) = (I4643 8) from (hI5765 8 rfl)] <;> omega), rfl, rfl⟩ dX12_tellSeries_48
          by_cases c5822 : (I 16).toInt = 1
          · have ec5822 : (I 16) = 1 := Int32.toInt_inj.mp c5822
            rw [ec5822]
            show GW κ 2 0 0 (wM r g I4643 A4643 L4643) 29 [(0, .ref (r 0))] [.int 1, .ref (r 9)]
            refine lM_8 (v := (A4643 8 1)) hk (vp_in_iff.mpr ⟨by decide, by decide⟩) rfl dX12_tellSeries_29 ?_
            have f5823 := IvM_s8_1 hV4643
            refine g_sipush (v := 160) hk dX12_tellSeries_30 (by decide) ?_
            refine g_icmp_ne (tgt := 41) (a := (A4643 8 1).toInt) (b := 160) hk dX12_tellSeries_33 (by decide) rfl rfl (fun c5824 => ?_) (fun c5824 => ?_)
            · skip
              refine g_aload_n hk dX12_tellSeries_41 rfl ?_
              refine gM_i6 (v := (I4643 6)) hk hin12 (List.mem_cons_of_mem _ (List.mem_append_left _ (List.mem_of_getElem? (i := 11) rfl))) dX12_tellSeries_42 rfl ?_
              refine g_if_le (tgt := 49) (a := (I4643 6).toInt) hk dX12_tellSeries_45 (by decide) rfl (fun c5825 => ?_) (fun c5825 => ?_)
              · skip
                refine g_aload_n hk dX12_tellSeries_49 rfl ?_
                refine g_bipush (v := 26) hk dX12_tellSeries_50 (by decide) ?_
                refine g_callV (n := 1) hk (j125_X12_is l D zt r g I4643 A4643 L4643 26 hV4643) (SP.same _) (fun _ h => h) (gi_V (List.mem_cons_of_mem _ (List.mem_append_left _ (List.mem_of_getElem? (i := 5) rfl))) (List.mem_cons_of_mem _ (List.mem_append_left _ (List.mem_of_getElem? (i := 6) rfl))) (List.mem_cons_of_mem _ (List.mem_append_left _ (List.mem_of_getElem? (i := 7) rfl))) (List.mem_cons_of_mem _ (List.mem_append_left _ (List.mem_of_getElem? (i := 4) rfl))) (gi_sub (fun w h => (List.mem_cons_of_mem _ (List.mem_append_right _ (List.mem_append_right _ (List.mem_append_right _ (List.mem_append_left _ h)))))) zg_j125_X12_is)) rfl rfl rfl (by decide +kernel) ⟨Nat.le_of_ble_eq_true rfl, Nat.le_of_ble_eq_true rfl⟩ 0 rfl rfl rfl rfl (Nat.le_of_ble_eq_true rfl) ⟨Nat.le_of_ble_eq_true rfl, Nat.le_of_ble_eq_true rfl⟩ dX12_tellSeries_52 (fun v ty' w' hp hk' => ?_)
                rcases hp with ⟨c5826, rfl, rfl⟩ | ⟨c5828, rfl, rfl⟩
                · skip
                  rw [show (A4643 2 (I4643 4).toNatClampNeg) = (A 2 (I4643 4).toNatClampNeg) from (congrFun (hA4643 2 rfl) _)] at c5826
                  show GW κ 2 0 0 (wM r g I4643 A4643 L4643) 55 [(0, .ref (r 0))] [.int 0]
                  refine g_istore_n (lv' := [(1, .int 0), (0, .ref (r 0))]) hk dX12_tellSeries_55 (by decide) rfl ?_
                  refine g_iload_n hk dX12_tellSeries_56 rfl ?_
                  refine g_if_eq (tgt := 64) (a := 0) hk dX12_tellSeries_57 (by decide) rfl (fun _ => ?_) (fun z9 => absurd (show (0 : Int) = (0 : Int) from by decide) z9)
                  refine g_aload_n hk dX12_tellSeries_64 rfl ?_
                  refine gM_r0_27 hk hin12 (List.mem_cons_of_mem _ (List.mem_append_left _ (List.mem_of_getElem? (i := 14) rfl))) dX12_tellSeries_65 ?_
                  refine g_sipush (v := 160) hk dX12_tellSeries_68 (by decide) ?_
                  refine g_aload_n hk dX12_tellSeries_71 rfl ?_
                  refine gM_i16 (v := (I 16)) hk hin12 (List.mem_cons_of_mem _ (List.mem_append_left _ (List.mem_of_getElem? (i := 13) rfl))) dX12_tellSeries_72 (hI4643 16 rfl) ?_
                  by_cases c5830 : (I 16).toInt = 1
                  · have ec5830 : (I 16) = 1 := Int32.toInt_inj.mp c5830
                    rw [ec5830]
                    show GW κ 2 0 0 (wM r g I4643 A4643 L4643) 75 [(1, .int 0), (0, .ref (r 0))] [.int 1, .int 160, .ref (r 10)]
                    refine g_imul hk dX12_tellSeries_75 ?_
                    refine g_norm (v := 160) (by decide) ?_
                    refine g_aload_n hk dX12_tellSeries_76 rfl ?_
                    refine gM_r0_26 hk hin12 (List.mem_cons_of_mem _ (List.mem_append_left _ (List.mem_of_getElem? (i := 12) rfl))) dX12_tellSeries_77 ?_
                    refine g_aload_n hk dX12_tellSeries_80 rfl ?_
                    refine gM_i16 (v := (I 16)) hk hin12 (List.mem_cons_of_mem _ (List.mem_append_left _ (List.mem_of_getElem? (i := 13) rfl))) dX12_tellSeries_81 (hI4643 16 rfl) ?_
                    by_cases c5831 : (I 16).toInt = 1
                    · have ec5831 : (I 16) = 1 := Int32.toInt_inj.mp c5831
                      rw [ec5831]
                      show GW κ 2 0 0 (wM r g I4643 A4643 L4643) 84 [(1, .int 0), (0, .ref (r 0))] [.int 1, .ref (r 9), .int 160, .ref (r 10)]
                      refine lM_8 (v := (A4643 8 1)) hk (vp_in_iff.mpr ⟨by decide, by decide⟩) rfl dX12_tellSeries_84 ?_
                      refine g_iadd hk dX12_tellSeries_85 ?_
                      refine g_topi (fun y5832 ey5832 => ?_)
                      have hy5832 : y5832.toInt = 160 + (A4643 8 1).toInt := i32_add ey5832 rfl rfl (by omega) (by omega)
                      refine g_iload_n hk dX12_tellSeries_86 rfl ?_
                      refine g_if_eq (tgt := 95) (a := 0) hk dX12_tellSeries_87 (by decide) rfl (fun _ => ?_) (fun z9 => absurd (show (0 : Int) = (0 : Int) from by decide) z9)
                      refine g_aload_n hk dX12_tellSeries_95 rfl ?_
                      refine g_callV (n := 0) hk (j132_X12_readingTold l D zt r g I4643 A4643 L4643  hV4643) (SP.same _) (fun _ h => h) (gi_V (List.mem_cons_of_mem _ (List.mem_append_left _ (List.mem_of_getElem? (i := 15) rfl))) (List.mem_cons_of_mem _ (List.mem_append_left _ (List.mem_of_getElem? (i := 16) rfl))) (List.mem_cons_of_mem _ (List.mem_append_left _ (List.mem_of_getElem? (i := 17) rfl))) (List.mem_cons_of_mem _ (List.mem_append_left _ (List.mem_of_getElem? (i := 4) rfl))) (gi_sub (fun w h => (List.mem_cons_of_mem _ (List.mem_append_right _ (List.mem_append_right _ (List.mem_append_right _ (List.mem_append_right _ (List.mem_append_right _ (List.mem_append_left _ h)))))))) zg_j132_X12_readingTold)) rfl rfl rfl (by decide +kernel) ⟨Nat.le_of_ble_eq_true rfl, Nat.le_of_ble_eq_true rfl⟩ 0 rfl rfl rfl rfl (Nat.le_of_ble_eq_true rfl) ⟨Nat.le_of_ble_eq_true rfl, Nat.le_of_ble_eq_true rfl⟩ dX12_tellSeries_96 (fun v ty' w' hp hk' => ?_)
                      obtain ⟨I5834, A5834, L5834, hI5834, hA5834, hV5834, y5833, r5835, r5836, r5837, r5838, rfl, rfl⟩ := hp
                      have f5839 := IvM_f4 hV5834
                      have f5840 := IvM_f6 hV5834
                      have f5841 := IvM_f8 hV5834
                      show GW κ 2 0 0 (wM r g I5834 A5834 L5834) 99 [(1, .int 0), (0, .ref (r 0))] [.int y5833, .int y5832, .ref (r 10)]
                      refine sM_9 (j := y5832.toNatClampNeg) hk (vp_in_iff.mpr ⟨by omega, by omega⟩) rfl dX12_tellSeries_99 ?_
                      refine g_aload_n hk dX12_tellSeries_100 rfl ?_
                      refine gM_i6 (v := (I5834 6)) hk hin12 (List.mem_cons_of_mem _ (List.mem_append_left _ (List.mem_of_getElem? (i := 11) rfl))) dX12_tellSeries_101 rfl ?_
                      refine g_if_le (tgt := 108) (a := (I5834 6).toInt) hk dX12_tellSeries_104 (by decide) rfl (fun c5842 => ?_) (fun c5842 => ?_)
                      · skip
                        refine g_aload_n hk dX12_tellSeries_108 rfl ?_
                        refine gM_r0_26 hk hin12 (List.mem_cons_of_mem _ (List.mem_append_left _ (List.mem_of_getElem? (i := 12) rfl))) dX12_tellSeries_109 ?_
                        refine g_aload_n hk dX12_tellSeries_112 rfl ?_
                        refine gM_i16 (v := (I 16)) hk hin12 (List.mem_cons_of_mem _ (List.mem_append_left _ (List.mem_of_getElem? (i := 13) rfl))) dX12_tellSeries_113 ((hI5834 16 rfl).trans (hI4643 16 rfl)) ?_
                        by_cases c5843 : (I 16).toInt = 1
                        · have ec5843 : (I 16) = 1 := Int32.toInt_inj.mp c5843
                          rw [ec5843]
                          show GW κ 2 0 0 (wM r g I5834 (up3 A5834 9 (y5832.toNatClampNeg) y5833) L5834) 116 [(1, .int 0), (0, .ref (r 0))] [.int 1, .ref (r 9)]
                          refine g_dup2 hk dX12_tellSeries_116 rfl rfl ?_
                          refine lM_8 (v := (A4643 8 1)) hk (vp_in_iff.mpr ⟨by decide, by decide⟩) (congrFun (hA5834 8 rfl) _) dX12_tellSeries_117 ?_
                          refine g_iconst (v := 1) hk dX12_tellSeries_118 (by decide) ?_
                          refine g_iadd hk dX12_tellSeries_119 ?_
                          refine g_topi (fun y5844 ey5844 => ?_)
                          have hy5844 : y5844.toInt = (A4643 8 1).toInt + 1 := i32_add ey5844 rfl rfl (by omega) (by omega)
                          refine sM_8 (j := 1) hk (vp_in_iff.mpr ⟨by decide, by decide⟩) (by decide) dX12_tellSeries_120 ?_
                          have f5845 := IvM_s8_0 hV5834
                          have f5846 := IvM_s8_1 hV5834
                          refine g_aload_n hk dX12_tellSeries_121 rfl ?_
                          refine g_dup hk dX12_tellSeries_122 rfl ?_
                          refine gM_i11 (v := (I4643 11)) hk hin12 (List.mem_cons_of_mem _ (List.mem_append_left _ (List.mem_of_getElem? (i := 0) rfl))) dX12_tellSeries_123 (hI5834 11 rfl) ?_
                          refine g_iconst (v := 1) hk dX12_tellSeries_126 (by decide) ?_
                          have b5847l := Int32.le_toInt (I4643 11)
                          have b5847h := Int32.toInt_lt (I4643 11)
                          refine g_iadd hk dX12_tellSeries_127 ?_
                          refine g_topi (fun y5848 ey5848 => ?_)
                          refine pM_i11 hk hin12 (List.mem_cons_of_mem _ (List.mem_append_left _ (List.mem_of_getElem? (i := 0) rfl))) dX12_tellSeries_128 ?_
                          refine g_goto (tgt := 5) hk dX12_tellSeries_131 (by decide) ?_
                          exact g_lv (List.forall_mem_cons.mpr ⟨List.mem_of_getElem? (i := 1) rfl, (fun _ h => absurd h List.not_mem_nil)⟩) (ih5679 (upd I5834 11 y5848) (up3 (up3 A5834 9 (y5832.toNatClampNeg) y5833) 8 1 y5844) L5834 (show Md [4, 6, 7, 8, 9, 11, 12, 13] (upd I 11 0) (upd I5834 11 y5848) from Md.tr hI4643 (show Md [4, 6, 7, 8, 9, 11, 12, 13] I4643 (upd I5834 11 y5848) from (Md.up (Md.tr Md.rf hI5834 rfl) rfl)) rfl) (show Md [8, 9] A (up3 (up3 A5834 9 (y5832.toNatClampNeg) y5833) 8 1 y5844) from Md.tr hA4643 (show Md [8, 9] A4643 (up3 (up3 A5834 9 (y5832.toNatClampNeg) y5833) 8 1 y5844) from (Md.up3 (Md.up3 (Md.tr Md.rf hA5834 rfl) rfl) rfl)) rfl) ⟨(IvM_f1 (I := I5834) (A := A5834) hV5834), (IvM_f2 (I := I5834) (A := A5834) hV5834), (IvM_f3 (I := I5834) (A := A5834) hV5834), (IvM_f4 (I := I5834) (A := A5834) hV5834), (IvM_f6 (I := I5834) (A := A5834) hV5834), (IvM_f8 (I := I5834) (A := A5834) hV5834), (IvM_f15 (I := I5834) (A := A5834) hV5834), (IvM_f16 (I := I5834) (A := A5834) hV5834), (IvM_f17 (I := I5834) (A := A5834) hV5834), (IvM_f18 (I := I5834) (A := A5834) hV5834), (IvM_f22 (I := I5834) (A := A5834) hV5834), (IvM_f23 (I := I5834) (A := A5834) hV5834), (IvM_f24 (I := I5834) (A := A5834) hV5834), (IvM_a11 (I := I5834) (A := A5834) hV5834), (IvM_a26 (I := I5834) (A := A5834) hV5834), (show 0 ≤ ((up3 (up3 A5834 9 (y5832.toNatClampNeg) y5833) 8 1 y5844) 8 0).toInt ∧ ((up3 (up3 A5834 9 (y5832.toNatClampNeg) y5833) 8 1 y5844) 8 0).toInt ≤ 160 from by rw [show (up3 (up3 A5834 9 (y5832.toNatClampNeg) y5833) 8 1 y5844) 8 0 = (A5834 8 0) from rfl]; exact (IvM_s8_0 (I := I5834) (A := A5834) hV5834)), (show 0 ≤ ((up3 (up3 A5834 9 (y5832.toNatClampNeg) y5833) 8 1 y5844) 8 1).toInt ∧ ((up3 (up3 A5834 9 (y5832.toNatClampNeg) y5833) 8 1 y5844) 8 1).toInt ≤ 160 from by rw [show (up3 (up3 A5834 9 (y5832.toNatClampNeg) y5833) 8 1 y5844) 8 1 = y5844 from rfl]; exact ⟨by omega, by omega⟩), (IvM_s10_0 (I := I5834) (A := A5834) hV5834), (IvM_s10_1 (I := I5834) (A := A5834) hV5834), (IvM_s17_0 (I := I5834) (A := A5834) hV5834), (IvM_s17_164 (I := I5834) (A := A5834) hV5834), (IvM_lv (I := I5834) (A := A5834) hV5834), (IvM_sd (I := I5834) (A := A5834) hV5834), (IvM_nq (I := I5834) (A := A5834) hV5834), (IvM_hr (I := I5834) (A := A5834) hV5834), (IvM_hh (I := I5834) (A := A5834) hV5834), trivial⟩ (by first | (rw [show ((upd I5834 11 y5848) 4) = (I5834 4) from rfl] <;> omega) | omega) (by first | (rw [show ((upd I5834 11 y5848) 6) = (I5834 6) from rfl] <;> omega) | omega) (by first | (rw [show ((upd I5834 11 y5848) 8) = (I5834 8) from rfl] <;> omega) | omega) (by first | (rw [show ((upd I5834 11 y5848) 4) = (I5834 4) from rfl] <;> omega) | omega) (by omega))
                        exfalso; omega
                      · skip
                        have f5849 := IvM_f4 hIv
                        have f5850 := IvM_f6 hIv
                        have f5851 := IvM_f8 hIv
                        exact g_vret hk hR ⟨I5834, (up3 A5834 9 (y5832.toNatClampNeg) y5833), L5834, (show Md [4, 6, 7, 8, 9, 11, 12, 13] I I5834 from (Md.tr (Md.tr (Md.up Md.rf rfl) hI4643 rfl) hI5834 rfl)), (show Md [8, 9] A (up3 A5834 9 (y5832.toNatClampNeg) y5833) from (Md.up3 (Md.tr (Md.tr Md.rf hA4643 rfl) hA5834 rfl) rfl)), ⟨(IvM_f1 (I := I5834) (A := A5834) hV5834), (IvM_f2 (I := I5834) (A := A5834) hV5834), (IvM_f3 (I := I5834) (A := A5834) hV5834), (IvM_f4 (I := I5834) (A := A5834) hV5834), (IvM_f6 (I := I5834) (A := A5834) hV5834), (IvM_f8 (I := I5834) (A := A5834) hV5834), (IvM_f15 (I := I5834) (A := A5834) hV5834), (IvM_f16 (I := I5834) (A := A5834) hV5834), (IvM_f17 (I := I5834) (A := A5834) hV5834), (IvM_f18 (I := I5834) (A := A5834) hV5834), (IvM_f22 (I := I5834) (A := A5834) hV5834), (IvM_f23 (I := I5834) (A := A5834) hV5834), (IvM_f24 (I := I5834) (A := A5834) hV5834), (IvM_a11 (I := I5834) (A := A5834) hV5834), (IvM_a26 (I := I5834) (A := A5834) hV5834), (IvM_s8_0 (I := I5834) (A := A5834) hV5834), (IvM_s8_1 (I := I5834) (A := A5834) hV5834), (IvM_s10_0 (I := I5834) (A := A5834) hV5834), (IvM_s10_1 (I := I5834) (A := A5834) hV5834), (IvM_s17_0 (I := I5834) (A := A5834) hV5834), (IvM_s17_164 (I := I5834) (A := A5834) hV5834), (IvM_lv (I := I5834) (A := A5834) hV5834), (IvM_sd (I := I5834) (A := A5834) hV5834), (IvM_nq (I := I5834) (A := A5834) hV5834), (IvM_hr (I := I5834) (A := A5834) hV5834), (IvM_hh (I := I5834) (A := A5834) hV5834), trivial⟩, (by omega), (by omega), (by omega), rfl, rfl⟩ dX12_tellSeries_107
                    exfalso; omega
                  exfalso; omega
                · skip
                  rw [show (A4643 2 (I4643 4).toNatClampNeg) = (A 2 (I4643 4).toNatClampNeg) from (congrFun (hA4643 2 rfl) _)] at c5828
                  show GW κ 2 0 0 (wM r g I4643 A4643 L4643) 55 [(0, .ref (r 0))] [.int 1]
                  refine g_istore_n (lv' := [(1, .int 1), (0, .ref (r 0))]) hk dX12_tellSeries_55 (by decide) rfl ?_
                  refine g_iload_n hk dX12_tellSeries_56 rfl ?_
                  refine g_if_eq (tgt := 64) (a := 1) hk dX12_tellSeries_57 (by decide) rfl (fun z9 => absurd z9 (show ¬ ((1 : Int) = (0 : Int)) from by decide)) (fun _ => ?_)
                  refine g_aload_n hk dX12_tellSeries_60 rfl ?_
                  refine g_callV (n := 0) hk (j127_X12_goesOn l D zt r g I4643 A4643 L4643  hV4643) (SP.same _) (fun _ h => h) (gi_V (List.mem_cons_of_mem _ (List.mem_append_left _ (List.mem_of_getElem? (i := 18) rfl))) (List.mem_cons_of_mem _ (List.mem_append_left _ (List.mem_of_getElem? (i := 19) rfl))) (List.mem_cons_of_mem _ (List.mem_append_left _ (List.mem_of_getElem? (i := 20) rfl))) (List.mem_cons_of_mem _ (List.mem_append_left _ (List.mem_of_getElem? (i := 4) rfl))) (gi_sub (fun w h => (List.mem_cons_of_mem _ (List.mem_append_right _ (List.mem_append_right _ (List.mem_append_right _ (List.mem_append_right _ (List.mem_append_right _ (List.mem_append_right _ (List.mem_append_left _ h))))))))) zg_j127_X12_goesOn)) rfl rfl rfl (by decide +kernel) ⟨Nat.le_of_ble_eq_true rfl, Nat.le_of_ble_eq_true rfl⟩ 0 rfl rfl rfl rfl (Nat.le_of_ble_eq_true rfl) ⟨Nat.le_of_ble_eq_true rfl, Nat.le_of_ble_eq_true rfl⟩ dX12_tellSeries_61 (fun v ty' w' hp hk' => ?_)
                  obtain ⟨I5853, A5853, L5853, hI5853, hA5853, hV5853, r5854, r5855, r5856, r5857, rfl, rfl⟩ := hp
                  have f5858 := IvM_f4 hV5853
                  have f5859 := IvM_f6 hV5853
                  rw [show (I5853 8) = (I4643 8) from (hI5853 8 rfl)] at r5856
                  show GW κ 2 0 0 (wM r g I5853 A5853 L5853) 64 [(1, .int 1), (0, .ref (r 0))] []
                  refine g_aload_n hk dX12_tellSeries_64 rfl ?_
                  refine gM_r0_27 hk hin12 (List.mem_cons_of_mem _ (List.mem_append_left _ (List.mem_of_getElem? (i := 14) rfl))) dX12_tellSeries_65 ?_
                  refine g_sipush (v := 160) hk dX12_tellSeries_68 (by decide) ?_
                  refine g_aload_n hk dX12_tellSeries_71 rfl ?_
                  refine gM_i16 (v := (I 16)) hk hin12 (List.mem_cons_of_mem _ (List.mem_append_left _ (List.mem_of_getElem? (i := 13) rfl))) dX12_tellSeries_72 ((hI5853 16 rfl).trans (hI4643 16 rfl)) ?_
                  by_cases c5860 : (I 16).toInt = 1
                  · have ec5860 : (I 16) = 1 := Int32.toInt_inj.mp c5860
                    rw [ec5860]
                    show GW κ 2 0 0 (wM r g I5853 A5853 L5853) 75 [(1, .int 1), (0, .ref (r 0))] [.int 1, .int 160, .ref (r 10)]
                    refine g_imul hk dX12_tellSeries_75 ?_
                    refine g_norm (v := 160) (by decide) ?_
                    refine g_aload_n hk dX12_tellSeries_76 rfl ?_
                    refine gM_r0_26 hk hin12 (List.mem_cons_of_mem _ (List.mem_append_left _ (List.mem_of_getElem? (i := 12) rfl))) dX12_tellSeries_77 ?_
                    refine g_aload_n hk dX12_tellSeries_80 rfl ?_
                    refine gM_i16 (v := (I 16)) hk hin12 (List.mem_cons_of_mem _ (List.mem_append_left _ (List.mem_of_getElem? (i := 13) rfl))) dX12_tellSeries_81 ((hI5853 16 rfl).trans (hI4643 16 rfl)) ?_
                    by_cases c5861 : (I 16).toInt = 1
                    · have ec5861 : (I 16) = 1 := Int32.toInt_inj.mp c5861
                      rw [ec5861]
                      show GW κ 2 0 0 (wM r g I5853 A5853 L5853) 84 [(1, .int 1), (0, .ref (r 0))] [.int 1, .ref (r 9), .int 160, .ref (r 10)]
                      refine lM_8 (v := (A4643 8 1)) hk (vp_in_iff.mpr ⟨by decide, by decide⟩) (congrFun (hA5853 8 rfl) _) dX12_tellSeries_84 ?_
                      refine g_iadd hk dX12_tellSeries_85 ?_
                      refine g_topi (fun y5862 ey5862 => ?_)
                      have hy5862 : y5862.toInt = 160 + (A4643 8 1).toInt := i32_add ey5862 rfl rfl (by omega) (by omega)
                      refine g_iload_n hk dX12_tellSeries_86 rfl ?_
                      refine g_if_eq (tgt := 95) (a := 1) hk dX12_tellSeries_87 (by decide) rfl (fun z9 => absurd z9 (show ¬ ((1 : Int) = (0 : Int)) from by decide)) (fun _ => ?_)
                      refine g_ldc (v := 100000) hk (List.mem_cons_of_mem _ (List.mem_append_left _ (List.mem_of_getElem? (i := 21) rfl))) dX12_tellSeries_90 ?_
                      refine g_goto (tgt := 99) hk dX12_tellSeries_92 (by decide) ?_
                      have k5863 : (100000 : Int32).toInt = 100000 := rfl
                      refine sM_9 (j := y5862.toNatClampNeg) hk (vp_in_iff.mpr ⟨by omega, by omega⟩) rfl dX12_tellSeries_99 ?_
                      refine g_aload_n hk dX12_tellSeries_100 rfl ?_
                      refine gM_i6 (v := (I5853 6)) hk hin12 (List.mem_cons_of_mem _ (List.mem_append_left _ (List.mem_of_getElem? (i := 11) rfl))) dX12_tellSeries_101 rfl ?_
                      refine g_if_le (tgt := 108) (a := (I5853 6).toInt) hk dX12_tellSeries_104 (by decide) rfl (fun c5864 => ?_) (fun c5864 => ?_)
                      · skip
                        refine g_aload_n hk dX12_tellSeries_108 rfl ?_
                        refine gM_r0_26 hk hin12 (List.mem_cons_of_mem _ (List.mem_append_left _ (List.mem_of_getElem? (i := 12) rfl))) dX12_tellSeries_109 ?_
                        refine g_aload_n hk dX12_tellSeries_112 rfl ?_
                        refine gM_i16 (v := (I 16)) hk hin12 (List.mem_cons_of_mem _ (List.mem_append_left _ (List.mem_of_getElem? (i := 13) rfl))) dX12_tellSeries_113 ((hI5853 16 rfl).trans (hI4643 16 rfl)) ?_
                        by_cases c5865 : (I 16).toInt = 1
                        · have ec5865 : (I 16) = 1 := Int32.toInt_inj.mp c5865
                          rw [ec5865]
                          show GW κ 2 0 0 (wM r g I5853 (up3 A5853 9 (y5862.toNatClampNeg) 100000) L5853) 116 [(1, .int 1), (0, .ref (r 0))] [.int 1, .ref (r 9)]
                          refine g_dup2 hk dX12_tellSeries_116 rfl rfl ?_
                          refine lM_8 (v := (A4643 8 1)) hk (vp_in_iff.mpr ⟨by decide, by decide⟩) (congrFun (hA5853 8 rfl) _) dX12_tellSeries_117 ?_
                          refine g_iconst (v := 1) hk dX12_tellSeries_118 (by decide) ?_
                          refine g_iadd hk dX12_tellSeries_119 ?_
                          refine g_topi (fun y5866 ey5866 => ?_)
                          have hy5866 : y5866.toInt = (A4643 8 1).toInt + 1 := i32_add ey5866 rfl rfl (by omega) (by omega)
                          refine sM_8 (j := 1) hk (vp_in_iff.mpr ⟨by decide, by decide⟩) (by decide) dX12_tellSeries_120 ?_
                          have f5867 := IvM_s8_0 hV5853
                          have f5868 := IvM_s8_1 hV5853
                          refine g_aload_n hk dX12_tellSeries_121 rfl ?_
                          refine g_dup hk dX12_tellSeries_122 rfl ?_
                          refine gM_i11 (v := (I4643 11)) hk hin12 (List.mem_cons_of_mem _ (List.mem_append_left _ (List.mem_of_getElem? (i := 0) rfl))) dX12_tellSeries_123 (hI5853 11 rfl) ?_
                          refine g_iconst (v := 1) hk dX12_tellSeries_126 (by decide) ?_
                          have b5869l := Int32.le_toInt (I4643 11)
                          have b5869h := Int32.toInt_lt (I4643 11)
                          refine g_iadd hk dX12_tellSeries_127 ?_
                          refine g_topi (fun y5870 ey5870 => ?_)
                          refine pM_i11 hk hin12 (List.mem_cons_of_mem _ (List.mem_append_left _ (List.mem_of_getElem? (i := 0) rfl))) dX12_tellSeries_128 ?_
                          refine g_goto (tgt := 5) hk dX12_tellSeries_131 (by decide) ?_
                          exact g_lv (List.forall_mem_cons.mpr ⟨List.mem_of_getElem? (i := 1) rfl, (fun _ h => absurd h List.not_mem_nil)⟩) (ih5679 (upd I5853 11 y5870) (up3 (up3 A5853 9 (y5862.toNatClampNeg) 100000) 8 1 y5866) L5853 (show Md [4, 6, 7, 8, 9, 11, 12, 13] (upd I 11 0) (upd I5853 11 y5870) from Md.tr hI4643 (show Md [4, 6, 7, 8, 9, 11, 12, 13] I4643 (upd I5853 11 y5870) from (Md.up (Md.tr Md.rf hI5853 rfl) rfl)) rfl) (show Md [8, 9] A (up3 (up3 A5853 9 (y5862.toNatClampNeg) 100000) 8 1 y5866) from Md.tr hA4643 (show Md [8, 9] A4643 (up3 (up3 A5853 9 (y5862.toNatClampNeg) 100000) 8 1 y5866) from (Md.up3 (Md.up3 (Md.tr Md.rf hA5853 rfl) rfl) rfl)) rfl) ⟨(IvM_f1 (I := I5853) (A := A5853) hV5853), (IvM_f2 (I := I5853) (A := A5853) hV5853), (IvM_f3 (I := I5853) (A := A5853) hV5853), (IvM_f4 (I := I5853) (A := A5853) hV5853), (IvM_f6 (I := I5853) (A := A5853) hV5853), (IvM_f8 (I := I5853) (A := A5853) hV5853), (IvM_f15 (I := I5853) (A := A5853) hV5853), (IvM_f16 (I := I5853) (A := A5853) hV5853), (IvM_f17 (I := I5853) (A := A5853) hV5853), (IvM_f18 (I := I5853) (A := A5853) hV5853), (IvM_f22 (I := I5853) (A := A5853) hV5853), (IvM_f23 (I := I5853) (A := A5853) hV5853), (IvM_f24 (I := I5853) (A := A5853) hV5853), (IvM_a11 (I := I5853) (A := A5853) hV5853), (IvM_a26 (I := I5853) (A := A5853) hV5853), (show 0 ≤ ((up3 (up3 A5853 9 (y5862.toNatClampNeg) 100000) 8 1 y5866) 8 0).toInt ∧ ((up3 (up3 A5853 9 (y5862.toNatClampNeg) 100000) 8 1 y5866) 8 0).toInt ≤ 160 from by rw [show (up3 (up3 A5853 9 (y5862.toNatClampNeg) 100000) 8 1 y5866) 8 0 = (A5853 8 0) from rfl]; exact (IvM_s8_0 (I := I5853) (A := A5853) hV5853)), (show 0 ≤ ((up3 (up3 A5853 9 (y5862.toNatClampNeg) 100000) 8 1 y5866) 8 1).toInt ∧ ((up3 (up3 A5853 9 (y5862.toNatClampNeg) 100000) 8 1 y5866) 8 1).toInt ≤ 160 from by rw [show (up3 (up3 A5853 9 (y5862.toNatClampNeg) 100000) 8 1 y5866) 8 1 = y5866 from rfl]; exact ⟨by omega, by omega⟩), (IvM_s10_0 (I := I5853) (A := A5853) hV5853), (IvM_s10_1 (I := I5853) (A := A5853) hV5853), (IvM_s17_0 (I := I5853) (A := A5853) hV5853), (IvM_s17_164 (I := I5853) (A := A5853) hV5853), (IvM_lv (I := I5853) (A := A5853) hV5853), (IvM_sd (I := I5853) (A := A5853) hV5853), (IvM_nq (I := I5853) (A := A5853) hV5853), (IvM_hr (I := I5853) (A := A5853) hV5853), (IvM_hh (I := I5853) (A := A5853) hV5853), trivial⟩ (by first | (rw [show ((upd I5853 11 y5870) 4) = (I5853 4) from rfl] <;> omega) | omega) (by first | (rw [show ((upd I5853 11 y5870) 6) = (I5853 6) from rfl] <;> omega) | omega) (by first | (rw [show ((upd I5853 11 y5870) 8) = (I4643 8) from (hI5853 8 rfl)] <;> omega) | omega) (by first | (rw [show ((upd I5853 11 y5870) 4) = (I5853 4) from rfl] <;> omega) | omega) (by omega))
                        exfalso; omega
                      · skip
                        have f5871 := IvM_f4 hIv
                        have f5872 := IvM_f6 hIv
                        have f5873 := IvM_f8 hIv
                        exact g_vret hk hR ⟨I5853, (up3 A5853 9 (y5862.toNatClampNeg) 100000), L5853, (show Md [4, 6, 7, 8, 9, 11, 12, 13] I I5853 from (Md.tr (Md.tr (Md.up Md.rf rfl) hI4643 rfl) hI5853 rfl)), (show Md [8, 9] A (up3 A5853 9 (y5862.toNatClampNeg) 100000) from (Md.up3 (Md.tr (Md.tr Md.rf hA4643 rfl) hA5853 rfl) rfl)), ⟨(IvM_f1 (I := I5853) (A := A5853) hV5853), (IvM_f2 (I := I5853) (A := A5853) hV5853), (IvM_f3 (I := I5853) (A := A5853) hV5853), (IvM_f4 (I := I5853) (A := A5853) hV5853), (IvM_f6 (I := I5853) (A := A5853) hV5853), (IvM_f8 (I := I5853) (A := A5853) hV5853), (IvM_f15 (I := I5853) (A := A5853) hV5853), (IvM_f16 (I := I5853) (A := A5853) hV5853), (IvM_f17 (I := I5853) (A := A5853) hV5853), (IvM_f18 (I := I5853) (A := A5853) hV5853), (IvM_f22 (I := I5853) (A := A5853) hV5853), (IvM_f23 (I := I5853) (A := A5853) hV5853), (IvM_f24 (I := I5853) (A := A5853) hV5853), (IvM_a11 (I := I5853) (A := A5853) hV5853), (IvM_a26 (I := I5853) (A := A5853) hV5853), (IvM_s8_0 (I := I5853) (A := A5853) hV5853), (IvM_s8_1 (I := I5853) (A := A5853) hV5853), (IvM_s10_0 (I := I5853) (A := A5853) hV5853), (IvM_s10_1 (I := I5853) (A := A5853) hV5853), (IvM_s17_0 (I := I5853) (A := A5853) hV5853), (IvM_s17_164 (I := I5853) (A := A5853) hV5853), (IvM_lv (I := I5853) (A := A5853) hV5853), (IvM_sd (I := I5853) (A := A5853) hV5853), (IvM_nq (I := I5853) (A := A5853) hV5853), (IvM_hr (I := I5853) (A := A5853) hV5853), (IvM_hh (I := I5853) (A := A5853) hV5853), trivial⟩, (by omega), (by omega), (by rw [show (I5853 8) = (I4643 8) from (hI5853 8 rfl)] <;> omega), rfl, rfl⟩ dX12_tellSeries_107
                    exfalso; omega
                  exfalso; omega
              · skip
                have f5874 := IvM_f4 hIv
                have f5875 := IvM_f6 hIv
                have f5876 := IvM_f8 hIv
                exact g_vret hk hR ⟨I4643, A4643, L4643, (show Md [4, 6, 7, 8, 9, 11, 12, 13] I I4643 from (Md.tr (Md.up Md.rf rfl) hI4643 rfl)), (show Md [8, 9] A A4643 from (Md.tr Md.rf hA4643 rfl)), hV4643, (by omega), (by omega), (by omega), rfl, rfl⟩ dX12_tellSeries_48
            · skip
              refine g_aload_n hk dX12_tellSeries_36 rfl ?_
              refine g_iconst (v := 2) hk dX12_tellSeries_37 (by decide) ?_
              have k5877 : (2 : Int32).toInt = 2 := rfl
              refine g_callV (n := 1) hk (j128_X12_fail l D zt r g I4643 A4643 L4643 2 hV4643 (by decide) (by decide)) (SP.same _) (fun _ h => h) (gi_V (List.mem_cons_of_mem _ (List.mem_append_left _ (List.mem_of_getElem? (i := 22) rfl))) (List.mem_cons_of_mem _ (List.mem_append_left _ (List.mem_of_getElem? (i := 23) rfl))) (List.mem_cons_of_mem _ (List.mem_append_left _ (List.mem_of_getElem? (i := 24) rfl))) (List.mem_cons_of_mem _ (List.mem_append_left _ (List.mem_of_getElem? (i := 4) rfl))) (gi_sub (fun w h => (List.mem_cons_of_mem _ (List.mem_append_right _ (List.mem_append_right _ (List.mem_append_right _ (List.mem_append_right _ (List.mem_append_right _ (List.mem_append_right _ (List.mem_append_right _ (List.mem_append_left _ h)))))))))) zg_j128_X12_fail)) rfl rfl rfl (by decide +kernel) ⟨Nat.le_of_ble_eq_true rfl, Nat.le_of_ble_eq_true rfl⟩ 0 rfl rfl rfl rfl (Nat.le_of_ble_eq_true rfl) ⟨Nat.le_of_ble_eq_true rfl, Nat.le_of_ble_eq_true rfl⟩ dX12_tellSeries_38 (fun v ty' w' hp hk' => ?_)
              obtain ⟨I5879, A5879, L5879, hI5879, hA5879, hV5879, r5880, r5881, r5882, rfl, rfl⟩ := hp
              have f5883 := IvM_f6 hV5879
              rw [show (I5879 8) = (I4643 8) from (hI5879 8 rfl)] at r5881
              show GW κ 2 0 0 (wM r g I5879 A5879 L5879) 41 [(0, .ref (r 0))] []
              refine g_aload_n hk dX12_tellSeries_41 rfl ?_
              refine gM_i6 (v := (I5879 6)) hk hin12 (List.mem_cons_of_mem _ (List.mem_append_left _ (List.mem_of_getElem? (i := 11) rfl))) dX12_tellSeries_42 rfl ?_
              refine g_if_le (tgt := 49) (a := (I5879 6).toInt) hk dX12_tellSeries_45 (by decide) rfl (fun c5884 => ?_) (fun c5884 => ?_)
              · skip
                refine g_aload_n hk dX12_tellSeries_49 rfl ?_
                refine g_bipush (v := 26) hk dX12_tellSeries_50 (by decide) ?_
                refine g_callV (n := 1) hk (j125_X12_is l D zt r g I5879 A5879 L5879 26 hV5879) (SP.same _) (fun _ h => h) (gi_V (List.mem_cons_of_mem _ (List.mem_append_left _ (List.mem_of_getElem? (i := 5) rfl))) (List.mem_cons_of_mem _ (List.mem_append_left _ (List.mem_of_getElem? (i := 6) rfl))) (List.mem_cons_of_mem _ (List.mem_append_left _ (List.mem_of_getElem? (i := 7) rfl))) (List.mem_cons_of_mem _ (List.mem_append_left _ (List.mem_of_getElem? (i := 4) rfl))) (gi_sub (fun w h => (List.mem_cons_of_mem _ (List.mem_append_right _ (List.mem_append_right _ (List.mem_append_right _ (List.mem_append_left _ h)))))) zg_j125_X12_is)) rfl rfl rfl (by decide +kernel) ⟨Nat.le_of_ble_eq_true rfl, Nat.le_of_ble_eq_true rfl⟩ 0 rfl rfl rfl rfl (Nat.le_of_ble_eq_true rfl) ⟨Nat.le_of_ble_eq_true rfl, Nat.le_of_ble_eq_true rfl⟩ dX12_tellSeries_52 (fun v ty' w' hp hk' => ?_)
                rcases hp with ⟨c5885, rfl, rfl⟩ | ⟨c5887, rfl, rfl⟩
                · skip
                  rw [show (A5879 2 (I5879 4).toNatClampNeg) = (A 2 (I4643 4).toNatClampNeg) from (by rw [show I5879 4 = (I4643 4) from (hI5879 4 rfl)]; exact ((congrFun (hA5879 2 rfl) _).trans (congrFun (hA4643 2 rfl) _)))] at c5885
                  show GW κ 2 0 0 (wM r g I5879 A5879 L5879) 55 [(0, .ref (r 0))] [.int 0]
                  refine g_istore_n (lv' := [(1, .int 0), (0, .ref (r 0))]) hk dX12_tellSeries_55 (by decide) rfl ?_
                  refine g_iload_n hk dX12_tellSeries_56 rfl ?_
                  refine g_if_eq (tgt := 64) (a := 0) hk dX12_tellSeries_57 (by decide) rfl (fun _ => ?_) (fun z9 => absurd (show (0 : Int) = (0 : Int) from by decide) z9)
                  refine g_aload_n hk dX12_tellSeries_64 rfl ?_
                  refine gM_r0_27 hk hin12 (List.mem_cons_of_mem _ (List.mem_append_left _ (List.mem_of_getElem? (i := 14) rfl))) dX12_tellSeries_65 ?_
                  refine g_sipush (v := 160) hk dX12_tellSeries_68 (by decide) ?_
                  refine g_aload_n hk dX12_tellSeries_71 rfl ?_
                  refine gM_i16 (v := (I 16)) hk hin12 (List.mem_cons_of_mem _ (List.mem_append_left _ (List.mem_of_getElem? (i := 13) rfl))) dX12_tellSeries_72 ((hI5879 16 rfl).trans (hI4643 16 rfl)) ?_
                  by_cases c5889 : (I 16).toInt = 1
                  · have ec5889 : (I 16) = 1 := Int32.toInt_inj.mp c5889
                    rw [ec5889]
                    show GW κ 2 0 0 (wM r g I5879 A5879 L5879) 75 [(1, .int 0), (0, .ref (r 0))] [.int 1, .int 160, .ref (r 10)]
                    refine g_imul hk dX12_tellSeries_75 ?_
                    refine g_norm (v := 160) (by decide) ?_
                    refine g_aload_n hk dX12_tellSeries_76 rfl ?_
                    refine gM_r0_26 hk hin12 (List.mem_cons_of_mem _ (List.mem_append_left _ (List.mem_of_getElem? (i := 12) rfl))) dX12_tellSeries_77 ?_
                    refine g_aload_n hk dX12_tellSeries_80 rfl ?_
                    refine gM_i16 (v := (I 16)) hk hin12 (List.mem_cons_of_mem _ (List.mem_append_left _ (List.mem_of_getElem? (i := 13) rfl))) dX12_tellSeries_81 ((hI5879 16 rfl).trans (hI4643 16 rfl)) ?_
                    by_cases c5890 : (I 16).toInt = 1
                    · have ec5890 : (I 16) = 1 := Int32.toInt_inj.mp c5890
                      rw [ec5890]
                      show GW κ 2 0 0 (wM r g I5879 A5879 L5879) 84 [(1, .int 0), (0, .ref (r 0))] [.int 1, .ref (r 9), .int 160, .ref (r 10)]
                      refine lM_8 (v := (A4643 8 1)) hk (vp_in_iff.mpr ⟨by decide, by decide⟩) (congrFun (hA5879 8 rfl) _) dX12_tellSeries_84 ?_
                      refine g_iadd hk dX12_tellSeries_85 ?_
                      refine g_topi (fun y5891 ey5891 => ?_)
                      have hy5891 : y5891.toInt = 160 + (A4643 8 1).toInt := i32_add ey5891 rfl rfl (by omega) (by omega)
                      refine g_iload_n hk dX12_tellSeries_86 rfl ?_
                      refine g_if_eq (tgt := 95) (a := 0) hk dX12_tellSeries_87 (by decide) rfl (fun _ => ?_) (fun z9 => absurd (show (0 : Int) = (0 : Int) from by decide) z9)
                      refine g_aload_n hk dX12_tellSeries_95 rfl ?_
                      refine g_callV (n := 0) hk (j132_X12_readingTold l D zt r g I5879 A5879 L5879  hV5879) (SP.same _) (fun _ h => h) (gi_V (List.mem_cons_of_mem _ (List.mem_append_left _ (List.mem_of_getElem? (i := 15) rfl))) (List.mem_cons_of_mem _ (List.mem_append_left _ (List.mem_of_getElem? (i := 16) rfl))) (List.mem_cons_of_mem _ (List.mem_append_left _ (List.mem_of_getElem? (i := 17) rfl))) (List.mem_cons_of_mem _ (List.mem_append_left _ (List.mem_of_getElem? (i := 4) rfl))) (gi_sub (fun w h => (List.mem_cons_of_mem _ (List.mem_append_right _ (List.mem_append_right _ (List.mem_append_right _ (List.mem_append_right _ (List.mem_append_right _ (List.mem_append_left _ h)))))))) zg_j132_X12_readingTold)) rfl rfl rfl (by decide +kernel) ⟨Nat.le_of_ble_eq_true rfl, Nat.le_of_ble_eq_true rfl⟩ 0 rfl rfl rfl rfl (Nat.le_of_ble_eq_true rfl) ⟨Nat.le_of_ble_eq_true rfl, Nat.le_of_ble_eq_true rfl⟩ dX12_tellSeries_96 (fun v ty' w' hp hk' => ?_)
                      obtain ⟨I5893, A5893, L5893, hI5893, hA5893, hV5893, y5892, r5894, r5895, r5896, r5897, rfl, rfl⟩ := hp
                      have f5898 := IvM_f4 hV5893
                      rw [show (I5879 4) = (I4643 4) from (hI5879 4 rfl)] at r5894
                      have f5899 := IvM_f6 hV5893
                      have f5900 := IvM_f8 hV5893
                      rw [show (I5879 8) = (I4643 8) from (hI5879 8 rfl)] at r5896
                      rw [show (I5879 4) = (I4643 4) from (hI5879 4 rfl)] at r5897
                      show GW κ 2 0 0 (wM r g I5893 A5893 L5893) 99 [(1, .int 0), (0, .ref (r 0))] [.int y5892, .int y5891, .ref (r 10)]
                      refine sM_9 (j := y5891.toNatClampNeg) hk (vp_in_iff.mpr ⟨by omega, by omega⟩) rfl dX12_tellSeries_99 ?_
                      refine g_aload_n hk dX12_tellSeries_100 rfl ?_
                      refine gM_i6 (v := (I5893 6)) hk hin12 (List.mem_cons_of_mem _ (List.mem_append_left _ (List.mem_of_getElem? (i := 11) rfl))) dX12_tellSeries_101 rfl ?_
                      refine g_if_le (tgt := 108) (a := (I5893 6).toInt) hk dX12_tellSeries_104 (by decide) rfl (fun c5901 => ?_) (fun c5901 => ?_)
                      · skip
                        refine g_aload_n hk dX12_tellSeries_108 rfl ?_
                        refine gM_r0_26 hk hin12 (List.mem_cons_of_mem _ (List.mem_append_left _ (List.mem_of_getElem? (i := 12) rfl))) dX12_tellSeries_109 ?_
                        refine g_aload_n hk dX12_tellSeries_112 rfl ?_
                        refine gM_i16 (v := (I 16)) hk hin12 (List.mem_cons_of_mem _ (List.mem_append_left _ (List.mem_of_getElem? (i := 13) rfl))) dX12_tellSeries_113 ((hI5893 16 rfl).trans ((hI5879 16 rfl).trans (hI4643 16 rfl))) ?_
                        by_cases c5902 : (I 16).toInt = 1
                        · have ec5902 : (I 16) = 1 := Int32.toInt_inj.mp c5902
                          rw [ec5902]
                          show GW κ 2 0 0 (wM r g I5893 (up3 A5893 9 (y5891.toNatClampNeg) y5892) L5893) 116 [(1, .int 0), (0, .ref (r 0))] [.int 1, .ref (r 9)]
                          refine g_dup2 hk dX12_tellSeries_116 rfl rfl ?_
                          refine lM_8 (v := (A4643 8 1)) hk (vp_in_iff.mpr ⟨by decide, by decide⟩) ((congrFun (hA5893 8 rfl) _).trans (congrFun (hA5879 8 rfl) _)) dX12_tellSeries_117 ?_
                          refine g_iconst (v := 1) hk dX12_tellSeries_118 (by decide) ?_
                          refine g_iadd hk dX12_tellSeries_119 ?_
                          refine g_topi (fun y5903 ey5903 => ?_)
                          have hy5903 : y5903.toInt = (A4643 8 1).toInt + 1 := i32_add ey5903 rfl rfl (by omega) (by omega)
                          refine sM_8 (j := 1) hk (vp_in_iff.mpr ⟨by decide, by decide⟩) (by decide) dX12_tellSeries_120 ?_
                          have f5904 := IvM_s8_0 hV5893
                          have f5905 := IvM_s8_1 hV5893
                          refine g_aload_n hk dX12_tellSeries_121 rfl ?_
                          refine g_dup hk dX12_tellSeries_122 rfl ?_
                          refine gM_i11 (v := (I4643 11)) hk hin12 (List.mem_cons_of_mem _ (List.mem_append_left _ (List.mem_of_getElem? (i := 0) rfl))) dX12_tellSeries_123 ((hI5893 11 rfl).trans (hI5879 11 rfl)) ?_
                          refine g_iconst (v := 1) hk dX12_tellSeries_126 (by decide) ?_
                          have b5906l := Int32.le_toInt (I4643 11)
                          have b5906h := Int32.toInt_lt (I4643 11)
                          refine g_iadd hk dX12_tellSeries_127 ?_
                          refine g_topi (fun y5907 ey5907 => ?_)
                          refine pM_i11 hk hin12 (List.mem_cons_of_mem _ (List.mem_append_left _ (List.mem_of_getElem? (i := 0) rfl))) dX12_tellSeries_128 ?_
                          refine g_goto (tgt := 5) hk dX12_tellSeries_131 (by decide) ?_
                          exact g_lv (List.forall_mem_cons.mpr ⟨List.mem_of_getElem? (i := 1) rfl, (fun _ h => absurd h List.not_mem_nil)⟩) (ih5679 (upd I5893 11 y5907) (up3 (up3 A5893 9 (y5891.toNatClampNeg) y5892) 8 1 y5903) L5893 (show Md [4, 6, 7, 8, 9, 11, 12, 13] (upd I 11 0) (upd I5893 11 y5907) from Md.tr hI4643 (show Md [4, 6, 7, 8, 9, 11, 12, 13] I4643 (upd I5893 11 y5907) from (Md.up (Md.tr (Md.tr Md.rf hI5879 rfl) hI5893 rfl) rfl)) rfl) (show Md [8, 9] A (up3 (up3 A5893 9 (y5891.toNatClampNeg) y5892) 8 1 y5903) from Md.tr hA4643 (show Md [8, 9] A4643 (up3 (up3 A5893 9 (y5891.toNatClampNeg) y5892) 8 1 y5903) from (Md.up3 (Md.up3 (Md.tr (Md.tr Md.rf hA5879 rfl) hA5893 rfl) rfl) rfl)) rfl) ⟨(IvM_f1 (I := I5893) (A := A5893) hV5893), (IvM_f2 (I := I5893) (A := A5893) hV5893), (IvM_f3 (I := I5893) (A := A5893) hV5893), (IvM_f4 (I := I5893) (A := A5893) hV5893), (IvM_f6 (I := I5893) (A := A5893) hV5893), (IvM_f8 (I := I5893) (A := A5893) hV5893), (IvM_f15 (I := I5893) (A := A5893) hV5893), (IvM_f16 (I := I5893) (A := A5893) hV5893), (IvM_f17 (I := I5893) (A := A5893) hV5893), (IvM_f18 (I := I5893) (A := A5893) hV5893), (IvM_f22 (I := I5893) (A := A5893) hV5893), (IvM_f23 (I := I5893) (A := A5893) hV5893), (IvM_f24 (I := I5893) (A := A5893) hV5893), (IvM_a11 (I := I5893) (A := A5893) hV5893), (IvM_a26 (I := I5893) (A := A5893) hV5893), (show 0 ≤ ((up3 (up3 A5893 9 (y5891.toNatClampNeg) y5892) 8 1 y5903) 8 0).toInt ∧ ((up3 (up3 A5893 9 (y5891.toNatClampNeg) y5892) 8 1 y5903) 8 0).toInt ≤ 160 from by rw [show (up3 (up3 A5893 9 (y5891.toNatClampNeg) y5892) 8 1 y5903) 8 0 = (A5893 8 0) from rfl]; exact (IvM_s8_0 (I := I5893) (A := A5893) hV5893)), (show 0 ≤ ((up3 (up3 A5893 9 (y5891.toNatClampNeg) y5892) 8 1 y5903) 8 1).toInt ∧ ((up3 (up3 A5893 9 (y5891.toNatClampNeg) y5892) 8 1 y5903) 8 1).toInt ≤ 160 from by rw [show (up3 (up3 A5893 9 (y5891.toNatClampNeg) y5892) 8 1 y5903) 8 1 = y5903 from rfl]; exact ⟨by omega, by omega⟩), (IvM_s10_0 (I := I5893) (A := A5893) hV5893), (IvM_s10_1 (I := I5893) (A := A5893) hV5893), (IvM_s17_0 (I := I5893) (A := A5893) hV5893), (IvM_s17_164 (I := I5893) (A := A5893) hV5893), (IvM_lv (I := I5893) (A := A5893) hV5893), (IvM_sd (I := I5893) (A := A5893) hV5893), (IvM_nq (I := I5893) (A := A5893) hV5893), (IvM_hr (I := I5893) (A := A5893) hV5893), (IvM_hh (I := I5893) (A := A5893) hV5893), trivial⟩ (by first | (rw [show ((upd I5893 11 y5907) 4) = (I5893 4) from rfl] <;> omega) | omega) (by first | (rw [show ((upd I5893 11 y5907) 6) = (I5893 6) from rfl] <;> omega) | omega) (by first | (rw [show ((upd I5893 11 y5907) 8) = (I5893 8) from rfl] <;> omega) | omega) (by first | (rw [show ((upd I5893 11 y5907) 4) = (I5893 4) from rfl] <;> omega) | omega) (by omega))
                        exfalso; omega
                      · skip
                        have f5908 := IvM_f4 hIv
                        have f5909 := IvM_f6 hIv
                        have f5910 := IvM_f8 hIv
                        exact g_vret hk hR ⟨I5893, (up3 A5893 9 (y5891.toNatClampNeg) y5892), L5893, (show Md [4, 6, 7, 8, 9, 11, 12, 13] I I5893 from (Md.tr (Md.tr (Md.tr (Md.up Md.rf rfl) hI4643 rfl) hI5879 rfl) hI5893 rfl)), (show Md [8, 9] A (up3 A5893 9 (y5891.toNatClampNeg) y5892) from (Md.up3 (Md.tr (Md.tr (Md.tr Md.rf hA4643 rfl) hA5879 rfl) hA5893 rfl) rfl)), ⟨(IvM_f1 (I := I5893) (A := A5893) hV5893), (IvM_f2 (I := I5893) (A := A5893) hV5893), (IvM_f3 (I := I5893) (A := A5893) hV5893), (IvM_f4 (I := I5893) (A := A5893) hV5893), (IvM_f6 (I := I5893) (A := A5893) hV5893), (IvM_f8 (I := I5893) (A := A5893) hV5893), (IvM_f15 (I := I5893) (A := A5893) hV5893), (IvM_f16 (I := I5893) (A := A5893) hV5893), (IvM_f17 (I := I5893) (A := A5893) hV5893), (IvM_f18 (I := I5893) (A := A5893) hV5893), (IvM_f22 (I := I5893) (A := A5893) hV5893), (IvM_f23 (I := I5893) (A := A5893) hV5893), (IvM_f24 (I := I5893) (A := A5893) hV5893), (IvM_a11 (I := I5893) (A := A5893) hV5893), (IvM_a26 (I := I5893) (A := A5893) hV5893), (IvM_s8_0 (I := I5893) (A := A5893) hV5893), (IvM_s8_1 (I := I5893) (A := A5893) hV5893), (IvM_s10_0 (I := I5893) (A := A5893) hV5893), (IvM_s10_1 (I := I5893) (A := A5893) hV5893), (IvM_s17_0 (I := I5893) (A := A5893) hV5893), (IvM_s17_164 (I := I5893) (A := A5893) hV5893), (IvM_lv (I := I5893) (A := A5893) hV5893), (IvM_sd (I := I5893) (A := A5893) hV5893), (IvM_nq (I := I5893) (A := A5893) hV5893), (IvM_hr (I := I5893) (A := A5893) hV5893), (IvM_hh (I := I5893) (A := A5893) hV5893), trivial⟩, (by omega), (by omega), (by omega), rfl, rfl⟩ dX12_tellSeries_107
                    exfalso; omega
                  exfalso; omega
                · skip
                  rw [show (A5879 2 (I5879 4).toNatClampNeg) = (A 2 (I4643 4).toNatClampNeg) from (by rw [show I5879 4 = (I4643 4) from (hI5879 4 rfl)]; exact ((congrFun (hA5879 2 rfl) _).trans (congrFun (hA4643 2 rfl) _)))] at c5887
                  show GW κ 2 0 0 (wM r g I5879 A5879 L5879) 55 [(0, .ref (r 0))] [.int 1]
                  refine g_istore_n (lv' := [(1, .int 1), (0, .ref (r 0))]) hk dX12_tellSeries_55 (by decide) rfl ?_
                  refine g_iload_n hk dX12_tellSeries_56 rfl ?_
                  refine g_if_eq (tgt := 64) (a := 1) hk dX12_tellSeries_57 (by decide) rfl (fun z9 => absurd z9 (show ¬ ((1 : Int) = (0 : Int)) from by decide)) (fun _ => ?_)
                  refine g_aload_n hk dX12_tellSeries_60 rfl ?_
                  refine g_callV (n := 0) hk (j127_X12_goesOn l D zt r g I5879 A5879 L5879  hV5879) (SP.same _) (fun _ h => h) (gi_V (List.mem_cons_of_mem _ (List.mem_append_left _ (List.mem_of_getElem? (i := 18) rfl))) (List.mem_cons_of_mem _ (List.mem_append_left _ (List.mem_of_getElem? (i := 19) rfl))) (List.mem_cons_of_mem _ (List.mem_append_left _ (List.mem_of_getElem? (i := 20) rfl))) (List.mem_cons_of_mem _ (List.mem_append_left _ (List.mem_of_getElem? (i := 4) rfl))) (gi_sub (fun w h => (List.mem_cons_of_mem _ (List.mem_append_right _ (List.mem_append_right _ (List.mem_append_right _ (List.mem_append_right _ (List.mem_append_right _ (List.mem_append_right _ (List.mem_append_left _ h))))))))) zg_j127_X12_goesOn)) rfl rfl rfl (by decide +kernel) ⟨Nat.le_of_ble_eq_true rfl, Nat.le_of_ble_eq_true rfl⟩ 0 rfl rfl rfl rfl (Nat.le_of_ble_eq_true rfl) ⟨Nat.le_of_ble_eq_true rfl, Nat.le_of_ble_eq_true rfl⟩ dX12_tellSeries_61 (fun v ty' w' hp hk' => ?_)
                  obtain ⟨I5912, A5912, L5912, hI5912, hA5912, hV5912, r5913, r5914, r5915, r5916, rfl, rfl⟩ := hp
                  have f5917 := IvM_f4 hV5912
                  rw [show (I5879 4) = (I4643 4) from (hI5879 4 rfl)] at r5913
                  have f5918 := IvM_f6 hV5912
                  rw [show (I5879 8) = (I4643 8) from (hI5879 8 rfl), show (I5912 8) = (I4643 8) from ((hI5912 8 rfl).trans (hI5879 8 rfl))] at r5915
                  rw [show (I5879 4) = (I4643 4) from (hI5879 4 rfl)] at r5916
                  show GW κ 2 0 0 (wM r g I5912 A5912 L5912) 64 [(1, .int 1), (0, .ref (r 0))] []
                  refine g_aload_n hk dX12_tellSeries_64 rfl ?_
                  refine gM_r0_27 hk hin12 (List.mem_cons_of_mem _ (List.mem_append_left _ (List.mem_of_getElem? (i := 14) rfl))) dX12_tellSeries_65 ?_
                  refine g_sipush (v := 160) hk dX12_tellSeries_68 (by decide) ?_
                  refine g_aload_n hk dX12_tellSeries_71 rfl ?_
                  refine gM_i16 (v := (I 16)) hk hin12 (List.mem_cons_of_mem _ (List.mem_append_left _ (List.mem_of_getElem? (i := 13) rfl))) dX12_tellSeries_72 ((hI5912 16 rfl).trans ((hI5879 16 rfl).trans (hI4643 16 rfl))) ?_
                  by_cases c5919 : (I 16).toInt = 1
                  · have ec5919 : (I 16) = 1 := Int32.toInt_inj.mp c5919
                    rw [ec5919]
                    show GW κ 2 0 0 (wM r g I5912 A5912 L5912) 75 [(1, .int 1), (0, .ref (r 0))] [.int 1, .int 160, .ref (r 10)]
                    refine g_imul hk dX12_tellSeries_75 ?_
                    refine g_norm (v := 160) (by decide) ?_
                    refine g_aload_n hk dX12_tellSeries_76 rfl ?_
                    refine gM_r0_26 hk hin12 (List.mem_cons_of_mem _ (List.mem_append_left _ (List.mem_of_getElem? (i := 12) rfl))) dX12_tellSeries_77 ?_
                    refine g_aload_n hk dX12_tellSeries_80 rfl ?_
                    refine gM_i16 (v := (I 16)) hk hin12 (List.mem_cons_of_mem _ (List.mem_append_left _ (List.mem_of_getElem? (i := 13) rfl))) dX12_tellSeries_81 ((hI5912 16 rfl).trans ((hI5879 16 rfl).trans (hI4643 16 rfl))) ?_
                    by_cases c5920 : (I 16).toInt = 1
                    · have ec5920 : (I 16) = 1 := Int32.toInt_inj.mp c5920
                      rw [ec5920]
                      show GW κ 2 0 0 (wM r g I5912 A5912 L5912) 84 [(1, .int 1), (0, .ref (r 0))] [.int 1, .ref (r 9), .int 160, .ref (r 10)]
                      refine lM_8 (v := (A4643 8 1)) hk (vp_in_iff.mpr ⟨by decide, by decide⟩) ((congrFun (hA5912 8 rfl) _).trans (congrFun (hA5879 8 rfl) _)) dX12_tellSeries_84 ?_
                      refine g_iadd hk dX12_tellSeries_85 ?_
                      refine g_topi (fun y5921 ey5921 => ?_)
                      have hy5921 : y5921.toInt = 160 + (A4643 8 1).toInt := i32_add ey5921 rfl rfl (by omega) (by omega)
                      refine g_iload_n hk dX12_tellSeries_86 rfl ?_
                      refine g_if_eq (tgt := 95) (a := 1) hk dX12_tellSeries_87 (by decide) rfl (fun z9 => absurd z9 (show ¬ ((1 : Int) = (0 : Int)) from by decide)) (fun _ => ?_)
                      refine g_ldc (v := 100000) hk (List.mem_cons_of_mem _ (List.mem_append_left _ (List.mem_of_getElem? (i := 21) rfl))) dX12_tellSeries_90 ?_
                      refine g_goto (tgt := 99) hk dX12_tellSeries_92 (by decide) ?_
                      have k5922 : (100000 : Int32).toInt = 100000 := rfl
                      refine sM_9 (j := y5921.toNatClampNeg) hk (vp_in_iff.mpr ⟨by omega, by omega⟩) rfl dX12_tellSeries_99 ?_
                      refine g_aload_n hk dX12_tellSeries_100 rfl ?_
                      refine gM_i6 (v := (I5912 6)) hk hin12 (List.mem_cons_of_mem _ (List.mem_append_left _ (List.mem_of_getElem? (i := 11) rfl))) dX12_tellSeries_101 rfl ?_
                      refine g_if_le (tgt := 108) (a := (I5912 6).toInt) hk dX12_tellSeries_104 (by decide) rfl (fun c5923 => ?_) (fun c5923 => ?_)
                      · skip
                        refine g_aload_n hk dX12_tellSeries_108 rfl ?_
                        refine gM_r0_26 hk hin12 (List.mem_cons_of_mem _ (List.mem_append_left _ (List.mem_of_getElem? (i := 12) rfl))) dX12_tellSeries_109 ?_
                        refine g_aload_n hk dX12_tellSeries_112 rfl ?_
                        refine gM_i16 (v := (I 16)) hk hin12 (List.mem_cons_of_mem _ (List.mem_append_left _ (List.mem_of_getElem? (i := 13) rfl))) dX12_tellSeries_113 ((hI5912 16 rfl).trans ((hI5879 16 rfl).trans (hI4643 16 rfl))) ?_
                        by_cases c5924 : (I 16).toInt = 1
                        · have ec5924 : (I 16) = 1 := Int32.toInt_inj.mp c5924
                          rw [ec5924]
                          show GW κ 2 0 0 (wM r g I5912 (up3 A5912 9 (y5921.toNatClampNeg) 100000) L5912) 116 [(1, .int 1), (0, .ref (r 0))] [.int 1, .ref (r 9)]
                          refine g_dup2 hk dX12_tellSeries_116 rfl rfl ?_
                          refine lM_8 (v := (A4643 8 1)) hk (vp_in_iff.mpr ⟨by decide, by decide⟩) ((congrFun (hA5912 8 rfl) _).trans (congrFun (hA5879 8 rfl) _)) dX12_tellSeries_117 ?_
                          refine g_iconst (v := 1) hk dX12_tellSeries_118 (by decide) ?_
                          refine g_iadd hk dX12_tellSeries_119 ?_
                          refine g_topi (fun y5925 ey5925 => ?_)
                          have hy5925 : y5925.toInt = (A4643 8 1).toInt + 1 := i32_add ey5925 rfl rfl (by omega) (by omega)
                          refine sM_8 (j := 1) hk (vp_in_iff.mpr ⟨by decide, by decide⟩) (by decide) dX12_tellSeries_120 ?_
                          have f5926 := IvM_s8_0 hV5912
                          have f5927 := IvM_s8_1 hV5912
                          refine g_aload_n hk dX12_tellSeries_121 rfl ?_
                          refine g_dup hk dX12_tellSeries_122 rfl ?_
                          refine gM_i11 (v := (I4643 11)) hk hin12 (List.mem_cons_of_mem _ (List.mem_append_left _ (List.mem_of_getElem? (i := 0) rfl))) dX12_tellSeries_123 ((hI5912 11 rfl).trans (hI5879 11 rfl)) ?_
                          refine g_iconst (v := 1) hk dX12_tellSeries_126 (by decide) ?_
                          have b5928l := Int32.le_toInt (I4643 11)
                          have b5928h := Int32.toInt_lt (I4643 11)
                          refine g_iadd hk dX12_tellSeries_127 ?_
                          refine g_topi (fun y5929 ey5929 => ?_)
                          refine pM_i11 hk hin12 (List.mem_cons_of_mem _ (List.mem_append_left _ (List.mem_of_getElem? (i := 0) rfl))) dX12_tellSeries_128 ?_
                          refine g_goto (tgt := 5) hk dX12_tellSeries_131 (by decide) ?_
                          exact g_lv (List.forall_mem_cons.mpr ⟨List.mem_of_getElem? (i := 1) rfl, (fun _ h => absurd h List.not_mem_nil)⟩) (ih5679 (upd I5912 11 y5929) (up3 (up3 A5912 9 (y5921.toNatClampNeg) 100000) 8 1 y5925) L5912 (show Md [4, 6, 7, 8, 9, 11, 12, 13] (upd I 11 0) (upd I5912 11 y5929) from Md.tr hI4643 (show Md [4, 6, 7, 8, 9, 11, 12, 13] I4643 (upd I5912 11 y5929) from (Md.up (Md.tr (Md.tr Md.rf hI5879 rfl) hI5912 rfl) rfl)) rfl) (show Md [8, 9] A (up3 (up3 A5912 9 (y5921.toNatClampNeg) 100000) 8 1 y5925) from Md.tr hA4643 (show Md [8, 9] A4643 (up3 (up3 A5912 9 (y5921.toNatClampNeg) 100000) 8 1 y5925) from (Md.up3 (Md.up3 (Md.tr (Md.tr Md.rf hA5879 rfl) hA5912 rfl) rfl) rfl)) rfl) ⟨(IvM_f1 (I := I5912) (A := A5912) hV5912), (IvM_f2 (I := I5912) (A := A5912) hV5912), (IvM_f3 (I := I5912) (A := A5912) hV5912), (IvM_f4 (I := I5912) (A := A5912) hV5912), (IvM_f6 (I := I5912) (A := A5912) hV5912), (IvM_f8 (I := I5912) (A := A5912) hV5912), (IvM_f15 (I := I5912) (A := A5912) hV5912), (IvM_f16 (I := I5912) (A := A5912) hV5912), (IvM_f17 (I := I5912) (A := A5912) hV5912), (IvM_f18 (I := I5912) (A := A5912) hV5912), (IvM_f22 (I := I5912) (A := A5912) hV5912), (IvM_f23 (I := I5912) (A := A5912) hV5912), (IvM_f24 (I := I5912) (A := A5912) hV5912), (IvM_a11 (I := I5912) (A := A5912) hV5912), (IvM_a26 (I := I5912) (A := A5912) hV5912), (show 0 ≤ ((up3 (up3 A5912 9 (y5921.toNatClampNeg) 100000) 8 1 y5925) 8 0).toInt ∧ ((up3 (up3 A5912 9 (y5921.toNatClampNeg) 100000) 8 1 y5925) 8 0).toInt ≤ 160 from by rw [show (up3 (up3 A5912 9 (y5921.toNatClampNeg) 100000) 8 1 y5925) 8 0 = (A5912 8 0) from rfl]; exact (IvM_s8_0 (I := I5912) (A := A5912) hV5912)), (show 0 ≤ ((up3 (up3 A5912 9 (y5921.toNatClampNeg) 100000) 8 1 y5925) 8 1).toInt ∧ ((up3 (up3 A5912 9 (y5921.toNatClampNeg) 100000) 8 1 y5925) 8 1).toInt ≤ 160 from by rw [show (up3 (up3 A5912 9 (y5921.toNatClampNeg) 100000) 8 1 y5925) 8 1 = y5925 from rfl]; exact ⟨by omega, by omega⟩), (IvM_s10_0 (I := I5912) (A := A5912) hV5912), (IvM_s10_1 (I := I5912) (A := A5912) hV5912), (IvM_s17_0 (I := I5912) (A := A5912) hV5912), (IvM_s17_164 (I := I5912) (A := A5912) hV5912), (IvM_lv (I := I5912) (A := A5912) hV5912), (IvM_sd (I := I5912) (A := A5912) hV5912), (IvM_nq (I := I5912) (A := A5912) hV5912), (IvM_hr (I := I5912) (A := A5912) hV5912), (IvM_hh (I := I5912) (A := A5912) hV5912), trivial⟩ (by first | (rw [show ((upd I5912 11 y5929) 4) = (I5912 4) from rfl] <;> omega) | omega) (by first | (rw [show ((upd I5912 11 y5929) 6) = (I5912 6) from rfl] <;> omega) | omega) (by first | (rw [show ((upd I5912 11 y5929) 8) = (I4643 8) from ((hI5912 8 rfl).trans (hI5879 8 rfl))] <;> omega) | omega) (by first | (rw [show ((upd I5912 11 y5929) 4) = (I5912 4) from rfl] <;> omega) | omega) (by omega))
                        exfalso; omega
                      · skip
                        have f5930 := IvM_f4 hIv
                        have f5931 := IvM_f6 hIv
                        have f5932 := IvM_f8 hIv
                        exact g_vret hk hR ⟨I5912, (up3 A5912 9 (y5921.toNatClampNeg) 100000), L5912, (show Md [4, 6, 7, 8, 9, 11, 12, 13] I I5912 from (Md.tr (Md.tr (Md.tr (Md.up Md.rf rfl) hI4643 rfl) hI5879 rfl) hI5912 rfl)), (show Md [8, 9] A (up3 A5912 9 (y5921.toNatClampNeg) 100000) from (Md.up3 (Md.tr (Md.tr (Md.tr Md.rf hA4643 rfl) hA5879 rfl) hA5912 rfl) rfl)), ⟨(IvM_f1 (I := I5912) (A := A5912) hV5912), (IvM_f2 (I := I5912) (A := A5912) hV5912), (IvM_f3 (I := I5912) (A := A5912) hV5912), (IvM_f4 (I := I5912) (A := A5912) hV5912), (IvM_f6 (I := I5912) (A := A5912) hV5912), (IvM_f8 (I := I5912) (A := A5912) hV5912), (IvM_f15 (I := I5912) (A := A5912) hV5912), (IvM_f16 (I := I5912) (A := A5912) hV5912), (IvM_f17 (I := I5912) (A := A5912) hV5912), (IvM_f18 (I := I5912) (A := A5912) hV5912), (IvM_f22 (I := I5912) (A := A5912) hV5912), (IvM_f23 (I := I5912) (A := A5912) hV5912), (IvM_f24 (I := I5912) (A := A5912) hV5912), (IvM_a11 (I := I5912) (A := A5912) hV5912), (IvM_a26 (I := I5912) (A := A5912) hV5912), (IvM_s8_0 (I := I5912) (A := A5912) hV5912), (IvM_s8_1 (I := I5912) (A := A5912) hV5912), (IvM_s10_0 (I := I5912) (A := A5912) hV5912), (IvM_s10_1 (I := I5912) (A := A5912) hV5912), (IvM_s17_0 (I := I5912) (A := A5912) hV5912), (IvM_s17_164 (I := I5912) (A := A5912) hV5912), (IvM_lv (I := I5912) (A := A5912) hV5912), (IvM_sd (I := I5912) (A := A5912) hV5912), (IvM_nq (I := I5912) (A := A5912) hV5912), (IvM_hr (I := I5912) (A := A5912) hV5912), (IvM_hh (I := I5912) (A := A5912) hV5912), trivial⟩, (by omega), (by omega), (by rw [show (I5912 8) = (I4643 8) from ((hI5912 8 rfl).trans (hI5879 8 rfl))] <;> omega), rfl, rfl⟩ dX12_tellSeries_107
                    exfalso; omega
                  exfalso; omega
              · skip
                have f5933 := IvM_f4 hIv
                have f5934 := IvM_f6 hIv
                have f5935 := IvM_f8 hIv
                exact g_vret hk hR ⟨I5879, A5879, L5879, (show Md [4, 6, 7, 8, 9, 11, 12, 13] I I5879 from (Md.tr (Md.tr (Md.up Md.rf rfl) hI4643 rfl) hI5879 rfl)), (show Md [8, 9] A A5879 from (Md.tr (Md.tr Md.rf hA4643 rfl) hA5879 rfl)), hV5879, (by rw [show (I5879 4) = (I4643 4) from (hI5879 4 rfl)] <;> omega), (by omega), (by rw [show (I5879 8) = (I4643 8) from (hI5879 8 rfl)] <;> omega), rfl, rfl⟩ dX12_tellSeries_48
          exfalso; omega
      · skip
        show GW κ 2 0 0 (wM r g I4643 A4643 L4643) 9 [(0, .ref (r 0))] [.int 1]
        refine g_if_ne (tgt := 21) (a := 1) hk dX12_tellSeries_9 (by decide) rfl (fun _ => ?_) (fun z9 => absurd (show (1 : Int) ≠ (0 : Int) from by decide) z9)
        refine g_aload_n hk dX12_tellSeries_21 rfl ?_
        refine gM_r0_26 hk hin12 (List.mem_cons_of_mem _ (List.mem_append_left _ (List.mem_of_getElem? (i := 12) rfl))) dX12_tellSeries_22 ?_
        refine g_aload_n hk dX12_tellSeries_25 rfl ?_
        refine gM_i16 (v := (I 16)) hk hin12 (List.mem_cons_of_mem _ (List.mem_append_left _ (List.mem_of_getElem? (i := 13) rfl))) dX12_tellSeries_26 (hI4643 16 rfl) ?_
        have f5936 := IvM_f16 hIv
        by_cases c5937 : (I 16).toInt = 0
        · have ec5937 : (I 16) = 0 := Int32.toInt_inj.mp c5937
          rw [ec5937]
          show GW κ 2 0 0 (wM r g I4643 A4643 L4643) 29 [(0, .ref (r 0))] [.int 0, .ref (r 9)]
          refine lM_8 (v := (A4643 8 0)) hk (vp_in_iff.mpr ⟨by decide, by decide⟩) rfl dX12_tellSeries_29 ?_
          have f5938 := IvM_s8_0 hV4643
          refine g_sipush (v := 160) hk dX12_tellSeries_30 (by decide) ?_
          refine g_icmp_ne (tgt := 41) (a := (A4643 8 0).toInt) (b := 160) hk dX12_tellSeries_33 (by decide) rfl rfl (fun c5939 => ?_) (fun c5939 => ?_)
          · skip
            refine g_aload_n hk dX12_tellSeries_41 rfl ?_
            refine gM_i6 (v := (I4643 6)) hk hin12 (List.mem_cons_of_mem _ (List.mem_append_left _ (List.mem_of_getElem? (i := 11) rfl))) dX12_tellSeries_42 rfl ?_
            refine g_if_le (tgt := 49) (a := (I4643 6).toInt) hk dX12_tellSeries_45 (by decide) rfl (fun c5940 => ?_) (fun c5940 => ?_)
            · skip
              refine g_aload_n hk dX12_tellSeries_49 rfl ?_
              refine g_bipush (v := 26) hk dX12_tellSeries_50 (by decide) ?_
              have k5941 : (26 : Int32).toInt = 26 := rfl
              refine g_callV (n := 1) hk (j125_X12_is l D zt r g I4643 A4643 L4643 26 hV4643) (SP.same _) (fun _ h => h) (gi_V (List.mem_cons_of_mem _ (List.mem_append_left _ (List.mem_of_getElem? (i := 5) rfl))) (List.mem_cons_of_mem _ (List.mem_append_left _ (List.mem_of_getElem? (i := 6) rfl))) (List.mem_cons_of_mem _ (List.mem_append_left _ (List.mem_of_getElem? (i := 7) rfl))) (List.mem_cons_of_mem _ (List.mem_append_left _ (List.mem_of_getElem? (i := 4) rfl))) (gi_sub (fun w h => (List.mem_cons_of_mem _ (List.mem_append_right _ (List.mem_append_right _ (List.mem_append_right _ (List.mem_append_left _ h)))))) zg_j125_X12_is)) rfl rfl rfl (by decide +kernel) ⟨Nat.le_of_ble_eq_true rfl, Nat.le_of_ble_eq_true rfl⟩ 0 rfl rfl rfl rfl (Nat.le_of_ble_eq_true rfl) ⟨Nat.le_of_ble_eq_true rfl, Nat.le_of_ble_eq_true rfl⟩ dX12_tellSeries_52 (fun v ty' w' hp hk' => ?_)
              rcases hp with ⟨c5942, rfl, rfl⟩ | ⟨c5944, rfl, rfl⟩
              · skip
                rw [show (A4643 2 (I4643 4).toNatClampNeg) = (A 2 (I4643 4).toNatClampNeg) from (congrFun (hA4643 2 rfl) _)] at c5942
                show GW κ 2 0 0 (wM r g I4643 A4643 L4643) 55 [(0, .ref (r 0))] [.int 0]
                refine g_istore_n (lv' := [(1, .int 0), (0, .ref (r 0))]) hk dX12_tellSeries_55 (by decide) rfl ?_
                refine g_iload_n hk dX12_tellSeries_56 rfl ?_
                refine g_if_eq (tgt := 64) (a := 0) hk dX12_tellSeries_57 (by decide) rfl (fun _ => ?_) (fun z9 => absurd (show (0 : Int) = (0 : Int) from by decide) z9)
                refine g_aload_n hk dX12_tellSeries_64 rfl ?_
                refine gM_r0_27 hk hin12 (List.mem_cons_of_mem _ (List.mem_append_left _ (List.mem_of_getElem? (i := 14) rfl))) dX12_tellSeries_65 ?_
                refine g_sipush (v := 160) hk dX12_tellSeries_68 (by decide) ?_
                refine g_aload_n hk dX12_tellSeries_71 rfl ?_
                refine gM_i16 (v := (I 16)) hk hin12 (List.mem_cons_of_mem _ (List.mem_append_left _ (List.mem_of_getElem? (i := 13) rfl))) dX12_tellSeries_72 (hI4643 16 rfl) ?_
                by_cases c5946 : (I 16).toInt = 0
                · have ec5946 : (I 16) = 0 := Int32.toInt_inj.mp c5946
                  rw [ec5946]
                  show GW κ 2 0 0 (wM r g I4643 A4643 L4643) 75 [(1, .int 0), (0, .ref (r 0))] [.int 0, .int 160, .ref (r 10)]
                  refine g_imul hk dX12_tellSeries_75 ?_
                  refine g_norm (v := 0) (by decide) ?_
                  refine g_aload_n hk dX12_tellSeries_76 rfl ?_
                  refine gM_r0_26 hk hin12 (List.mem_cons_of_mem _ (List.mem_append_left _ (List.mem_of_getElem? (i := 12) rfl))) dX12_tellSeries_77 ?_
                  refine g_aload_n hk dX12_tellSeries_80 rfl ?_
                  refine gM_i16 (v := (I 16)) hk hin12 (List.mem_cons_of_mem _ (List.mem_append_left _ (List.mem_of_getElem? (i := 13) rfl))) dX12_tellSeries_81 (hI4643 16 rfl) ?_
                  by_cases c5947 : (I 16).toInt = 0
                  · have ec5947 : (I 16) = 0 := Int32.toInt_inj.mp c5947
                    rw [ec5947]
                    show GW κ 2 0 0 (wM r g I4643 A4643 L4643) 84 [(1, .int 0), (0, .ref (r 0))] [.int 0, .ref (r 9), .int 0, .ref (r 10)]
                    refine lM_8 (v := (A4643 8 0)) hk (vp_in_iff.mpr ⟨by decide, by decide⟩) rfl dX12_tellSeries_84 ?_
                    refine g_iadd hk dX12_tellSeries_85 ?_
                    refine g_topi (fun y5948 ey5948 => ?_)
                    have hy5948 : y5948.toInt = 0 + (A4643 8 0).toInt := i32_add ey5948 rfl rfl (by omega) (by omega)
                    refine g_iload_n hk dX12_tellSeries_86 rfl ?_
                    refine g_if_eq (tgt := 95) (a := 0) hk dX12_tellSeries_87 (by decide) rfl (fun _ => ?_) (fun z9 => absurd (show (0 : Int) = (0 : Int) from by decide) z9)
                    refine g_aload_n hk dX12_tellSeries_95 rfl ?_
                    refine g_callV (n := 0) hk (j132_X12_readingTold l D zt r g I4643 A4643 L4643  hV4643) (SP.same _) (fun _ h => h) (gi_V (List.mem_cons_of_mem _ (List.mem_append_left _ (List.mem_of_getElem? (i := 15) rfl))) (List.mem_cons_of_mem _ (List.mem_append_left _ (List.mem_of_getElem? (i := 16) rfl))) (List.mem_cons_of_mem _ (List.mem_append_left _ (List.mem_of_getElem? (i := 17) rfl))) (List.mem_cons_of_mem _ (List.mem_append_left _ (List.mem_of_getElem? (i := 4) rfl))) (gi_sub (fun w h => (List.mem_cons_of_mem _ (List.mem_append_right _ (List.mem_append_right _ (List.mem_append_right _ (List.mem_append_right _ (List.mem_append_right _ (List.mem_append_left _ h)))))))) zg_j132_X12_readingTold)) rfl rfl rfl (by decide +kernel) ⟨Nat.le_of_ble_eq_true rfl, Nat.le_of_ble_eq_true rfl⟩ 0 rfl rfl rfl rfl (Nat.le_of_ble_eq_true rfl) ⟨Nat.le_of_ble_eq_true rfl, Nat.le_of_ble_eq_true rfl⟩ dX12_tellSeries_96 (fun v ty' w' hp hk' => ?_)
                    obtain ⟨I5950, A5950, L5950, hI5950, hA5950, hV5950, y5949, r5951, r5952, r5953, r5954, rfl, rfl⟩ := hp
                    have f5955 := IvM_f4 hV5950
                    have f5956 := IvM_f6 hV5950
                    have f5957 := IvM_f8 hV5950
                    show GW κ 2 0 0 (wM r g I5950 A5950 L5950) 99 [(1, .int 0), (0, .ref (r 0))] [.int y5949, .int y5948, .ref (r 10)]
                    refine sM_9 (j := y5948.toNatClampNeg) hk (vp_in_iff.mpr ⟨by omega, by omega⟩) rfl dX12_tellSeries_99 ?_
                    refine g_aload_n hk dX12_tellSeries_100 rfl ?_
                    refine gM_i6 (v := (I5950 6)) hk hin12 (List.mem_cons_of_mem _ (List.mem_append_left _ (List.mem_of_getElem? (i := 11) rfl))) dX12_tellSeries_101 rfl ?_
                    refine g_if_le (tgt := 108) (a := (I5950 6).toInt) hk dX12_tellSeries_104 (by decide) rfl (fun c5958 => ?_) (fun c5958 => ?_)
                    · skip
                      refine g_aload_n hk dX12_tellSeries_108 rfl ?_
                      refine gM_r0_26 hk hin12 (List.mem_cons_of_mem _ (List.mem_append_left _ (List.mem_of_getElem? (i := 12) rfl))) dX12_tellSeries_109 ?_
                      refine g_aload_n hk dX12_tellSeries_112 rfl ?_
                      refine gM_i16 (v := (I 16)) hk hin12 (List.mem_cons_of_mem _ (List.mem_append_left _ (List.mem_of_getElem? (i := 13) rfl))) dX12_tellSeries_113 ((hI5950 16 rfl).trans (hI4643 16 rfl)) ?_
                      by_cases c5959 : (I 16).toInt = 0
                      · have ec5959 : (I 16) = 0 := Int32.toInt_inj.mp c5959
                        rw [ec5959]
                        show GW κ 2 0 0 (wM r g I5950 (up3 A5950 9 (y5948.toNatClampNeg) y5949) L5950) 116 [(1, .int 0), (0, .ref (r 0))] [.int 0, .ref (r 9)]
                        refine g_dup2 hk dX12_tellSeries_116 rfl rfl ?_
                        refine lM_8 (v := (A4643 8 0)) hk (vp_in_iff.mpr ⟨by decide, by decide⟩) (congrFun (hA5950 8 rfl) _) dX12_tellSeries_117 ?_
                        refine g_iconst (v := 1) hk dX12_tellSeries_118 (by decide) ?_
                        refine g_iadd hk dX12_tellSeries_119 ?_
                        refine g_topi (fun y5960 ey5960 => ?_)
                        have hy5960 : y5960.toInt = (A4643 8 0).toInt + 1 := i32_add ey5960 rfl rfl (by omega) (by omega)
                        refine sM_8 (j := 0) hk (vp_in_iff.mpr ⟨by decide, by decide⟩) (by decide) dX12_tellSeries_120 ?_
                        have f5961 := IvM_s8_0 hV5950
                        have f5962 := IvM_s8_1 hV5950
                        refine g_aload_n hk dX12_tellSeries_121 rfl ?_
                        refine g_dup hk dX12_tellSeries_122 rfl ?_
                        refine gM_i11 (v := (I4643 11)) hk hin12 (List.mem_cons_of_mem _ (List.mem_append_left _ (List.mem_of_getElem? (i := 0) rfl))) dX12_tellSeries_123 (hI5950 11 rfl) ?_
                        refine g_iconst (v := 1) hk dX12_tellSeries_126 (by decide) ?_
                        have b5963l := Int32.le_toInt (I4643 11)
                        have b5963h := Int32.toInt_lt (I4643 11)
                        refine g_iadd hk dX12_tellSeries_127 ?_
                        refine g_topi (fun y5964 ey5964 => ?_)
                        refine pM_i11 hk hin12 (List.mem_cons_of_mem _ (List.mem_append_left _ (List.mem_of_getElem? (i := 0) rfl))) dX12_tellSeries_128 ?_
                        refine g_goto (tgt := 5) hk dX12_tellSeries_131 (by decide) ?_
                        exact g_lv (List.forall_mem_cons.mpr ⟨List.mem_of_getElem? (i := 1) rfl, (fun _ h => absurd h List.not_mem_nil)⟩) (ih5679 (upd I5950 11 y5964) (up3 (up3 A5950 9 (y5948.toNatClampNeg) y5949) 8 0 y5960) L5950 (show Md [4, 6, 7, 8, 9, 11, 12, 13] (upd I 11 0) (upd I5950 11 y5964) from Md.tr hI4643 (show Md [4, 6, 7, 8, 9, 11, 12, 13] I4643 (upd I5950 11 y5964) from (Md.up (Md.tr Md.rf hI5950 rfl) rfl)) rfl) (show Md [8, 9] A (up3 (up3 A5950 9 (y5948.toNatClampNeg) y5949) 8 0 y5960) from Md.tr hA4643 (show Md [8, 9] A4643 (up3 (up3 A5950 9 (y5948.toNatClampNeg) y5949) 8 0 y5960) from (Md.up3 (Md.up3 (Md.tr Md.rf hA5950 rfl) rfl) rfl)) rfl) ⟨(IvM_f1 (I := I5950) (A := A5950) hV5950), (IvM_f2 (I := I5950) (A := A5950) hV5950), (IvM_f3 (I := I5950) (A := A5950) hV5950), (IvM_f4 (I := I5950) (A := A5950) hV5950), (IvM_f6 (I := I5950) (A := A5950) hV5950), (IvM_f8 (I := I5950) (A := A5950) hV5950), (IvM_f15 (I := I5950) (A := A5950) hV5950), (IvM_f16 (I := I5950) (A := A5950) hV5950), (IvM_f17 (I := I5950) (A := A5950) hV5950), (IvM_f18 (I := I5950) (A := A5950) hV5950), (IvM_f22 (I := I5950) (A := A5950) hV5950), (IvM_f23 (I := I5950) (A := A5950) hV5950), (IvM_f24 (I := I5950) (A := A5950) hV5950), (IvM_a11 (I := I5950) (A := A5950) hV5950), (IvM_a26 (I := I5950) (A := A5950) hV5950), (show 0 ≤ ((up3 (up3 A5950 9 (y5948.toNatClampNeg) y5949) 8 0 y5960) 8 0).toInt ∧ ((up3 (up3 A5950 9 (y5948.toNatClampNeg) y5949) 8 0 y5960) 8 0).toInt ≤ 160 from by rw [show (up3 (up3 A5950 9 (y5948.toNatClampNeg) y5949) 8 0 y5960) 8 0 = y5960 from rfl]; exact ⟨by omega, by omega⟩), (show 0 ≤ ((up3 (up3 A5950 9 (y5948.toNatClampNeg) y5949) 8 0 y5960) 8 1).toInt ∧ ((up3 (up3 A5950 9 (y5948.toNatClampNeg) y5949) 8 0 y5960) 8 1).toInt ≤ 160 from by rw [show (up3 (up3 A5950 9 (y5948.toNatClampNeg) y5949) 8 0 y5960) 8 1 = (A5950 8 1) from rfl]; exact (IvM_s8_1 (I := I5950) (A := A5950) hV5950)), (IvM_s10_0 (I := I5950) (A := A5950) hV5950), (IvM_s10_1 (I := I5950) (A := A5950) hV5950), (IvM_s17_0 (I := I5950) (A := A5950) hV5950), (IvM_s17_164 (I := I5950) (A := A5950) hV5950), (IvM_lv (I := I5950) (A := A5950) hV5950), (IvM_sd (I := I5950) (A := A5950) hV5950), (IvM_nq (I := I5950) (A := A5950) hV5950), (IvM_hr (I := I5950) (A := A5950) hV5950), (IvM_hh (I := I5950) (A := A5950) hV5950), trivial⟩ (by first | (rw [show ((upd I5950 11 y5964) 4) = (I5950 4) from rfl] <;> omega) | omega) (by first | (rw [show ((upd I5950 11 y5964) 6) = (I5950 6) from rfl] <;> omega) | omega) (by first | (rw [show ((upd I5950 11 y5964) 8) = (I5950 8) from rfl] <;> omega) | omega) (by first | (rw [show ((upd I5950 11 y5964) 4) = (I5950 4) from rfl] <;> omega) | omega) (by omega))
                      exfalso; omega
                    · skip
                      have f5965 := IvM_f4 hIv
                      have f5966 := IvM_f6 hIv
                      have f5967 := IvM_f8 hIv
                      exact g_vret hk hR ⟨I5950, (up3 A5950 9 (y5948.toNatClampNeg) y5949), L5950, (show Md [4, 6, 7, 8, 9, 11, 12, 13] I I5950 from (Md.tr (Md.tr (Md.up Md.rf rfl) hI4643 rfl) hI5950 rfl)), (show Md [8, 9] A (up3 A5950 9 (y5948.toNatClampNeg) y5949) from (Md.up3 (Md.tr (Md.tr Md.rf hA4643 rfl) hA5950 rfl) rfl)), ⟨(IvM_f1 (I := I5950) (A := A5950) hV5950), (IvM_f2 (I := I5950) (A := A5950) hV5950), (IvM_f3 (I := I5950) (A := A5950) hV5950), (IvM_f4 (I := I5950) (A := A5950) hV5950), (IvM_f6 (I := I5950) (A := A5950) hV5950), (IvM_f8 (I := I5950) (A := A5950) hV5950), (IvM_f15 (I := I5950) (A := A5950) hV5950), (IvM_f16 (I := I5950) (A := A5950) hV5950), (IvM_f17 (I := I5950) (A := A5950) hV5950), (IvM_f18 (I := I5950) (A := A5950) hV5950), (IvM_f22 (I := I5950) (A := A5950) hV5950), (IvM_f23 (I := I5950) (A := A5950) hV5950), (IvM_f24 (I := I5950) (A := A5950) hV5950), (IvM_a11 (I := I5950) (A := A5950) hV5950), (IvM_a26 (I := I5950) (A := A5950) hV5950), (IvM_s8_0 (I := I5950) (A := A5950) hV5950), (IvM_s8_1 (I := I5950) (A := A5950) hV5950), (IvM_s10_0 (I := I5950) (A := A5950) hV5950), (IvM_s10_1 (I := I5950) (A := A5950) hV5950), (IvM_s17_0 (I := I5950) (A := A5950) hV5950), (IvM_s17_164 (I := I5950) (A := A5950) hV5950), (IvM_lv (I := I5950) (A := A5950) hV5950), (IvM_sd (I := I5950) (A := A5950) hV5950), (IvM_nq (I := I5950) (A := A5950) hV5950), (IvM_hr (I := I5950) (A := A5950) hV5950), (IvM_hh (I := I5950) (A := A5950) hV5950), trivial⟩, (by omega), (by omega), (by omega), rfl, rfl⟩ dX12_tellSeries_107
                  exfalso; omega
                exfalso; omega
              · skip
                rw [show (A4643 2 (I4643 4).toNatClampNeg) = (A 2 (I4643 4).toNatClampNeg) from (congrFun (hA4643 2 rfl) _)] at c5944
                show GW κ 2 0 0 (wM r g I4643 A4643 L4643) 55 [(0, .ref (r 0))] [.int 1]
                refine g_istore_n (lv' := [(1, .int 1), (0, .ref (r 0))]) hk dX12_tellSeries_55 (by decide) rfl ?_
                refine g_iload_n hk dX12_tellSeries_56 rfl ?_
                refine g_if_eq (tgt := 64) (a := 1) hk dX12_tellSeries_57 (by decide) rfl (fun z9 => absurd z9 (show ¬ ((1 : Int) = (0 : Int)) from by decide)) (fun _ => ?_)
                refine g_aload_n hk dX12_tellSeries_60 rfl ?_
                refine g_callV (n := 0) hk (j127_X12_goesOn l D zt r g I4643 A4643 L4643  hV4643) (SP.same _) (fun _ h => h) (gi_V (List.mem_cons_of_mem _ (List.mem_append_left _ (List.mem_of_getElem? (i := 18) rfl))) (List.mem_cons_of_mem _ (List.mem_append_left _ (List.mem_of_getElem? (i := 19) rfl))) (List.mem_cons_of_mem _ (List.mem_append_left _ (List.mem_of_getElem? (i := 20) rfl))) (List.mem_cons_of_mem _ (List.mem_append_left _ (List.mem_of_getElem? (i := 4) rfl))) (gi_sub (fun w h => (List.mem_cons_of_mem _ (List.mem_append_right _ (List.mem_append_right _ (List.mem_append_right _ (List.mem_append_right _ (List.mem_append_right _ (List.mem_append_right _ (List.mem_append_left _ h))))))))) zg_j127_X12_goesOn)) rfl rfl rfl (by decide +kernel) ⟨Nat.le_of_ble_eq_true rfl, Nat.le_of_ble_eq_true rfl⟩ 0 rfl rfl rfl rfl (Nat.le_of_ble_eq_true rfl) ⟨Nat.le_of_ble_eq_true rfl, Nat.le_of_ble_eq_true rfl⟩ dX12_tellSeries_61 (fun v ty' w' hp hk' => ?_)
                obtain ⟨I5969, A5969, L5969, hI5969, hA5969, hV5969, r5970, r5971, r5972, r5973, rfl, rfl⟩ := hp
                have f5974 := IvM_f4 hV5969
                have f5975 := IvM_f6 hV5969
                rw [show (I5969 8) = (I4643 8) from (hI5969 8 rfl)] at r5972
                show GW κ 2 0 0 (wM r g I5969 A5969 L5969) 64 [(1, .int 1), (0, .ref (r 0))] []
                refine g_aload_n hk dX12_tellSeries_64 rfl ?_
                refine gM_r0_27 hk hin12 (List.mem_cons_of_mem _ (List.mem_append_left _ (List.mem_of_getElem? (i := 14) rfl))) dX12_tellSeries_65 ?_
                refine g_sipush (v := 160) hk dX12_tellSeries_68 (by decide) ?_
                refine g_aload_n hk dX12_tellSeries_71 rfl ?_
                refine gM_i16 (v := (I 16)) hk hin12 (List.mem_cons_of_mem _ (List.mem_append_left _ (List.mem_of_getElem? (i := 13) rfl))) dX12_tellSeries_72 ((hI5969 16 rfl).trans (hI4643 16 rfl)) ?_
                by_cases c5976 : (I 16).toInt = 0
                · have ec5976 : (I 16) = 0 := Int32.toInt_inj.mp c5976
                  rw [ec5976]
                  show GW κ 2 0 0 (wM r g I5969 A5969 L5969) 75 [(1, .int 1), (0, .ref (r 0))] [.int 0, .int 160, .ref (r 10)]
                  refine g_imul hk dX12_tellSeries_75 ?_
                  refine g_norm (v := 0) (by decide) ?_
                  refine g_aload_n hk dX12_tellSeries_76 rfl ?_
                  refine gM_r0_26 hk hin12 (List.mem_cons_of_mem _ (List.mem_append_left _ (List.mem_of_getElem? (i := 12) rfl))) dX12_tellSeries_77 ?_
                  refine g_aload_n hk dX12_tellSeries_80 rfl ?_
                  refine gM_i16 (v := (I 16)) hk hin12 (List.mem_cons_of_mem _ (List.mem_append_left _ (List.mem_of_getElem? (i := 13) rfl))) dX12_tellSeries_81 ((hI5969 16 rfl).trans (hI4643 16 rfl)) ?_
                  by_cases c5977 : (I 16).toInt = 0
                  · have ec5977 : (I 16) = 0 := Int32.toInt_inj.mp c5977
                    rw [ec5977]
                    show GW κ 2 0 0 (wM r g I5969 A5969 L5969) 84 [(1, .int 1), (0, .ref (r 0))] [.int 0, .ref (r 9), .int 0, .ref (r 10)]
                    refine lM_8 (v := (A4643 8 0)) hk (vp_in_iff.mpr ⟨by decide, by decide⟩) (congrFun (hA5969 8 rfl) _) dX12_tellSeries_84 ?_
                    refine g_iadd hk dX12_tellSeries_85 ?_
                    refine g_topi (fun y5978 ey5978 => ?_)
                    have hy5978 : y5978.toInt = 0 + (A4643 8 0).toInt := i32_add ey5978 rfl rfl (by omega) (by omega)
                    refine g_iload_n hk dX12_tellSeries_86 rfl ?_
                    refine g_if_eq (tgt := 95) (a := 1) hk dX12_tellSeries_87 (by decide) rfl (fun z9 => absurd z9 (show ¬ ((1 : Int) = (0 : Int)) from by decide)) (fun _ => ?_)
                    refine g_ldc (v := 100000) hk (List.mem_cons_of_mem _ (List.mem_append_left _ (List.mem_of_getElem? (i := 21) rfl))) dX12_tellSeries_90 ?_
                    refine g_goto (tgt := 99) hk dX12_tellSeries_92 (by decide) ?_
                    have k5979 : (100000 : Int32).toInt = 100000 := rfl
                    refine sM_9 (j := y5978.toNatClampNeg) hk (vp_in_iff.mpr ⟨by omega, by omega⟩) rfl dX12_tellSeries_99 ?_
                    refine g_aload_n hk dX12_tellSeries_100 rfl ?_
                    refine gM_i6 (v := (I5969 6)) hk hin12 (List.mem_cons_of_mem _ (List.mem_append_left _ (List.mem_of_getElem? (i := 11) rfl))) dX12_tellSeries_101 rfl ?_
                    refine g_if_le (tgt := 108) (a := (I5969 6).toInt) hk dX12_tellSeries_104 (by decide) rfl (fun c5980 => ?_) (fun c5980 => ?_)
                    · skip
                      refine g_aload_n hk dX12_tellSeries_108 rfl ?_
                      refine gM_r0_26 hk hin12 (List.mem_cons_of_mem _ (List.mem_append_left _ (List.mem_of_getElem? (i := 12) rfl))) dX12_tellSeries_109 ?_
                      refine g_aload_n hk dX12_tellSeries_112 rfl ?_
                      refine gM_i16 (v := (I 16)) hk hin12 (List.mem_cons_of_mem _ (List.mem_append_left _ (List.mem_of_getElem? (i := 13) rfl))) dX12_tellSeries_113 ((hI5969 16 rfl).trans (hI4643 16 rfl)) ?_
                      by_cases c5981 : (I 16).toInt = 0
                      · have ec5981 : (I 16) = 0 := Int32.toInt_inj.mp c5981
                        rw [ec5981]
                        show GW κ 2 0 0 (wM r g I5969 (up3 A5969 9 (y5978.toNatClampNeg) 100000) L5969) 116 [(1, .int 1), (0, .ref (r 0))] [.int 0, .ref (r 9)]
                        refine g_dup2 hk dX12_tellSeries_116 rfl rfl ?_
                        refine lM_8 (v := (A4643 8 0)) hk (vp_in_iff.mpr ⟨by decide, by decide⟩) (congrFun (hA5969 8 rfl) _) dX12_tellSeries_117 ?_
                        refine g_iconst (v := 1) hk dX12_tellSeries_118 (by decide) ?_
                        refine g_iadd hk dX12_tellSeries_119 ?_
                        refine g_topi (fun y5982 ey5982 => ?_)
                        have hy5982 : y5982.toInt = (A4643 8 0).toInt + 1 := i32_add ey5982 rfl rfl (by omega) (by omega)
                        refine sM_8 (j := 0) hk (vp_in_iff.mpr ⟨by decide, by decide⟩) (by decide) dX12_tellSeries_120 ?_
                        have f5983 := IvM_s8_0 hV5969
                        have f5984 := IvM_s8_1 hV5969
                        refine g_aload_n hk dX12_tellSeries_121 rfl ?_
                        refine g_dup hk dX12_tellSeries_122 rfl ?_
                        refine gM_i11 (v := (I4643 11)) hk hin12 (List.mem_cons_of_mem _ (List.mem_append_left _ (List.mem_of_getElem? (i := 0) rfl))) dX12_tellSeries_123 (hI5969 11 rfl) ?_
                        refine g_iconst (v := 1) hk dX12_tellSeries_126 (by decide) ?_
                        have b5985l := Int32.le_toInt (I4643 11)
                        have b5985h := Int32.toInt_lt (I4643 11)
                        refine g_iadd hk dX12_tellSeries_127 ?_
                        refine g_topi (fun y5986 ey5986 => ?_)
                        refine pM_i11 hk hin12 (List.mem_cons_of_mem _ (List.mem_append_left _ (List.mem_of_getElem? (i := 0) rfl))) dX12_tellSeries_128 ?_
                        refine g_goto (tgt := 5) hk dX12_tellSeries_131 (by decide) ?_
                        exact g_lv (List.forall_mem_cons.mpr ⟨List.mem_of_getElem? (i := 1) rfl, (fun _ h => absurd h List.not_mem_nil)⟩) (ih5679 (upd I5969 11 y5986) (up3 (up3 A5969 9 (y5978.toNatClampNeg) 100000) 8 0 y5982) L5969 (show Md [4, 6, 7, 8, 9, 11, 12, 13] (upd I 11 0) (upd I5969 11 y5986) from Md.tr hI4643 (show Md [4, 6, 7, 8, 9, 11, 12, 13] I4643 (upd I5969 11 y5986) from (Md.up (Md.tr Md.rf hI5969 rfl) rfl)) rfl) (show Md [8, 9] A (up3 (up3 A5969 9 (y5978.toNatClampNeg) 100000) 8 0 y5982) from Md.tr hA4643 (show Md [8, 9] A4643 (up3 (up3 A5969 9 (y5978.toNatClampNeg) 100000) 8 0 y5982) from (Md.up3 (Md.up3 (Md.tr Md.rf hA5969 rfl) rfl) rfl)) rfl) ⟨(IvM_f1 (I := I5969) (A := A5969) hV5969), (IvM_f2 (I := I5969) (A := A5969) hV5969), (IvM_f3 (I := I5969) (A := A5969) hV5969), (IvM_f4 (I := I5969) (A := A5969) hV5969), (IvM_f6 (I := I5969) (A := A5969) hV5969), (IvM_f8 (I := I5969) (A := A5969) hV5969), (IvM_f15 (I := I5969) (A := A5969) hV5969), (IvM_f16 (I := I5969) (A := A5969) hV5969), (IvM_f17 (I := I5969) (A := A5969) hV5969), (IvM_f18 (I := I5969) (A := A5969) hV5969), (IvM_f22 (I := I5969) (A := A5969) hV5969), (IvM_f23 (I := I5969) (A := A5969) hV5969), (IvM_f24 (I := I5969) (A := A5969) hV5969), (IvM_a11 (I := I5969) (A := A5969) hV5969), (IvM_a26 (I := I5969) (A := A5969) hV5969), (show 0 ≤ ((up3 (up3 A5969 9 (y5978.toNatClampNeg) 100000) 8 0 y5982) 8 0).toInt ∧ ((up3 (up3 A5969 9 (y5978.toNatClampNeg) 100000) 8 0 y5982) 8 0).toInt ≤ 160 from by rw [show (up3 (up3 A5969 9 (y5978.toNatClampNeg) 100000) 8 0 y5982) 8 0 = y5982 from rfl]; exact ⟨by omega, by omega⟩), (show 0 ≤ ((up3 (up3 A5969 9 (y5978.toNatClampNeg) 100000) 8 0 y5982) 8 1).toInt ∧ ((up3 (up3 A5969 9 (y5978.toNatClampNeg) 100000) 8 0 y5982) 8 1).toInt ≤ 160 from by rw [show (up3 (up3 A5969 9 (y5978.toNatClampNeg) 100000) 8 0 y5982) 8 1 = (A5969 8 1) from rfl]; exact (IvM_s8_1 (I := I5969) (A := A5969) hV5969)), (IvM_s10_0 (I := I5969) (A := A5969) hV5969), (IvM_s10_1 (I := I5969) (A := A5969) hV5969), (IvM_s17_0 (I := I5969) (A := A5969) hV5969), (IvM_s17_164 (I := I5969) (A := A5969) hV5969), (IvM_lv (I := I5969) (A := A5969) hV5969), (IvM_sd (I := I5969) (A := A5969) hV5969), (IvM_nq (I := I5969) (A := A5969) hV5969), (IvM_hr (I := I5969) (A := A5969) hV5969), (IvM_hh (I := I5969) (A := A5969) hV5969), trivial⟩ (by first | (rw [show ((upd I5969 11 y5986) 4) = (I5969 4) from rfl] <;> omega) | omega) (by first | (rw [show ((upd I5969 11 y5986) 6) = (I5969 6) from rfl] <;> omega) | omega) (by first | (rw [show ((upd I5969 11 y5986) 8) = (I4643 8) from (hI5969 8 rfl)] <;> omega) | omega) (by first | (rw [show ((upd I5969 11 y5986) 4) = (I5969 4) from rfl] <;> omega) | omega) (by omega))
                      exfalso; omega
                    · skip
                      have f5987 := IvM_f4 hIv
                      have f5988 := IvM_f6 hIv
                      have f5989 := IvM_f8 hIv
                      exact g_vret hk hR ⟨I5969, (up3 A5969 9 (y5978.toNatClampNeg) 100000), L5969, (show Md [4, 6, 7, 8, 9, 11, 12, 13] I I5969 from (Md.tr (Md.tr (Md.up Md.rf rfl) hI4643 rfl) hI5969 rfl)), (show Md [8, 9] A (up3 A5969 9 (y5978.toNatClampNeg) 100000) from (Md.up3 (Md.tr (Md.tr Md.rf hA4643 rfl) hA5969 rfl) rfl)), ⟨(IvM_f1 (I := I5969) (A := A5969) hV5969), (IvM_f2 (I := I5969) (A := A5969) hV5969), (IvM_f3 (I := I5969) (A := A5969) hV5969), (IvM_f4 (I := I5969) (A := A5969) hV5969), (IvM_f6 (I := I5969) (A := A5969) hV5969), (IvM_f8 (I := I5969) (A := A5969) hV5969), (IvM_f15 (I := I5969) (A := A5969) hV5969), (IvM_f16 (I := I5969) (A := A5969) hV5969), (IvM_f17 (I := I5969) (A := A5969) hV5969), (IvM_f18 (I := I5969) (A := A5969) hV5969), (IvM_f22 (I := I5969) (A := A5969) hV5969), (IvM_f23 (I := I5969) (A := A5969) hV5969), (IvM_f24 (I := I5969) (A := A5969) hV5969), (IvM_a11 (I := I5969) (A := A5969) hV5969), (IvM_a26 (I := I5969) (A := A5969) hV5969), (IvM_s8_0 (I := I5969) (A := A5969) hV5969), (IvM_s8_1 (I := I5969) (A := A5969) hV5969), (IvM_s10_0 (I := I5969) (A := A5969) hV5969), (IvM_s10_1 (I := I5969) (A := A5969) hV5969), (IvM_s17_0 (I := I5969) (A := A5969) hV5969), (IvM_s17_164 (I := I5969) (A := A5969) hV5969), (IvM_lv (I := I5969) (A := A5969) hV5969), (IvM_sd (I := I5969) (A := A5969) hV5969), (IvM_nq (I := I5969) (A := A5969) hV5969), (IvM_hr (I := I5969) (A := A5969) hV5969), (IvM_hh (I := I5969) (A := A5969) hV5969), trivial⟩, (by omega), (by omega), (by rw [show (I5969 8) = (I4643 8) from (hI5969 8 rfl)] <;> omega), rfl, rfl⟩ dX12_tellSeries_107
                  exfalso; omega
                exfalso; omega
            · skip
              have f5990 := IvM_f4 hIv
              have f5991 := IvM_f6 hIv
              have f5992 := IvM_f8 hIv
              exact g_vret hk hR ⟨I4643, A4643, L4643, (show Md [4, 6, 7, 8, 9, 11, 12, 13] I I4643 from (Md.tr (Md.up Md.rf rfl) hI4643 rfl)), (show Md [8, 9] A A4643 from (Md.tr Md.rf hA4643 rfl)), hV4643, (by omega), (by omega), (by omega), rfl, rfl⟩ dX12_tellSeries_48
          · skip
            refine g_aload_n hk dX12_tellSeries_36 rfl ?_
            refine g_iconst (v := 2) hk dX12_tellSeries_37 (by decide) ?_
            have k5993 : (2 : Int32).toInt = 2 := rfl
            refine g_callV (n := 1) hk (j128_X12_fail l D zt r g I4643 A4643 L4643 2 hV4643 (by decide) (by decide)) (SP.same _) (fun _ h => h) (gi_V (List.mem_cons_of_mem _ (List.mem_append_left _ (List.mem_of_getElem? (i := 22) rfl))) (List.mem_cons_of_mem _ (List.mem_append_left _ (List.mem_of_getElem? (i := 23) rfl))) (List.mem_cons_of_mem _ (List.mem_append_left _ (List.mem_of_getElem? (i := 24) rfl))) (List.mem_cons_of_mem _ (List.mem_append_left _ (List.mem_of_getElem? (i := 4) rfl))) (gi_sub (fun w h => (List.mem_cons_of_mem _ (List.mem_append_right _ (List.mem_append_right _ (List.mem_append_right _ (List.mem_append_right _ (List.mem_append_right _ (List.mem_append_right _ (List.mem_append_right _ (List.mem_append_left _ h)))))))))) zg_j128_X12_fail)) rfl rfl rfl (by decide +kernel) ⟨Nat.le_of_ble_eq_true rfl, Nat.le_of_ble_eq_true rfl⟩ 0 rfl rfl rfl rfl (Nat.le_of_ble_eq_true rfl) ⟨Nat.le_of_ble_eq_true rfl, Nat.le_of_ble_eq_true rfl⟩ dX12_tellSeries_38 (fun v ty' w' hp hk' => ?_)
            obtain ⟨I5995, A5995, L5995, hI5995, hA5995, hV5995, r5996, r5997, r5998, rfl, rfl⟩ := hp
            have f5999 := IvM_f6 hV5995
            rw [show (I5995 8) = (I4643 8) from (hI5995 8 rfl)] at r5997
            show GW κ 2 0 0 (wM r g I5995 A5995 L5995) 41 [(0, .ref (r 0))] []
            refine g_aload_n hk dX12_tellSeries_41 rfl ?_
            refine gM_i6 (v := (I5995 6)) hk hin12 (List.mem_cons_of_mem _ (List.mem_append_left _ (List.mem_of_getElem? (i := 11) rfl))) dX12_tellSeries_42 rfl ?_
            refine g_if_le (tgt := 49) (a := (I5995 6).toInt) hk dX12_tellSeries_45 (by decide) rfl (fun c6000 => ?_) (fun c6000 => ?_)
            · skip
              refine g_aload_n hk dX12_tellSeries_49 rfl ?_
              refine g_bipush (v := 26) hk dX12_tellSeries_50 (by decide) ?_
              have k6001 : (26 : Int32).toInt = 26 := rfl
              refine g_callV (n := 1) hk (j125_X12_is l D zt r g I5995 A5995 L5995 26 hV5995) (SP.same _) (fun _ h => h) (gi_V (List.mem_cons_of_mem _ (List.mem_append_left _ (List.mem_of_getElem? (i := 5) rfl))) (List.mem_cons_of_mem _ (List.mem_append_left _ (List.mem_of_getElem? (i := 6) rfl))) (List.mem_cons_of_mem _ (List.mem_append_left _ (List.mem_of_getElem? (i := 7) rfl))) (List.mem_cons_of_mem _ (List.mem_append_left _ (List.mem_of_getElem? (i := 4) rfl))) (gi_sub (fun w h => (List.mem_cons_of_mem _ (List.mem_append_right _ (List.mem_append_right _ (List.mem_append_right _ (List.mem_append_left _ h)))))) zg_j125_X12_is)) rfl rfl rfl (by decide +kernel) ⟨Nat.le_of_ble_eq_true rfl, Nat.le_of_ble_eq_true rfl⟩ 0 rfl rfl rfl rfl (Nat.le_of_ble_eq_true rfl) ⟨Nat.le_of_ble_eq_true rfl, Nat.le_of_ble_eq_true rfl⟩ dX12_tellSeries_52 (fun v ty' w' hp hk' => ?_)
              rcases hp with ⟨c6002, rfl, rfl⟩ | ⟨c6004, rfl, rfl⟩
              · skip
                rw [show (A5995 2 (I5995 4).toNatClampNeg) = (A 2 (I4643 4).toNatClampNeg) from (by rw [show I5995 4 = (I4643 4) from (hI5995 4 rfl)]; exact ((congrFun (hA5995 2 rfl) _).trans (congrFun (hA4643 2 rfl) _)))] at c6002
                show GW κ 2 0 0 (wM r g I5995 A5995 L5995) 55 [(0, .ref (r 0))] [.int 0]
                refine g_istore_n (lv' := [(1, .int 0), (0, .ref (r 0))]) hk dX12_tellSeries_55 (by decide) rfl ?_
                refine g_iload_n hk dX12_tellSeries_56 rfl ?_
                refine g_if_eq (tgt := 64) (a := 0) hk dX12_tellSeries_57 (by decide) rfl (fun _ => ?_) (fun z9 => absurd (show (0 : Int) = (0 : Int) from by decide) z9)
                refine g_aload_n hk dX12_tellSeries_64 rfl ?_
                refine gM_r0_27 hk hin12 (List.mem_cons_of_mem _ (List.mem_append_left _ (List.mem_of_getElem? (i := 14) rfl))) dX12_tellSeries_65 ?_
                refine g_sipush (v := 160) hk dX12_tellSeries_68 (by decide) ?_
                refine g_aload_n hk dX12_tellSeries_71 rfl ?_
                refine gM_i16 (v := (I 16)) hk hin12 (List.mem_cons_of_mem _ (List.mem_append_left _ (List.mem_of_getElem? (i := 13) rfl))) dX12_tellSeries_72 ((hI5995 16 rfl).trans (hI4643 16 rfl)) ?_
                by_cases c6006 : (I 16).toInt = 0
                · have ec6006 : (I 16) = 0 := Int32.toInt_inj.mp c6006
                  rw [ec6006]
                  show GW κ 2 0 0 (wM r g I5995 A5995 L5995) 75 [(1, .int 0), (0, .ref (r 0))] [.int 0, .int 160, .ref (r 10)]
                  refine g_imul hk dX12_tellSeries_75 ?_
                  refine g_norm (v := 0) (by decide) ?_
                  refine g_aload_n hk dX12_tellSeries_76 rfl ?_
                  refine gM_r0_26 hk hin12 (List.mem_cons_of_mem _ (List.mem_append_left _ (List.mem_of_getElem? (i := 12) rfl))) dX12_tellSeries_77 ?_
                  refine g_aload_n hk dX12_tellSeries_80 rfl ?_
                  refine gM_i16 (v := (I 16)) hk hin12 (List.mem_cons_of_mem _ (List.mem_append_left _ (List.mem_of_getElem? (i := 13) rfl))) dX12_tellSeries_81 ((hI5995 16 rfl).trans (hI4643 16 rfl)) ?_
                  by_cases c6007 : (I 16).toInt = 0
                  · have ec6007 : (I 16) = 0 := Int32.toInt_inj.mp c6007
                    rw [ec6007]
                    show GW κ 2 0 0 (wM r g I5995 A5995 L5995) 84 [(1, .int 0), (0, .ref (r 0))] [.int 0, .ref (r 9), .int 0, .ref (r 10)]
                    refine lM_8 (v := (A4643 8 0)) hk (vp_in_iff.mpr ⟨by decide, by decide⟩) (congrFun (hA5995 8 rfl) _) dX12_tellSeries_84 ?_
                    refine g_iadd hk dX12_tellSeries_85 ?_
                    refine g_topi (fun y6008 ey6008 => ?_)
                    have hy6008 : y6008.toInt = 0 + (A4643 8 0).toInt := i32_add ey6008 rfl rfl (by omega) (by omega)
                    refine g_iload_n hk dX12_tellSeries_86 rfl ?_
                    refine g_if_eq (tgt := 95) (a := 0) hk dX12_tellSeries_87 (by decide) rfl (fun _ => ?_) (fun z9 => absurd (show (0 : Int) = (0 : Int) from by decide) z9)
                    refine g_aload_n hk dX12_tellSeries_95 rfl ?_
                    refine g_callV (n := 0) hk (j132_X12_readingTold l D zt r g I5995 A5995 L5995  hV5995) (SP.same _) (fun _ h => h) (gi_V (List.mem_cons_of_mem _ (List.mem_append_left _ (List.mem_of_getElem? (i := 15) rfl))) (List.mem_cons_of_mem _ (List.mem_append_left _ (List.mem_of_getElem? (i := 16) rfl))) (List.mem_cons_of_mem _ (List.mem_append_left _ (List.mem_of_getElem? (i := 17) rfl))) (List.mem_cons_of_mem _ (List.mem_append_left _ (List.mem_of_getElem? (i := 4) rfl))) (gi_sub (fun w h => (List.mem_cons_of_mem _ (List.mem_append_right _ (List.mem_append_right _ (List.mem_append_right _ (List.mem_append_right _ (List.mem_append_right _ (List.mem_append_left _ h)))))))) zg_j132_X12_readingTold)) rfl rfl rfl (by decide +kernel) ⟨Nat.le_of_ble_eq_true rfl, Nat.le_of_ble_eq_true rfl⟩ 0 rfl rfl rfl rfl (Nat.le_of_ble_eq_true rfl) ⟨Nat.le_of_ble_eq_true rfl, Nat.le_of_ble_eq_true rfl⟩ dX12_tellSeries_96 (fun v ty' w' hp hk' => ?_)
                    obtain ⟨I6010, A6010, L6010, hI6010, hA6010, hV6010, y6009, r6011, r6012, r6013, r6014, rfl, rfl⟩ := hp
                    have f6015 := IvM_f4 hV6010
                    rw [show (I5995 4) = (I4643 4) from (hI5995 4 rfl)] at r6011
                    have f6016 := IvM_f6 hV6010
                    have f6017 := IvM_f8 hV6010
                    rw [show (I5995 8) = (I4643 8) from (hI5995 8 rfl)] at r6013
                    rw [show (I5995 4) = (I4643 4) from (hI5995 4 rfl)] at r6014
                    show GW κ 2 0 0 (wM r g I6010 A6010 L6010) 99 [(1, .int 0), (0, .ref (r 0))] [.int y6009, .int y6008, .ref (r 10)]
                    refine sM_9 (j := y6008.toNatClampNeg) hk (vp_in_iff.mpr ⟨by omega, by omega⟩) rfl dX12_tellSeries_99 ?_
                    refine g_aload_n hk dX12_tellSeries_100 rfl ?_
                    refine gM_i6 (v := (I6010 6)) hk hin12 (List.mem_cons_of_mem _ (List.mem_append_left _ (List.mem_of_getElem? (i := 11) rfl))) dX12_tellSeries_101 rfl ?_
                    refine g_if_le (tgt := 108) (a := (I6010 6).toInt) hk dX12_tellSeries_104 (by decide) rfl (fun c6018 => ?_) (fun c6018 => ?_)
                    · skip
                      refine g_aload_n hk dX12_tellSeries_108 rfl ?_
                      refine gM_r0_26 hk hin12 (List.mem_cons_of_mem _ (List.mem_append_left _ (List.mem_of_getElem? (i := 12) rfl))) dX12_tellSeries_109 ?_
                      refine g_aload_n hk dX12_tellSeries_112 rfl ?_
                      refine gM_i16 (v := (I 16)) hk hin12 (List.mem_cons_of_mem _ (List.mem_append_left _ (List.mem_of_getElem? (i := 13) rfl))) dX12_tellSeries_113 ((hI6010 16 rfl).trans ((hI5995 16 rfl).trans (hI4643 16 rfl))) ?_
                      by_cases c6019 : (I 16).toInt = 0
                      · have ec6019 : (I 16) = 0 := Int32.toInt_inj.mp c6019
                        rw [ec6019]
                        show GW κ 2 0 0 (wM r g I6010 (up3 A6010 9 (y6008.toNatClampNeg) y6009) L6010) 116 [(1, .int 0), (0, .ref (r 0))] [.int 0, .ref (r 9)]
                        refine g_dup2 hk dX12_tellSeries_116 rfl rfl ?_
                        refine lM_8 (v := (A4643 8 0)) hk (vp_in_iff.mpr ⟨by decide, by decide⟩) ((congrFun (hA6010 8 rfl) _).trans (congrFun (hA5995 8 rfl) _)) dX12_tellSeries_117 ?_
                        refine g_iconst (v := 1) hk dX12_tellSeries_118 (by decide) ?_
                        refine g_iadd hk dX12_tellSeries_119 ?_
                        refine g_topi (fun y6020 ey6020 => ?_)
                        have hy6020 : y6020.toInt = (A4643 8 0).toInt + 1 := i32_add ey6020 rfl rfl (by omega) (by omega)
                        refine sM_8 (j := 0) hk (vp_in_iff.mpr ⟨by decide, by decide⟩) (by decide) dX12_tellSeries_120 ?_
                        have f6021 := IvM_s8_0 hV6010
                        have f6022 := IvM_s8_1 hV6010
                        refine g_aload_n hk dX12_tellSeries_121 rfl ?_
                        refine g_dup hk dX12_tellSeries_122 rfl ?_
                        refine gM_i11 (v := (I4643 11)) hk hin12 (List.mem_cons_of_mem _ (List.mem_append_left _ (List.mem_of_getElem? (i := 0) rfl))) dX12_tellSeries_123 ((hI6010 11 rfl).trans (hI5995 11 rfl)) ?_
                        refine g_iconst (v := 1) hk dX12_tellSeries_126 (by decide) ?_
                        have b6023l := Int32.le_toInt (I4643 11)
                        have b6023h := Int32.toInt_lt (I4643 11)
                        refine g_iadd hk dX12_tellSeries_127 ?_
                        refine g_topi (fun y6024 ey6024 => ?_)
                        refine pM_i11 hk hin12 (List.mem_cons_of_mem _ (List.mem_append_left _ (List.mem_of_getElem? (i := 0) rfl))) dX12_tellSeries_128 ?_
                        refine g_goto (tgt := 5) hk dX12_tellSeries_131 (by decide) ?_
                        exact g_lv (List.forall_mem_cons.mpr ⟨List.mem_of_getElem? (i := 1) rfl, (fun _ h => absurd h List.not_mem_nil)⟩) (ih5679 (upd I6010 11 y6024) (up3 (up3 A6010 9 (y6008.toNatClampNeg) y6009) 8 0 y6020) L6010 (show Md [4, 6, 7, 8, 9, 11, 12, 13] (upd I 11 0) (upd I6010 11 y6024) from Md.tr hI4643 (show Md [4, 6, 7, 8, 9, 11, 12, 13] I4643 (upd I6010 11 y6024) from (Md.up (Md.tr (Md.tr Md.rf hI5995 rfl) hI6010 rfl) rfl)) rfl) (show Md [8, 9] A (up3 (up3 A6010 9 (y6008.toNatClampNeg) y6009) 8 0 y6020) from Md.tr hA4643 (show Md [8, 9] A4643 (up3 (up3 A6010 9 (y6008.toNatClampNeg) y6009) 8 0 y6020) from (Md.up3 (Md.up3 (Md.tr (Md.tr Md.rf hA5995 rfl) hA6010 rfl) rfl) rfl)) rfl) ⟨(IvM_f1 (I := I6010) (A := A6010) hV6010), (IvM_f2 (I := I6010) (A := A6010) hV6010), (IvM_f3 (I := I6010) (A := A6010) hV6010), (IvM_f4 (I := I6010) (A := A6010) hV6010), (IvM_f6 (I := I6010) (A := A6010) hV6010), (IvM_f8 (I := I6010) (A := A6010) hV6010), (IvM_f15 (I := I6010) (A := A6010) hV6010), (IvM_f16 (I := I6010) (A := A6010) hV6010), (IvM_f17 (I := I6010) (A := A6010) hV6010), (IvM_f18 (I := I6010) (A := A6010) hV6010), (IvM_f22 (I := I6010) (A := A6010) hV6010), (IvM_f23 (I := I6010) (A := A6010) hV6010), (IvM_f24 (I := I6010) (A := A6010) hV6010), (IvM_a11 (I := I6010) (A := A6010) hV6010), (IvM_a26 (I := I6010) (A := A6010) hV6010), (show 0 ≤ ((up3 (up3 A6010 9 (y6008.toNatClampNeg) y6009) 8 0 y6020) 8 0).toInt ∧ ((up3 (up3 A6010 9 (y6008.toNatClampNeg) y6009) 8 0 y6020) 8 0).toInt ≤ 160 from by rw [show (up3 (up3 A6010 9 (y6008.toNatClampNeg) y6009) 8 0 y6020) 8 0 = y6020 from rfl]; exact ⟨by omega, by omega⟩), (show 0 ≤ ((up3 (up3 A6010 9 (y6008.toNatClampNeg) y6009) 8 0 y6020) 8 1).toInt ∧ ((up3 (up3 A6010 9 (y6008.toNatClampNeg) y6009) 8 0 y6020) 8 1).toInt ≤ 160 from by rw [show (up3 (up3 A6010 9 (y6008.toNatClampNeg) y6009) 8 0 y6020) 8 1 = (A6010 8 1) from rfl]; exact (IvM_s8_1 (I := I6010) (A := A6010) hV6010)), (IvM_s10_0 (I := I6010) (A := A6010) hV6010), (IvM_s10_1 (I := I6010) (A := A6010) hV6010), (IvM_s17_0 (I := I6010) (A := A6010) hV6010), (IvM_s17_164 (I := I6010) (A := A6010) hV6010), (IvM_lv (I := I6010) (A := A6010) hV6010), (IvM_sd (I := I6010) (A := A6010) hV6010), (IvM_nq (I := I6010) (A := A6010) hV6010), (IvM_hr (I := I6010) (A := A6010) hV6010), (IvM_hh (I := I6010) (A := A6010) hV6010), trivial⟩ (by first | (rw [show ((upd I6010 11 y6024) 4) = (I6010 4) from rfl] <;> omega) | omega) (by first | (rw [show ((upd I6010 11 y6024) 6) = (I6010 6) from rfl] <;> omega) | omega) (by first | (rw [show ((upd I6010 11 y6024) 8) = (I6010 8) from rfl] <;> omega) | omega) (by first | (rw [show ((upd I6010 11 y6024) 4) = (I6010 4) from rfl] <;> omega) | omega) (by omega))
                      exfalso; omega
                    · skip
                      have f6025 := IvM_f4 hIv
                      have f6026 := IvM_f6 hIv
                      have f6027 := IvM_f8 hIv
                      exact g_vret hk hR ⟨I6010, (up3 A6010 9 (y6008.toNatClampNeg) y6009), L6010, (show Md [4, 6, 7, 8, 9, 11, 12, 13] I I6010 from (Md.tr (Md.tr (Md.tr (Md.up Md.rf rfl) hI4643 rfl) hI5995 rfl) hI6010 rfl)), (show Md [8, 9] A (up3 A6010 9 (y6008.toNatClampNeg) y6009) from (Md.up3 (Md.tr (Md.tr (Md.tr Md.rf hA4643 rfl) hA5995 rfl) hA6010 rfl) rfl)), ⟨(IvM_f1 (I := I6010) (A := A6010) hV6010), (IvM_f2 (I := I6010) (A := A6010) hV6010), (IvM_f3 (I := I6010) (A := A6010) hV6010), (IvM_f4 (I := I6010) (A := A6010) hV6010), (IvM_f6 (I := I6010) (A := A6010) hV6010), (IvM_f8 (I := I6010) (A := A6010) hV6010), (IvM_f15 (I := I6010) (A := A6010) hV6010), (IvM_f16 (I := I6010) (A := A6010) hV6010), (IvM_f17 (I := I6010) (A := A6010) hV6010), (IvM_f18 (I := I6010) (A := A6010) hV6010), (IvM_f22 (I := I6010) (A := A6010) hV6010), (IvM_f23 (I := I6010) (A := A6010) hV6010), (IvM_f24 (I := I6010) (A := A6010) hV6010), (IvM_a11 (I := I6010) (A := A6010) hV6010), (IvM_a26 (I := I6010) (A := A6010) hV6010), (IvM_s8_0 (I := I6010) (A := A6010) hV6010), (IvM_s8_1 (I := I6010) (A := A6010) hV6010), (IvM_s10_0 (I := I6010) (A := A6010) hV6010), (IvM_s10_1 (I := I6010) (A := A6010) hV6010), (IvM_s17_0 (I := I6010) (A := A6010) hV6010), (IvM_s17_164 (I := I6010) (A := A6010) hV6010), (IvM_lv (I := I6010) (A := A6010) hV6010), (IvM_sd (I := I6010) (A := A6010) hV6010), (IvM_nq (I := I6010) (A := A6010) hV6010), (IvM_hr (I := I6010) (A := A6010) hV6010), (IvM_hh (I := I6010) (A := A6010) hV6010), trivial⟩, (by omega), (by omega), (by omega), rfl, rfl⟩ dX12_tellSeries_107
                  exfalso; omega
                exfalso; omega
              · skip
                rw [show (A5995 2 (I5995 4).toNatClampNeg) = (A 2 (I4643 4).toNatClampNeg) from (by rw [show I5995 4 = (I4643 4) from (hI5995 4 rfl)]; exact ((congrFun (hA5995 2 rfl) _).trans (congrFun (hA4643 2 rfl) _)))] at c6004
                show GW κ 2 0 0 (wM r g I5995 A5995 L5995) 55 [(0, .ref (r 0))] [.int 1]
                refine g_istore_n (lv' := [(1, .int 1), (0, .ref (r 0))]) hk dX12_tellSeries_55 (by decide) rfl ?_
                refine g_iload_n hk dX12_tellSeries_56 rfl ?_
                refine g_if_eq (tgt := 64) (a := 1) hk dX12_tellSeries_57 (by decide) rfl (fun z9 => absurd z9 (show ¬ ((1 : Int) = (0 : Int)) from by decide)) (fun _ => ?_)
                refine g_aload_n hk dX12_tellSeries_60 rfl ?_
                refine g_callV (n := 0) hk (j127_X12_goesOn l D zt r g I5995 A5995 L5995  hV5995) (SP.same _) (fun _ h => h) (gi_V (List.mem_cons_of_mem _ (List.mem_append_left _ (List.mem_of_getElem? (i := 18) rfl))) (List.mem_cons_of_mem _ (List.mem_append_left _ (List.mem_of_getElem? (i := 19) rfl))) (List.mem_cons_of_mem _ (List.mem_append_left _ (List.mem_of_getElem? (i := 20) rfl))) (List.mem_cons_of_mem _ (List.mem_append_left _ (List.mem_of_getElem? (i := 4) rfl))) (gi_sub (fun w h => (List.mem_cons_of_mem _ (List.mem_append_right _ (List.mem_append_right _ (List.mem_append_right _ (List.mem_append_right _ (List.mem_append_right _ (List.mem_append_right _ (List.mem_append_left _ h))))))))) zg_j127_X12_goesOn)) rfl rfl rfl (by decide +kernel) ⟨Nat.le_of_ble_eq_true rfl, Nat.le_of_ble_eq_true rfl⟩ 0 rfl rfl rfl rfl (Nat.le_of_ble_eq_true rfl) ⟨Nat.le_of_ble_eq_true rfl, Nat.le_of_ble_eq_true rfl⟩ dX12_tellSeries_61 (fun v ty' w' hp hk' => ?_)
                obtain ⟨I6029, A6029, L6029, hI6029, hA6029, hV6029, r6030, r6031, r6032, r6033, rfl, rfl⟩ := hp
                have f6034 := IvM_f4 hV6029
                rw [show (I5995 4) = (I4643 4) from (hI5995 4 rfl)] at r6030
                have f6035 := IvM_f6 hV6029
                rw [show (I5995 8) = (I4643 8) from (hI5995 8 rfl), show (I6029 8) = (I4643 8) from ((hI6029 8 rfl).trans (hI5995 8 rfl))] at r6032
                rw [show (I5995 4) = (I4643 4) from (hI5995 4 rfl)] at r6033
                show GW κ 2 0 0 (wM r g I6029 A6029 L6029) 64 [(1, .int 1), (0, .ref (r 0))] []
                refine g_aload_n hk dX12_tellSeries_64 rfl ?_
                refine gM_r0_27 hk hin12 (List.mem_cons_of_mem _ (List.mem_append_left _ (List.mem_of_getElem? (i := 14) rfl))) dX12_tellSeries_65 ?_
                refine g_sipush (v := 160) hk dX12_tellSeries_68 (by decide) ?_
                refine g_aload_n hk dX12_tellSeries_71 rfl ?_
                refine gM_i16 (v := (I 16)) hk hin12 (List.mem_cons_of_mem _ (List.mem_append_left _ (List.mem_of_getElem? (i := 13) rfl))) dX12_tellSeries_72 ((hI6029 16 rfl).trans ((hI5995 16 rfl).trans (hI4643 16 rfl))) ?_
                by_cases c6036 : (I 16).toInt = 0
                · have ec6036 : (I 16) = 0 := Int32.toInt_inj.mp c6036
                  rw [ec6036]
                  show GW κ 2 0 0 (wM r g I6029 A6029 L6029) 75 [(1, .int 1), (0, .ref (r 0))] [.int 0, .int 160, .ref (r 10)]
                  refine g_imul hk dX12_tellSeries_75 ?_
                  refine g_norm (v := 0) (by decide) ?_
                  refine g_aload_n hk dX12_tellSeries_76 rfl ?_
                  refine gM_r0_26 hk hin12 (List.mem_cons_of_mem _ (List.mem_append_left _ (List.mem_of_getElem? (i := 12) rfl))) dX12_tellSeries_77 ?_
                  refine g_aload_n hk dX12_tellSeries_80 rfl ?_
                  refine gM_i16 (v := (I 16)) hk hin12 (List.mem_cons_of_mem _ (List.mem_append_left _ (List.mem_of_getElem? (i := 13) rfl))) dX12_tellSeries_81 ((hI6029 16 rfl).trans ((hI5995 16 rfl).trans (hI4643 16 rfl))) ?_
                  by_cases c6037 : (I 16).toInt = 0
                  · have ec6037 : (I 16) = 0 := Int32.toInt_inj.mp c6037
                    rw [ec6037]
                    show GW κ 2 0 0 (wM r g I6029 A6029 L6029) 84 [(1, .int 1), (0, .ref (r 0))] [.int 0, .ref (r 9), .int 0, .ref (r 10)]
                    refine lM_8 (v := (A4643 8 0)) hk (vp_in_iff.mpr ⟨by decide, by decide⟩) ((congrFun (hA6029 8 rfl) _).trans (congrFun (hA5995 8 rfl) _)) dX12_tellSeries_84 ?_
                    refine g_iadd hk dX12_tellSeries_85 ?_
                    refine g_topi (fun y6038 ey6038 => ?_)
                    have hy6038 : y6038.toInt = 0 + (A4643 8 0).toInt := i32_add ey6038 rfl rfl (by omega) (by omega)
                    refine g_iload_n hk dX12_tellSeries_86 rfl ?_
                    refine g_if_eq (tgt := 95) (a := 1) hk dX12_tellSeries_87 (by decide) rfl (fun z9 => absurd z9 (show ¬ ((1 : Int) = (0 : Int)) from by decide)) (fun _ => ?_)
                    refine g_ldc (v := 100000) hk (List.mem_cons_of_mem _ (List.mem_append_left _ (List.mem_of_getElem? (i := 21) rfl))) dX12_tellSeries_90 ?_
                    refine g_goto (tgt := 99) hk dX12_tellSeries_92 (by decide) ?_
                    have k6039 : (100000 : Int32).toInt = 100000 := rfl
                    refine sM_9 (j := y6038.toNatClampNeg) hk (vp_in_iff.mpr ⟨by omega, by omega⟩) rfl dX12_tellSeries_99 ?_
                    refine g_aload_n hk dX12_tellSeries_100 rfl ?_
                    refine gM_i6 (v := (I6029 6)) hk hin12 (List.mem_cons_of_mem _ (List.mem_append_left _ (List.mem_of_getElem? (i := 11) rfl))) dX12_tellSeries_101 rfl ?_
                    refine g_if_le (tgt := 108) (a := (I6029 6).toInt) hk dX12_tellSeries_104 (by decide) rfl (fun c6040 => ?_) (fun c6040 => ?_)
                    · skip
                      refine g_aload_n hk dX12_tellSeries_108 rfl ?_
                      refine gM_r0_26 hk hin12 (List.mem_cons_of_mem _ (List.mem_append_left _ (List.mem_of_getElem? (i := 12) rfl))) dX12_tellSeries_109 ?_
                      refine g_aload_n hk dX12_tellSeries_112 rfl ?_
                      refine gM_i16 (v := (I 16)) hk hin12 (List.mem_cons_of_mem _ (List.mem_append_left _ (List.mem_of_getElem? (i := 13) rfl))) dX12_tellSeries_113 ((hI6029 16 rfl).trans ((hI5995 16 rfl).trans (hI4643 16 rfl))) ?_
                      by_cases c6041 : (I 16).toInt = 0
                      · have ec6041 : (I 16) = 0 := Int32.toInt_inj.mp c6041
                        rw [ec6041]
                        show GW κ 2 0 0 (wM r g I6029 (up3 A6029 9 (y6038.toNatClampNeg) 100000) L6029) 116 [(1, .int 1), (0, .ref (r 0))] [.int 0, .ref (r 9)]
                        refine g_dup2 hk dX12_tellSeries_116 rfl rfl ?_
                        refine lM_8 (v := (A4643 8 0)) hk (vp_in_iff.mpr ⟨by decide, by decide⟩) ((congrFun (hA6029 8 rfl) _).trans (congrFun (hA5995 8 rfl) _)) dX12_tellSeries_117 ?_
                        refine g_iconst (v := 1) hk dX12_tellSeries_118 (by decide) ?_
                        refine g_iadd hk dX12_tellSeries_119 ?_
                        refine g_topi (fun y6042 ey6042 => ?_)
                        have hy6042 : y6042.toInt = (A4643 8 0).toInt + 1 := i32_add ey6042 rfl rfl (by omega) (by omega)
                        refine sM_8 (j := 0) hk (vp_in_iff.mpr ⟨by decide, by decide⟩) (by decide) dX12_tellSeries_120 ?_
                        have f6043 := IvM_s8_0 hV6029
                        have f6044 := IvM_s8_1 hV6029
                        refine g_aload_n hk dX12_tellSeries_121 rfl ?_
                        refine g_dup hk dX12_tellSeries_122 rfl ?_
                        refine gM_i11 (v := (I4643 11)) hk hin12 (List.mem_cons_of_mem _ (List.mem_append_left _ (List.mem_of_getElem? (i := 0) rfl))) dX12_tellSeries_123 ((hI6029 11 rfl).trans (hI5995 11 rfl)) ?_
                        refine g_iconst (v := 1) hk dX12_tellSeries_126 (by decide) ?_
                        have b6045l := Int32.le_toInt (I4643 11)
                        have b6045h := Int32.toInt_lt (I4643 11)
                        refine g_iadd hk dX12_tellSeries_127 ?_
                        refine g_topi (fun y6046 ey6046 => ?_)
                        refine pM_i11 hk hin12 (List.mem_cons_of_mem _ (List.mem_append_left _ (List.mem_of_getElem? (i := 0) rfl))) dX12_tellSeries_128 ?_
                        refine g_goto (tgt := 5) hk dX12_tellSeries_131 (by decide) ?_
                        exact g_lv (List.forall_mem_cons.mpr ⟨List.mem_of_getElem? (i := 1) rfl, (fun _ h => absurd h List.not_mem_nil)⟩) (ih5679 (upd I6029 11 y6046) (up3 (up3 A6029 9 (y6038.toNatClampNeg) 100000) 8 0 y6042) L6029 (show Md [4, 6, 7, 8, 9, 11, 12, 13] (upd I 11 0) (upd I6029 11 y6046) from Md.tr hI4643 (show Md [4, 6, 7, 8, 9, 11, 12, 13] I4643 (upd I6029 11 y6046) from (Md.up (Md.tr (Md.tr Md.rf hI5995 rfl) hI6029 rfl) rfl)) rfl) (show Md [8, 9] A (up3 (up3 A6029 9 (y6038.toNatClampNeg) 100000) 8 0 y6042) from Md.tr hA4643 (show Md [8, 9] A4643 (up3 (up3 A6029 9 (y6038.toNatClampNeg) 100000) 8 0 y6042) from (Md.up3 (Md.up3 (Md.tr (Md.tr Md.rf hA5995 rfl) hA6029 rfl) rfl) rfl)) rfl) ⟨(IvM_f1 (I := I6029) (A := A6029) hV6029), (IvM_f2 (I := I6029) (A := A6029) hV6029), (IvM_f3 (I := I6029) (A := A6029) hV6029), (IvM_f4 (I := I6029) (A := A6029) hV6029), (IvM_f6 (I := I6029) (A := A6029) hV6029), (IvM_f8 (I := I6029) (A := A6029) hV6029), (IvM_f15 (I := I6029) (A := A6029) hV6029), (IvM_f16 (I := I6029) (A := A6029) hV6029), (IvM_f17 (I := I6029) (A := A6029) hV6029), (IvM_f18 (I := I6029) (A := A6029) hV6029), (IvM_f22 (I := I6029) (A := A6029) hV6029), (IvM_f23 (I := I6029) (A := A6029) hV6029), (IvM_f24 (I := I6029) (A := A6029) hV6029), (IvM_a11 (I := I6029) (A := A6029) hV6029), (IvM_a26 (I := I6029) (A := A6029) hV6029), (show 0 ≤ ((up3 (up3 A6029 9 (y6038.toNatClampNeg) 100000) 8 0 y6042) 8 0).toInt ∧ ((up3 (up3 A6029 9 (y6038.toNatClampNeg) 100000) 8 0 y6042) 8 0).toInt ≤ 160 from by rw [show (up3 (up3 A6029 9 (y6038.toNatClampNeg) 100000) 8 0 y6042) 8 0 = y6042 from rfl]; exact ⟨by omega, by omega⟩), (show 0 ≤ ((up3 (up3 A6029 9 (y6038.toNatClampNeg) 100000) 8 0 y6042) 8 1).toInt ∧ ((up3 (up3 A6029 9 (y6038.toNatClampNeg) 100000) 8 0 y6042) 8 1).toInt ≤ 160 from by rw [show (up3 (up3 A6029 9 (y6038.toNatClampNeg) 100000) 8 0 y6042) 8 1 = (A6029 8 1) from rfl]; exact (IvM_s8_1 (I := I6029) (A := A6029) hV6029)), (IvM_s10_0 (I := I6029) (A := A6029) hV6029), (IvM_s10_1 (I := I6029) (A := A6029) hV6029), (IvM_s17_0 (I := I6029) (A := A6029) hV6029), (IvM_s17_164 (I := I6029) (A := A6029) hV6029), (IvM_lv (I := I6029) (A := A6029) hV6029), (IvM_sd (I := I6029) (A := A6029) hV6029), (IvM_nq (I := I6029) (A := A6029) hV6029), (IvM_hr (I := I6029) (A := A6029) hV6029), (IvM_hh (I := I6029) (A := A6029) hV6029), trivial⟩ (by first | (rw [show ((upd I6029 11 y6046) 4) = (I6029 4) from rfl] <;> omega) | omega) (by first | (rw [show ((upd I6029 11 y6046) 6) = (I6029 6) from rfl] <;> omega) | omega) (by first | (rw [show ((upd I6029 11 y6046) 8) = (I4643 8) from ((hI6029 8 rfl).trans (hI5995 8 rfl))] <;> omega) | omega) (by first | (rw [show ((upd I6029 11 y6046) 4) = (I6029 4) from rfl] <;> omega) | omega) (by omega))
                      exfalso; omega
                    · skip
                      have f6047 := IvM_f4 hIv
                      have f6048 := IvM_f6 hIv
                      have f6049 := IvM_f8 hIv
                      exact g_vret hk hR ⟨I6029, (up3 A6029 9 (y6038.toNatClampNeg) 100000), L6029, (show Md [4, 6, 7, 8, 9, 11, 12, 13] I I6029 from (Md.tr (Md.tr (Md.tr (Md.up Md.rf rfl) hI4643 rfl) hI5995 rfl) hI6029 rfl)), (show Md [8, 9] A (up3 A6029 9 (y6038.toNatClampNeg) 100000) from (Md.up3 (Md.tr (Md.tr (Md.tr Md.rf hA4643 rfl) hA5995 rfl) hA6029 rfl) rfl)), ⟨(IvM_f1 (I := I6029) (A := A6029) hV6029), (IvM_f2 (I := I6029) (A := A6029) hV6029), (IvM_f3 (I := I6029) (A := A6029) hV6029), (IvM_f4 (I := I6029) (A := A6029) hV6029), (IvM_f6 (I := I6029) (A := A6029) hV6029), (IvM_f8 (I := I6029) (A := A6029) hV6029), (IvM_f15 (I := I6029) (A := A6029) hV6029), (IvM_f16 (I := I6029) (A := A6029) hV6029), (IvM_f17 (I := I6029) (A := A6029) hV6029), (IvM_f18 (I := I6029) (A := A6029) hV6029), (IvM_f22 (I := I6029) (A := A6029) hV6029), (IvM_f23 (I := I6029) (A := A6029) hV6029), (IvM_f24 (I := I6029) (A := A6029) hV6029), (IvM_a11 (I := I6029) (A := A6029) hV6029), (IvM_a26 (I := I6029) (A := A6029) hV6029), (IvM_s8_0 (I := I6029) (A := A6029) hV6029), (IvM_s8_1 (I := I6029) (A := A6029) hV6029), (IvM_s10_0 (I := I6029) (A := A6029) hV6029), (IvM_s10_1 (I := I6029) (A := A6029) hV6029), (IvM_s17_0 (I := I6029) (A := A6029) hV6029), (IvM_s17_164 (I := I6029) (A := A6029) hV6029), (IvM_lv (I := I6029) (A := A6029) hV6029), (IvM_sd (I := I6029) (A := A6029) hV6029), (IvM_nq (I := I6029) (A := A6029) hV6029), (IvM_hr (I := I6029) (A := A6029) hV6029), (IvM_hh (I := I6029) (A := A6029) hV6029), trivial⟩, (by omega), (by omega), (by rw [show (I6029 8) = (I4643 8) from ((hI6029 8 rfl).trans (hI5995 8 rfl))] <;> omega), rfl, rfl⟩ dX12_tellSeries_107
                  exfalso; omega
                exfalso; omega
            · skip
              have f6050 := IvM_f4 hIv
              have f6051 := IvM_f6 hIv
              have f6052 := IvM_f8 hIv
              exact g_vret hk hR ⟨I5995, A5995, L5995, (show Md [4, 6, 7, 8, 9, 11, 12, 13] I I5995 from (Md.tr (Md.tr (Md.up Md.rf rfl) hI4643 rfl) hI5995 rfl)), (show Md [8, 9] A A5995 from (Md.tr (Md.tr Md.rf hA4643 rfl) hA5995 rfl)), hV5995, (by rw [show (I5995 4) = (I4643 4) from (hI5995 4 rfl)] <;> omega), (by omega), (by rw [show (I5995 8) = (I4643 8) from (hI5995 8 rfl)] <;> omega), rfl, rfl⟩ dX12_tellSeries_48
        by_cases c6053 : (I 16).toInt = 1
        · have ec6053 : (I 16) = 1 := Int32.toInt_inj.mp c6053
          rw [ec6053]
          show GW κ 2 0 0 (wM r g I4643 A4643 L4643) 29 [(0, .ref (r 0))] [.int 1, .ref (r 9)]
          refine lM_8 (v := (A4643 8 1)) hk (vp_in_iff.mpr ⟨by decide, by decide⟩) rfl dX12_tellSeries_29 ?_
          have f6054 := IvM_s8_1 hV4643
          refine g_sipush (v := 160) hk dX12_tellSeries_30 (by decide) ?_
          refine g_icmp_ne (tgt := 41) (a := (A4643 8 1).toInt) (b := 160) hk dX12_tellSeries_33 (by decide) rfl rfl (fun c6055 => ?_) (fun c6055 => ?_)
          · skip
            refine g_aload_n hk dX12_tellSeries_41 rfl ?_
            refine gM_i6 (v := (I4643 6)) hk hin12 (List.mem_cons_of_mem _ (List.mem_append_left _ (List.mem_of_getElem? (i := 11) rfl))) dX12_tellSeries_42 rfl ?_
            refine g_if_le (tgt := 49) (a := (I4643 6).toInt) hk dX12_tellSeries_45 (by decide) rfl (fun c6056 => ?_) (fun c6056 => ?_)
            · skip
              refine g_aload_n hk dX12_tellSeries_49 rfl ?_
              refine g_bipush (v := 26) hk dX12_tellSeries_50 (by decide) ?_
              have k6057 : (26 : Int32).toInt = 26 := rfl
              refine g_callV (n := 1) hk (j125_X12_is l D zt r g I4643 A4643 L4643 26 hV4643) (SP.same _) (fun _ h => h) (gi_V (List.mem_cons_of_mem _ (List.mem_append_left _ (List.mem_of_getElem? (i := 5) rfl))) (List.mem_cons_of_mem _ (List.mem_append_left _ (List.mem_of_getElem? (i := 6) rfl))) (List.mem_cons_of_mem _ (List.mem_append_left _ (List.mem_of_getElem? (i := 7) rfl))) (List.mem_cons_of_mem _ (List.mem_append_left _ (List.mem_of_getElem? (i := 4) rfl))) (gi_sub (fun w h => (List.mem_cons_of_mem _ (List.mem_append_right _ (List.mem_append_right _ (List.mem_append_right _ (List.mem_append_left _ h)))))) zg_j125_X12_is)) rfl rfl rfl (by decide +kernel) ⟨Nat.le_of_ble_eq_true rfl, Nat.le_of_ble_eq_true rfl⟩ 0 rfl rfl rfl rfl (Nat.le_of_ble_eq_true rfl) ⟨Nat.le_of_ble_eq_true rfl, Nat.le_of_ble_eq_true rfl⟩ dX12_tellSeries_52 (fun v ty' w' hp hk' => ?_)
              rcases hp with ⟨c6058, rfl, rfl⟩ | ⟨c6060, rfl, rfl⟩
              · skip
                rw [show (A4643 2 (I4643 4).toNatClampNeg) = (A 2 (I4643 4).toNatClampNeg) from (congrFun (hA4643 2 rfl) _)] at c6058
                show GW κ 2 0 0 (wM r g I4643 A4643 L4643) 55 [(0, .ref (r 0))] [.int 0]
                refine g_istore_n (lv' := [(1, .int 0), (0, .ref (r 0))]) hk dX12_tellSeries_55 (by decide) rfl ?_
                refine g_iload_n hk dX12_tellSeries_56 rfl ?_
                refine g_if_eq (tgt := 64) (a := 0) hk dX12_tellSeries_57 (by decide) rfl (fun _ => ?_) (fun z9 => absurd (show (0 : Int) = (0 : Int) from by decide) z9)
                refine g_aload_n hk dX12_tellSeries_64 rfl ?_
                refine gM_r0_27 hk hin12 (List.mem_cons_of_mem _ (List.mem_append_left _ (List.mem_of_getElem? (i := 14) rfl))) dX12_tellSeries_65 ?_
                refine g_sipush (v := 160) hk dX12_tellSeries_68 (by decide) ?_
                refine g_aload_n hk dX12_tellSeries_71 rfl ?_
                refine gM_i16 (v := (I 16)) hk hin12 (List.mem_cons_of_mem _ (List.mem_append_left _ (List.mem_of_getElem? (i := 13) rfl))) dX12_tellSeries_72 (hI4643 16 rfl) ?_
                by_cases c6062 : (I 16).toInt = 1
                · have ec6062 : (I 16) = 1 := Int32.toInt_inj.mp c6062
                  rw [ec6062]
                  show GW κ 2 0 0 (wM r g I4643 A4643 L4643) 75 [(1, .int 0), (0, .ref (r 0))] [.int 1, .int 160, .ref (r 10)]
                  refine g_imul hk dX12_tellSeries_75 ?_
                  refine g_norm (v := 160) (by decide) ?_
                  refine g_aload_n hk dX12_tellSeries_76 rfl ?_
                  refine gM_r0_26 hk hin12 (List.mem_cons_of_mem _ (List.mem_append_left _ (List.mem_of_getElem? (i := 12) rfl))) dX12_tellSeries_77 ?_
                  refine g_aload_n hk dX12_tellSeries_80 rfl ?_
                  refine gM_i16 (v := (I 16)) hk hin12 (List.mem_cons_of_mem _ (List.mem_append_left _ (List.mem_of_getElem? (i := 13) rfl))) dX12_tellSeries_81 (hI4643 16 rfl) ?_
                  by_cases c6063 : (I 16).toInt = 1
                  · have ec6063 : (I 16) = 1 := Int32.toInt_inj.mp c6063
                    rw [ec6063]
                    show GW κ 2 0 0 (wM r g I4643 A4643 L4643) 84 [(1, .int 0), (0, .ref (r 0))] [.int 1, .ref (r 9), .int 160, .ref (r 10)]
                    refine lM_8 (v := (A4643 8 1)) hk (vp_in_iff.mpr ⟨by decide, by decide⟩) rfl dX12_tellSeries_84 ?_
                    refine g_iadd hk dX12_tellSeries_85 ?_
                    refine g_topi (fun y6064 ey6064 => ?_)
                    have hy6064 : y6064.toInt = 160 + (A4643 8 1).toInt := i32_add ey6064 rfl rfl (by omega) (by omega)
                    refine g_iload_n hk dX12_tellSeries_86 rfl ?_
                    refine g_if_eq (tgt := 95) (a := 0) hk dX12_tellSeries_87 (by decide) rfl (fun _ => ?_) (fun z9 => absurd (show (0 : Int) = (0 : Int) from by decide) z9)
                    refine g_aload_n hk dX12_tellSeries_95 rfl ?_
                    refine g_callV (n := 0) hk (j132_X12_readingTold l D zt r g I4643 A4643 L4643  hV4643) (SP.same _) (fun _ h => h) (gi_V (List.mem_cons_of_mem _ (List.mem_append_left _ (List.mem_of_getElem? (i := 15) rfl))) (List.mem_cons_of_mem _ (List.mem_append_left _ (List.mem_of_getElem? (i := 16) rfl))) (List.mem_cons_of_mem _ (List.mem_append_left _ (List.mem_of_getElem? (i := 17) rfl))) (List.mem_cons_of_mem _ (List.mem_append_left _ (List.mem_of_getElem? (i := 4) rfl))) (gi_sub (fun w h => (List.mem_cons_of_mem _ (List.mem_append_right _ (List.mem_append_right _ (List.mem_append_right _ (List.mem_append_right _ (List.mem_append_right _ (List.mem_append_left _ h)))))))) zg_j132_X12_readingTold)) rfl rfl rfl (by decide +kernel) ⟨Nat.le_of_ble_eq_true rfl, Nat.le_of_ble_eq_true rfl⟩ 0 rfl rfl rfl rfl (Nat.le_of_ble_eq_true rfl) ⟨Nat.le_of_ble_eq_true rfl, Nat.le_of_ble_eq_true rfl⟩ dX12_tellSeries_96 (fun v ty' w' hp hk' => ?_)
                    obtain ⟨I6066, A6066, L6066, hI6066, hA6066, hV6066, y6065, r6067, r6068, r6069, r6070, rfl, rfl⟩ := hp
                    have f6071 := IvM_f4 hV6066
                    have f6072 := IvM_f6 hV6066
                    have f6073 := IvM_f8 hV6066
                    show GW κ 2 0 0 (wM r g I6066 A6066 L6066) 99 [(1, .int 0), (0, .ref (r 0))] [.int y6065, .int y6064, .ref (r 10)]
                    refine sM_9 (j := y6064.toNatClampNeg) hk (vp_in_iff.mpr ⟨by omega, by omega⟩) rfl dX12_tellSeries_99 ?_
                    refine g_aload_n hk dX12_tellSeries_100 rfl ?_
                    refine gM_i6 (v := (I6066 6)) hk hin12 (List.mem_cons_of_mem _ (List.mem_append_left _ (List.mem_of_getElem? (i := 11) rfl))) dX12_tellSeries_101 rfl ?_
                    refine g_if_le (tgt := 108) (a := (I6066 6).toInt) hk dX12_tellSeries_104 (by decide) rfl (fun c6074 => ?_) (fun c6074 => ?_)
                    · skip
                      refine g_aload_n hk dX12_tellSeries_108 rfl ?_
                      refine gM_r0_26 hk hin12 (List.mem_cons_of_mem _ (List.mem_append_left _ (List.mem_of_getElem? (i := 12) rfl))) dX12_tellSeries_109 ?_
                      refine g_aload_n hk dX12_tellSeries_112 rfl ?_
                      refine gM_i16 (v := (I 16)) hk hin12 (List.mem_cons_of_mem _ (List.mem_append_left _ (List.mem_of_getElem? (i := 13) rfl))) dX12_tellSeries_113 ((hI6066 16 rfl).trans (hI4643 16 rfl)) ?_
                      by_cases c6075 : (I 16).toInt = 1
                      · have ec6075 : (I 16) = 1 := Int32.toInt_inj.mp c6075
                        rw [ec6075]
                        show GW κ 2 0 0 (wM r g I6066 (up3 A6066 9 (y6064.toNatClampNeg) y6065) L6066) 116 [(1, .int 0), (0, .ref (r 0))] [.int 1, .ref (r 9)]
                        refine g_dup2 hk dX12_tellSeries_116 rfl rfl ?_
                        refine lM_8 (v := (A4643 8 1)) hk (vp_in_iff.mpr ⟨by decide, by decide⟩) (congrFun (hA6066 8 rfl) _) dX12_tellSeries_117 ?_
                        refine g_iconst (v := 1) hk dX12_tellSeries_118 (by decide) ?_
                        refine g_iadd hk dX12_tellSeries_119 ?_
                        refine g_topi (fun y6076 ey6076 => ?_)
                        have hy6076 : y6076.toInt = (A4643 8 1).toInt + 1 := i32_add ey6076 rfl rfl (by omega) (by omega)
                        refine sM_8 (j := 1) hk (vp_in_iff.mpr ⟨by decide, by decide⟩) (by decide) dX12_tellSeries_120 ?_
                        have f6077 := IvM_s8_0 hV6066
                        have f6078 := IvM_s8_1 hV6066
                        refine g_aload_n hk dX12_tellSeries_121 rfl ?_
                        refine g_dup hk dX12_tellSeries_122 rfl ?_
                        refine gM_i11 (v := (I4643 11)) hk hin12 (List.mem_cons_of_mem _ (List.mem_append_left _ (List.mem_of_getElem? (i := 0) rfl))) dX12_tellSeries_123 (hI6066 11 rfl) ?_
                        refine g_iconst (v := 1) hk dX12_tellSeries_126 (by decide) ?_
                        have b6079l := Int32.le_toInt (I4643 11)
                        have b6079h := Int32.toInt_lt (I4643 11)
                        refine g_iadd hk dX12_tellSeries_127 ?_
                        refine g_topi (fun y6080 ey6080 => ?_)
                        refine pM_i11 hk hin12 (List.mem_cons_of_mem _ (List.mem_append_left _ (List.mem_of_getElem? (i := 0) rfl))) dX12_tellSeries_128 ?_
                        refine g_goto (tgt := 5) hk dX12_tellSeries_131 (by decide) ?_
                        exact g_lv (List.forall_mem_cons.mpr ⟨List.mem_of_getElem? (i := 1) rfl, (fun _ h => absurd h List.not_mem_nil)⟩) (ih5679 (upd I6066 11 y6080) (up3 (up3 A6066 9 (y6064.toNatClampNeg) y6065) 8 1 y6076) L6066 (show Md [4, 6, 7, 8, 9, 11, 12, 13] (upd I 11 0) (upd I6066 11 y6080) from Md.tr hI4643 (show Md [4, 6, 7, 8, 9, 11, 12, 13] I4643 (upd I6066 11 y6080) from (Md.up (Md.tr Md.rf hI6066 rfl) rfl)) rfl) (show Md [8, 9] A (up3 (up3 A6066 9 (y6064.toNatClampNeg) y6065) 8 1 y6076) from Md.tr hA4643 (show Md [8, 9] A4643 (up3 (up3 A6066 9 (y6064.toNatClampNeg) y6065) 8 1 y6076) from (Md.up3 (Md.up3 (Md.tr Md.rf hA6066 rfl) rfl) rfl)) rfl) ⟨(IvM_f1 (I := I6066) (A := A6066) hV6066), (IvM_f2 (I := I6066) (A := A6066) hV6066), (IvM_f3 (I := I6066) (A := A6066) hV6066), (IvM_f4 (I := I6066) (A := A6066) hV6066), (IvM_f6 (I := I6066) (A := A6066) hV6066), (IvM_f8 (I := I6066) (A := A6066) hV6066), (IvM_f15 (I := I6066) (A := A6066) hV6066), (IvM_f16 (I := I6066) (A := A6066) hV6066), (IvM_f17 (I := I6066) (A := A6066) hV6066), (IvM_f18 (I := I6066) (A := A6066) hV6066), (IvM_f22 (I := I6066) (A := A6066) hV6066), (IvM_f23 (I := I6066) (A := A6066) hV6066), (IvM_f24 (I := I6066) (A := A6066) hV6066), (IvM_a11 (I := I6066) (A := A6066) hV6066), (IvM_a26 (I := I6066) (A := A6066) hV6066), (show 0 ≤ ((up3 (up3 A6066 9 (y6064.toNatClampNeg) y6065) 8 1 y6076) 8 0).toInt ∧ ((up3 (up3 A6066 9 (y6064.toNatClampNeg) y6065) 8 1 y6076) 8 0).toInt ≤ 160 from by rw [show (up3 (up3 A6066 9 (y6064.toNatClampNeg) y6065) 8 1 y6076) 8 0 = (A6066 8 0) from rfl]; exact (IvM_s8_0 (I := I6066) (A := A6066) hV6066)), (show 0 ≤ ((up3 (up3 A6066 9 (y6064.toNatClampNeg) y6065) 8 1 y6076) 8 1).toInt ∧ ((up3 (up3 A6066 9 (y6064.toNatClampNeg) y6065) 8 1 y6076) 8 1).toInt ≤ 160 from by rw [show (up3 (up3 A6066 9 (y6064.toNatClampNeg) y6065) 8 1 y6076) 8 1 = y6076 from rfl]; exact ⟨by omega, by omega⟩), (IvM_s10_0 (I := I6066) (A := A6066) hV6066), (IvM_s10_1 (I := I6066) (A := A6066) hV6066), (IvM_s17_0 (I := I6066) (A := A6066) hV6066), (IvM_s17_164 (I := I6066) (A := A6066) hV6066), (IvM_lv (I := I6066) (A := A6066) hV6066), (IvM_sd (I := I6066) (A := A6066) hV6066), (IvM_nq (I := I6066) (A := A6066) hV6066), (IvM_hr (I := I6066) (A := A6066) hV6066), (IvM_hh (I := I6066) (A := A6066) hV6066), trivial⟩ (by first | (rw [show ((upd I6066 11 y6080) 4) = (I6066 4) from rfl] <;> omega) | omega) (by first | (rw [show ((upd I6066 11 y6080) 6) = (I6066 6) from rfl] <;> omega) | omega) (by first | (rw [show ((upd I6066 11 y6080) 8) = (I6066 8) from rfl] <;> omega) | omega) (by first | (rw [show ((upd I6066 11 y6080) 4) = (I6066 4) from rfl] <;> omega) | omega) (by omega))
                      exfalso; omega
                    · skip
                      have f6081 := IvM_f4 hIv
                      have f6082 := IvM_f6 hIv
                      have f6083 := IvM_f8 hIv
                      exact g_vret hk hR ⟨I6066, (up3 A6066 9 (y6064.toNatClampNeg) y6065), L6066, (show Md [4, 6, 7, 8, 9, 11, 12, 13] I I6066 from (Md.tr (Md.tr (Md.up Md.rf rfl) hI4643 rfl) hI6066 rfl)), (show Md [8, 9] A (up3 A6066 9 (y6064.toNatClampNeg) y6065) from (Md.up3 (Md.tr (Md.tr Md.rf hA4643 rfl) hA6066 rfl) rfl)), ⟨(IvM_f1 (I := I6066) (A := A6066) hV6066), (IvM_f2 (I := I6066) (A := A6066) hV6066), (IvM_f3 (I := I6066) (A := A6066) hV6066), (IvM_f4 (I := I6066) (A := A6066) hV6066), (IvM_f6 (I := I6066) (A := A6066) hV6066), (IvM_f8 (I := I6066) (A := A6066) hV6066), (IvM_f15 (I := I6066) (A := A6066) hV6066), (IvM_f16 (I := I6066) (A := A6066) hV6066), (IvM_f17 (I := I6066) (A := A6066) hV6066), (IvM_f18 (I := I6066) (A := A6066) hV6066), (IvM_f22 (I := I6066) (A := A6066) hV6066), (IvM_f23 (I := I6066) (A := A6066) hV6066), (IvM_f24 (I := I6066) (A := A6066) hV6066), (IvM_a11 (I := I6066) (A := A6066) hV6066), (IvM_a26 (I := I6066) (A := A6066) hV6066), (IvM_s8_0 (I := I6066) (A := A6066) hV6066), (IvM_s8_1 (I := I6066) (A := A6066) hV6066), (IvM_s10_0 (I := I6066) (A := A6066) hV6066), (IvM_s10_1 (I := I6066) (A := A6066) hV6066), (IvM_s17_0 (I := I6066) (A := A6066) hV6066), (IvM_s17_164 (I := I6066) (A := A6066) hV6066), (IvM_lv (I := I6066) (A := A6066) hV6066), (IvM_sd (I := I6066) (A := A6066) hV6066), (IvM_nq (I := I6066) (A := A6066) hV6066), (IvM_hr (I := I6066) (A := A6066) hV6066), (IvM_hh (I := I6066) (A := A6066) hV6066), trivial⟩, (by omega), (by omega), (by omega), rfl, rfl⟩ dX12_tellSeries_107
                  exfalso; omega
                exfalso; omega
              · skip
                rw [show (A4643 2 (I4643 4).toNatClampNeg) = (A 2 (I4643 4).toNatClampNeg) from (congrFun (hA4643 2 rfl) _)] at c6060
                show GW κ 2 0 0 (wM r g I4643 A4643 L4643) 55 [(0, .ref (r 0))] [.int 1]
                refine g_istore_n (lv' := [(1, .int 1), (0, .ref (r 0))]) hk dX12_tellSeries_55 (by decide) rfl ?_
                refine g_iload_n hk dX12_tellSeries_56 rfl ?_
                refine g_if_eq (tgt := 64) (a := 1) hk dX12_tellSeries_57 (by decide) rfl (fun z9 => absurd z9 (show ¬ ((1 : Int) = (0 : Int)) from by decide)) (fun _ => ?_)
                refine g_aload_n hk dX12_tellSeries_60 rfl ?_
                refine g_callV (n := 0) hk (j127_X12_goesOn l D zt r g I4643 A4643 L4643  hV4643) (SP.same _) (fun _ h => h) (gi_V (List.mem_cons_of_mem _ (List.mem_append_left _ (List.mem_of_getElem? (i := 18) rfl))) (List.mem_cons_of_mem _ (List.mem_append_left _ (List.mem_of_getElem? (i := 19) rfl))) (List.mem_cons_of_mem _ (List.mem_append_left _ (List.mem_of_getElem? (i := 20) rfl))) (List.mem_cons_of_mem _ (List.mem_append_left _ (List.mem_of_getElem? (i := 4) rfl))) (gi_sub (fun w h => (List.mem_cons_of_mem _ (List.mem_append_right _ (List.mem_append_right _ (List.mem_append_right _ (List.mem_append_right _ (List.mem_append_right _ (List.mem_append_right _ (List.mem_append_left _ h))))))))) zg_j127_X12_goesOn)) rfl rfl rfl (by decide +kernel) ⟨Nat.le_of_ble_eq_true rfl, Nat.le_of_ble_eq_true rfl⟩ 0 rfl rfl rfl rfl (Nat.le_of_ble_eq_true rfl) ⟨Nat.le_of_ble_eq_true rfl, Nat.le_of_ble_eq_true rfl⟩ dX12_tellSeries_61 (fun v ty' w' hp hk' => ?_)
                obtain ⟨I6085, A6085, L6085, hI6085, hA6085, hV6085, r6086, r6087, r6088, r6089, rfl, rfl⟩ := hp
                have f6090 := IvM_f4 hV6085
                have f6091 := IvM_f6 hV6085
                rw [show (I6085 8) = (I4643 8) from (hI6085 8 rfl)] at r6088
                show GW κ 2 0 0 (wM r g I6085 A6085 L6085) 64 [(1, .int 1), (0, .ref (r 0))] []
                refine g_aload_n hk dX12_tellSeries_64 rfl ?_
                refine gM_r0_27 hk hin12 (List.mem_cons_of_mem _ (List.mem_append_left _ (List.mem_of_getElem? (i := 14) rfl))) dX12_tellSeries_65 ?_
                refine g_sipush (v := 160) hk dX12_tellSeries_68 (by decide) ?_
                refine g_aload_n hk dX12_tellSeries_71 rfl ?_
                refine gM_i16 (v := (I 16)) hk hin12 (List.mem_cons_of_mem _ (List.mem_append_left _ (List.mem_of_getElem? (i := 13) rfl))) dX12_tellSeries_72 ((hI6085 16 rfl).trans (hI4643 16 rfl)) ?_
                by_cases c6092 : (I 16).toInt = 1
                · have ec6092 : (I 16) = 1 := Int32.toInt_inj.mp c6092
                  rw [ec6092]
                  show GW κ 2 0 0 (wM r g I6085 A6085 L6085) 75 [(1, .int 1), (0, .ref (r 0))] [.int 1, .int 160, .ref (r 10)]
                  refine g_imul hk dX12_tellSeries_75 ?_
                  refine g_norm (v := 160) (by decide) ?_
                  refine g_aload_n hk dX12_tellSeries_76 rfl ?_
                  refine gM_r0_26 hk hin12 (List.mem_cons_of_mem _ (List.mem_append_left _ (List.mem_of_getElem? (i := 12) rfl))) dX12_tellSeries_77 ?_
                  refine g_aload_n hk dX12_tellSeries_80 rfl ?_
                  refine gM_i16 (v := (I 16)) hk hin12 (List.mem_cons_of_mem _ (List.mem_append_left _ (List.mem_of_getElem? (i := 13) rfl))) dX12_tellSeries_81 ((hI6085 16 rfl).trans (hI4643 16 rfl)) ?_
                  by_cases c6093 : (I 16).toInt = 1
                  · have ec6093 : (I 16) = 1 := Int32.toInt_inj.mp c6093
                    rw [ec6093]
                    show GW κ 2 0 0 (wM r g I6085 A6085 L6085) 84 [(1, .int 1), (0, .ref (r 0))] [.int 1, .ref (r 9), .int 160, .ref (r 10)]
                    refine lM_8 (v := (A4643 8 1)) hk (vp_in_iff.mpr ⟨by decide, by decide⟩) (congrFun (hA6085 8 rfl) _) dX12_tellSeries_84 ?_
                    refine g_iadd hk dX12_tellSeries_85 ?_
                    refine g_topi (fun y6094 ey6094 => ?_)
                    have hy6094 : y6094.toInt = 160 + (A4643 8 1).toInt := i32_add ey6094 rfl rfl (by omega) (by omega)
                    refine g_iload_n hk dX12_tellSeries_86 rfl ?_
                    refine g_if_eq (tgt := 95) (a := 1) hk dX12_tellSeries_87 (by decide) rfl (fun z9 => absurd z9 (show ¬ ((1 : Int) = (0 : Int)) from by decide)) (fun _ => ?_)
                    refine g_ldc (v := 100000) hk (List.mem_cons_of_mem _ (List.mem_append_left _ (List.mem_of_getElem? (i := 21) rfl))) dX12_tellSeries_90 ?_
                    refine g_goto (tgt := 99) hk dX12_tellSeries_92 (by decide) ?_
                    have k6095 : (100000 : Int32).toInt = 100000 := rfl
                    refine sM_9 (j := y6094.toNatClampNeg) hk (vp_in_iff.mpr ⟨by omega, by omega⟩) rfl dX12_tellSeries_99 ?_
                    refine g_aload_n hk dX12_tellSeries_100 rfl ?_
                    refine gM_i6 (v := (I6085 6)) hk hin12 (List.mem_cons_of_mem _ (List.mem_append_left _ (List.mem_of_getElem? (i := 11) rfl))) dX12_tellSeries_101 rfl ?_
                    refine g_if_le (tgt := 108) (a := (I6085 6).toInt) hk dX12_tellSeries_104 (by decide) rfl (fun c6096 => ?_) (fun c6096 => ?_)
                    · skip
                      refine g_aload_n hk dX12_tellSeries_108 rfl ?_
                      refine gM_r0_26 hk hin12 (List.mem_cons_of_mem _ (List.mem_append_left _ (List.mem_of_getElem? (i := 12) rfl))) dX12_tellSeries_109 ?_
                      refine g_aload_n hk dX12_tellSeries_112 rfl ?_
                      refine gM_i16 (v := (I 16)) hk hin12 (List.mem_cons_of_mem _ (List.mem_append_left _ (List.mem_of_getElem? (i := 13) rfl))) dX12_tellSeries_113 ((hI6085 16 rfl).trans (hI4643 16 rfl)) ?_
                      by_cases c6097 : (I 16).toInt = 1
                      · have ec6097 : (I 16) = 1 := Int32.toInt_inj.mp c6097
                        rw [ec6097]
                        show GW κ 2 0 0 (wM r g I6085 (up3 A6085 9 (y6094.toNatClampNeg) 100000) L6085) 116 [(1, .int 1), (0, .ref (r 0))] [.int 1, .ref (r 9)]
                        refine g_dup2 hk dX12_tellSeries_116 rfl rfl ?_
                        refine lM_8 (v := (A4643 8 1)) hk (vp_in_iff.mpr ⟨by decide, by decide⟩) (congrFun (hA6085 8 rfl) _) dX12_tellSeries_117 ?_
                        refine g_iconst (v := 1) hk dX12_tellSeries_118 (by decide) ?_
                        refine g_iadd hk dX12_tellSeries_119 ?_
                        refine g_topi (fun y6098 ey6098 => ?_)
                        have hy6098 : y6098.toInt = (A4643 8 1).toInt + 1 := i32_add ey6098 rfl rfl (by omega) (by omega)
                        refine sM_8 (j := 1) hk (vp_in_iff.mpr ⟨by decide, by decide⟩) (by decide) dX12_tellSeries_120 ?_
                        have f6099 := IvM_s8_0 hV6085
                        have f6100 := IvM_s8_1 hV6085
                        refine g_aload_n hk dX12_tellSeries_121 rfl ?_
                        refine g_dup hk dX12_tellSeries_122 rfl ?_
                        refine gM_i11 (v := (I4643 11)) hk hin12 (List.mem_cons_of_mem _ (List.mem_append_left _ (List.mem_of_getElem? (i := 0) rfl))) dX12_tellSeries_123 (hI6085 11 rfl) ?_
                        refine g_iconst (v := 1) hk dX12_tellSeries_126 (by decide) ?_
                        have b6101l := Int32.le_toInt (I4643 11)
                        have b6101h := Int32.toInt_lt (I4643 11)
                        refine g_iadd hk dX12_tellSeries_127 ?_
                        refine g_topi (fun y6102 ey6102 => ?_)
                        refine pM_i11 hk hin12 (List.mem_cons_of_mem _ (List.mem_append_left _ (List.mem_of_getElem? (i := 0) rfl))) dX12_tellSeries_128 ?_
                        refine g_goto (tgt := 5) hk dX12_tellSeries_131 (by decide) ?_
                        exact g_lv (List.forall_mem_cons.mpr ⟨List.mem_of_getElem? (i := 1) rfl, (fun _ h => absurd h List.not_mem_nil)⟩) (ih5679 (upd I6085 11 y6102) (up3 (up3 A6085 9 (y6094.toNatClampNeg) 100000) 8 1 y6098) L6085 (show Md [4, 6, 7, 8, 9, 11, 12, 13] (upd I 11 0) (upd I6085 11 y6102) from Md.tr hI4643 (show Md [4, 6, 7, 8, 9, 11, 12, 13] I4643 (upd I6085 11 y6102) from (Md.up (Md.tr Md.rf hI6085 rfl) rfl)) rfl) (show Md [8, 9] A (up3 (up3 A6085 9 (y6094.toNatClampNeg) 100000) 8 1 y6098) from Md.tr hA4643 (show Md [8, 9] A4643 (up3 (up3 A6085 9 (y6094.toNatClampNeg) 100000) 8 1 y6098) from (Md.up3 (Md.up3 (Md.tr Md.rf hA6085 rfl) rfl) rfl)) rfl) ⟨(IvM_f1 (I := I6085) (A := A6085) hV6085), (IvM_f2 (I := I6085) (A := A6085) hV6085), (IvM_f3 (I := I6085) (A := A6085) hV6085), (IvM_f4 (I := I6085) (A := A6085) hV6085), (IvM_f6 (I := I6085) (A := A6085) hV6085), (IvM_f8 (I := I6085) (A := A6085) hV6085), (IvM_f15 (I := I6085) (A := A6085) hV6085), (IvM_f16 (I := I6085) (A := A6085) hV6085), (IvM_f17 (I := I6085) (A := A6085) hV6085), (IvM_f18 (I := I6085) (A := A6085) hV6085), (IvM_f22 (I := I6085) (A := A6085) hV6085), (IvM_f23 (I := I6085) (A := A6085) hV6085), (IvM_f24 (I := I6085) (A := A6085) hV6085), (IvM_a11 (I := I6085) (A := A6085) hV6085), (IvM_a26 (I := I6085) (A := A6085) hV6085), (show 0 ≤ ((up3 (up3 A6085 9 (y6094.toNatClampNeg) 100000) 8 1 y6098) 8 0).toInt ∧ ((up3 (up3 A6085 9 (y6094.toNatClampNeg) 100000) 8 1 y6098) 8 0).toInt ≤ 160 from by rw [show (up3 (up3 A6085 9 (y6094.toNatClampNeg) 100000) 8 1 y6098) 8 0 = (A6085 8 0) from rfl]; exact (IvM_s8_0 (I := I6085) (A := A6085) hV6085)), (show 0 ≤ ((up3 (up3 A6085 9 (y6094.toNatClampNeg) 100000) 8 1 y6098) 8 1).toInt ∧ ((up3 (up3 A6085 9 (y6094.toNatClampNeg) 100000) 8 1 y6098) 8 1).toInt ≤ 160 from by rw [show (up3 (up3 A6085 9 (y6094.toNatClampNeg) 100000) 8 1 y6098) 8 1 = y6098 from rfl]; exact ⟨by omega, by omega⟩), (IvM_s10_0 (I := I6085) (A := A6085) hV6085), (IvM_s10_1 (I := I6085) (A := A6085) hV6085), (IvM_s17_0 (I := I6085) (A := A6085) hV6085), (IvM_s17_164 (I := I6085) (A := A6085) hV6085), (IvM_lv (I := I6085) (A := A6085) hV6085), (IvM_sd (I := I6085) (A := A6085) hV6085), (IvM_nq (I := I6085) (A := A6085) hV6085), (IvM_hr (I := I6085) (A := A6085) hV6085), (IvM_hh (I := I6085) (A := A6085) hV6085), trivial⟩ (by first | (rw [show ((upd I6085 11 y6102) 4) = (I6085 4) from rfl] <;> omega) | omega) (by first | (rw [show ((upd I6085 11 y6102) 6) = (I6085 6) from rfl] <;> omega) | omega) (by first | (rw [show ((upd I6085 11 y6102) 8) = (I4643 8) from (hI6085 8 rfl)] <;> omega) | omega) (by first | (rw [show ((upd I6085 11 y6102) 4) = (I6085 4) from rfl] <;> omega) | omega) (by omega))
                      exfalso; omega
                    · skip
                      have f6103 := IvM_f4 hIv
                      have f6104 := IvM_f6 hIv
                      have f6105 := IvM_f8 hIv
                      exact g_vret hk hR ⟨I6085, (up3 A6085 9 (y6094.toNatClampNeg) 100000), L6085, (show Md [4, 6, 7, 8, 9, 11, 12, 13] I I6085 from (Md.tr (Md.tr (Md.up Md.rf rfl) hI4643 rfl) hI6085 rfl)), (show Md [8, 9] A (up3 A6085 9 (y6094.toNatClampNeg) 100000) from (Md.up3 (Md.tr (Md.tr Md.rf hA4643 rfl) hA6085 rfl) rfl)), ⟨(IvM_f1 (I := I6085) (A := A6085) hV6085), (IvM_f2 (I := I6085) (A := A6085) hV6085), (IvM_f3 (I := I6085) (A := A6085) hV6085), (IvM_f4 (I := I6085) (A := A6085) hV6085), (IvM_f6 (I := I6085) (A := A6085) hV6085), (IvM_f8 (I := I6085) (A := A6085) hV6085), (IvM_f15 (I := I6085) (A := A6085) hV6085), (IvM_f16 (I := I6085) (A := A6085) hV6085), (IvM_f17 (I := I6085) (A := A6085) hV6085), (IvM_f18 (I := I6085) (A := A6085) hV6085), (IvM_f22 (I := I6085) (A := A6085) hV6085), (IvM_f23 (I := I6085) (A := A6085) hV6085), (IvM_f24 (I := I6085) (A := A6085) hV6085), (IvM_a11 (I := I6085) (A := A6085) hV6085), (IvM_a26 (I := I6085) (A := A6085) hV6085), (IvM_s8_0 (I := I6085) (A := A6085) hV6085), (IvM_s8_1 (I := I6085) (A := A6085) hV6085), (IvM_s10_0 (I := I6085) (A := A6085) hV6085), (IvM_s10_1 (I := I6085) (A := A6085) hV6085), (IvM_s17_0 (I := I6085) (A := A6085) hV6085), (IvM_s17_164 (I := I6085) (A := A6085) hV6085), (IvM_lv (I := I6085) (A := A6085) hV6085), (IvM_sd (I := I6085) (A := A6085) hV6085), (IvM_nq (I := I6085) (A := A6085) hV6085), (IvM_hr (I := I6085) (A := A6085) hV6085), (IvM_hh (I := I6085) (A := A6085) hV6085), trivial⟩, (by omega), (by omega), (by rw [show (I6085 8) = (I4643 8) from (hI6085 8 rfl)] <;> omega), rfl, rfl⟩ dX12_tellSeries_107
                  exfalso; omega
                exfalso; omega
            · skip
              have f6106 := IvM_f4 hIv
              have f6107 := IvM_f6 hIv
              have f6108 := IvM_f8 hIv
              exact g_vret hk hR ⟨I4643, A4643, L4643, (show Md [4, 6, 7, 8, 9, 11, 12, 13] I I4643 from (Md.tr (Md.up Md.rf rfl) hI4643 rfl)), (show Md [8, 9] A A4643 from (Md.tr Md.rf hA4643 rfl)), hV4643, (by omega), (by omega), (by omega), rfl, rfl⟩ dX12_tellSeries_48
          · skip
            refine g_aload_n hk dX12_tellSeries_36 rfl ?_
            refine g_iconst (v := 2) hk dX12_tellSeries_37 (by decide) ?_
            have k6109 : (2 : Int32).toInt = 2 := rfl
            refine g_callV (n := 1) hk (j128_X12_fail l D zt r g I4643 A4643 L4643 2 hV4643 (by decide) (by decide)) (SP.same _) (fun _ h => h) (gi_V (List.mem_cons_of_mem _ (List.mem_append_left _ (List.mem_of_getElem? (i := 22) rfl))) (List.mem_cons_of_mem _ (List.mem_append_left _ (List.mem_of_getElem? (i := 23) rfl))) (List.mem_cons_of_mem _ (List.mem_append_left _ (List.mem_of_getElem? (i := 24) rfl))) (List.mem_cons_of_mem _ (List.mem_append_left _ (List.mem_of_getElem? (i := 4) rfl))) (gi_sub (fun w h => (List.mem_cons_of_mem _ (List.mem_append_right _ (List.mem_append_right _ (List.mem_append_right _ (List.mem_append_right _ (List.mem_append_right _ (List.mem_append_right _ (List.mem_append_right _ (List.mem_append_left _ h)))))))))) zg_j128_X12_fail)) rfl rfl rfl (by decide +kernel) ⟨Nat.le_of_ble_eq_true rfl, Nat.le_of_ble_eq_true rfl⟩ 0 rfl rfl rfl rfl (Nat.le_of_ble_eq_true rfl) ⟨Nat.le_of_ble_eq_true rfl, Nat.le_of_ble_eq_true rfl⟩ dX12_tellSeries_38 (fun v ty' w' hp hk' => ?_)
            obtain ⟨I6111, A6111, L6111, hI6111, hA6111, hV6111, r6112, r6113, r6114, rfl, rfl⟩ := hp
            have f6115 := IvM_f6 hV6111
            rw [show (I6111 8) = (I4643 8) from (hI6111 8 rfl)] at r6113
            show GW κ 2 0 0 (wM r g I6111 A6111 L6111) 41 [(0, .ref (r 0))] []
            refine g_aload_n hk dX12_tellSeries_41 rfl ?_
            refine gM_i6 (v := (I6111 6)) hk hin12 (List.mem_cons_of_mem _ (List.mem_append_left _ (List.mem_of_getElem? (i := 11) rfl))) dX12_tellSeries_42 rfl ?_
            refine g_if_le (tgt := 49) (a := (I6111 6).toInt) hk dX12_tellSeries_45 (by decide) rfl (fun c6116 => ?_) (fun c6116 => ?_)
            · skip
              refine g_aload_n hk dX12_tellSeries_49 rfl ?_
              refine g_bipush (v := 26) hk dX12_tellSeries_50 (by decide) ?_
              have k6117 : (26 : Int32).toInt = 26 := rfl
              refine g_callV (n := 1) hk (j125_X12_is l D zt r g I6111 A6111 L6111 26 hV6111) (SP.same _) (fun _ h => h) (gi_V (List.mem_cons_of_mem _ (List.mem_append_left _ (List.mem_of_getElem? (i := 5) rfl))) (List.mem_cons_of_mem _ (List.mem_append_left _ (List.mem_of_getElem? (i := 6) rfl))) (List.mem_cons_of_mem _ (List.mem_append_left _ (List.mem_of_getElem? (i := 7) rfl))) (List.mem_cons_of_mem _ (List.mem_append_left _ (List.mem_of_getElem? (i := 4) rfl))) (gi_sub (fun w h => (List.mem_cons_of_mem _ (List.mem_append_right _ (List.mem_append_right _ (List.mem_append_right _ (List.mem_append_left _ h)))))) zg_j125_X12_is)) rfl rfl rfl (by decide +kernel) ⟨Nat.le_of_ble_eq_true rfl, Nat.le_of_ble_eq_true rfl⟩ 0 rfl rfl rfl rfl (Nat.le_of_ble_eq_true rfl) ⟨Nat.le_of_ble_eq_true rfl, Nat.le_of_ble_eq_true rfl⟩ dX12_tellSeries_52 (fun v ty' w' hp hk' => ?_)
              rcases hp with ⟨c6118, rfl, rfl⟩ | ⟨c6120, rfl, rfl⟩
              · skip
                rw [show (A6111 2 (I6111 4).toNatClampNeg) = (A 2 (I4643 4).toNatClampNeg) from (by rw [show I6111 4 = (I4643 4) from (hI6111 4 rfl)]; exact ((congrFun (hA6111 2 rfl) _).trans (congrFun (hA4643 2 rfl) _)))] at c6118
                show GW κ 2 0 0 (wM r g I6111 A6111 L6111) 55 [(0, .ref (r 0))] [.int 0]
                refine g_istore_n (lv' := [(1, .int 0), (0, .ref (r 0))]) hk dX12_tellSeries_55 (by decide) rfl ?_
                refine g_iload_n hk dX12_tellSeries_56 rfl ?_
                refine g_if_eq (tgt := 64) (a := 0) hk dX12_tellSeries_57 (by decide) rfl (fun _ => ?_) (fun z9 => absurd (show (0 : Int) = (0 : Int) from by decide) z9)
                refine g_aload_n hk dX12_tellSeries_64 rfl ?_
                refine gM_r0_27 hk hin12 (List.mem_cons_of_mem _ (List.mem_append_left _ (List.mem_of_getElem? (i := 14) rfl))) dX12_tellSeries_65 ?_
                refine g_sipush (v := 160) hk dX12_tellSeries_68 (by decide) ?_
                refine g_aload_n hk dX12_tellSeries_71 rfl ?_
                refine gM_i16 (v := (I 16)) hk hin12 (List.mem_cons_of_mem _ (List.mem_append_left _ (List.mem_of_getElem? (i := 13) rfl))) dX12_tellSeries_72 ((hI6111 16 rfl).trans (hI4643 16 rfl)) ?_
                by_cases c6122 : (I 16).toInt = 1
                · have ec6122 : (I 16) = 1 := Int32.toInt_inj.mp c6122
                  rw [ec6122]
                  show GW κ 2 0 0 (wM r g I6111 A6111 L6111) 75 [(1, .int 0), (0, .ref (r 0))] [.int 1, .int 160, .ref (r 10)]
                  refine g_imul hk dX12_tellSeries_75 ?_
                  refine g_norm (v := 160) (by decide) ?_
                  refine g_aload_n hk dX12_tellSeries_76 rfl ?_
                  refine gM_r0_26 hk hin12 (List.mem_cons_of_mem _ (List.mem_append_left _ (List.mem_of_getElem? (i := 12) rfl))) dX12_tellSeries_77 ?_
                  refine g_aload_n hk dX12_tellSeries_80 rfl ?_
                  refine gM_i16 (v := (I 16)) hk hin12 (List.mem_cons_of_mem _ (List.mem_append_left _ (List.mem_of_getElem? (i := 13) rfl))) dX12_tellSeries_81 ((hI6111 16 rfl).trans (hI4643 16 rfl)) ?_
                  by_cases c6123 : (I 16).toInt = 1
                  · have ec6123 : (I 16) = 1 := Int32.toInt_inj.mp c6123
                    rw [ec6123]
                    show GW κ 2 0 0 (wM r g I6111 A6111 L6111) 84 [(1, .int 0), (0, .ref (r 0))] [.int 1, .ref (r 9), .int 160, .ref (r 10)]
                    refine lM_8 (v := (A4643 8 1)) hk (vp_in_iff.mpr ⟨by decide, by decide⟩) (congrFun (hA6111 8 rfl) _) dX12_tellSeries_84 ?_
                    refine g_iadd hk dX12_tellSeries_85 ?_
                    refine g_topi (fun y6124 ey6124 => ?_)
                    have hy6124 : y6124.toInt = 160 + (A4643 8 1).toInt := i32_add ey6124 rfl rfl (by omega) (by omega)
                    refine g_iload_n hk dX12_tellSeries_86 rfl ?_
                    refine g_if_eq (tgt := 95) (a := 0) hk dX12_tellSeries_87 (by decide) rfl (fun _ => ?_) (fun z9 => absurd (show (0 : Int) = (0 : Int) from by decide) z9)
                    refine g_aload_n hk dX12_tellSeries_95 rfl ?_
                    refine g_callV (n := 0) hk (j132_X12_readingTold l D zt r g I6111 A6111 L6111  hV6111) (SP.same _) (fun _ h => h) (gi_V (List.mem_cons_of_mem _ (List.mem_append_left _ (List.mem_of_getElem? (i := 15) rfl))) (List.mem_cons_of_mem _ (List.mem_append_left _ (List.mem_of_getElem? (i := 16) rfl))) (List.mem_cons_of_mem _ (List.mem_append_left _ (List.mem_of_getElem? (i := 17) rfl))) (List.mem_cons_of_mem _ (List.mem_append_left _ (List.mem_of_getElem? (i := 4) rfl))) (gi_sub (fun w h => (List.mem_cons_of_mem _ (List.mem_append_right _ (List.mem_append_right _ (List.mem_append_right _ (List.mem_append_right _ (List.mem_append_right _ (List.mem_append_left _ h)))))))) zg_j132_X12_readingTold)) rfl rfl rfl (by decide +kernel) ⟨Nat.le_of_ble_eq_true rfl, Nat.le_of_ble_eq_true rfl⟩ 0 rfl rfl rfl rfl (Nat.le_of_ble_eq_true rfl) ⟨Nat.le_of_ble_eq_true rfl, Nat.le_of_ble_eq_true rfl⟩ dX12_tellSeries_96 (fun v ty' w' hp hk' => ?_)
                    obtain ⟨I6126, A6126, L6126, hI6126, hA6126, hV6126, y6125, r6127, r6128, r6129, r6130, rfl, rfl⟩ := hp
                    have f6131 := IvM_f4 hV6126
                    rw [show (I6111 4) = (I4643 4) from (hI6111 4 rfl)] at r6127
                    have f6132 := IvM_f6 hV6126
                    have f6133 := IvM_f8 hV6126
                    rw [show (I6111 8) = (I4643 8) from (hI6111 8 rfl)] at r6129
                    rw [show (I6111 4) = (I4643 4) from (hI6111 4 rfl)] at r6130
                    show GW κ 2 0 0 (wM r g I6126 A6126 L6126) 99 [(1, .int 0), (0, .ref (r 0))] [.int y6125, .int y6124, .ref (r 10)]
                    refine sM_9 (j := y6124.toNatClampNeg) hk (vp_in_iff.mpr ⟨by omega, by omega⟩) rfl dX12_tellSeries_99 ?_
                    refine g_aload_n hk dX12_tellSeries_100 rfl ?_
                    refine gM_i6 (v := (I6126 6)) hk hin12 (List.mem_cons_of_mem _ (List.mem_append_left _ (List.mem_of_getElem? (i := 11) rfl))) dX12_tellSeries_101 rfl ?_
                    refine g_if_le (tgt := 108) (a := (I6126 6).toInt) hk dX12_tellSeries_104 (by decide) rfl (fun c6134 => ?_) (fun c6134 => ?_)
                    · skip
                      refine g_aload_n hk dX12_tellSeries_108 rfl ?_
                      refine gM_r0_26 hk hin12 (List.mem_cons_of_mem _ (List.mem_append_left _ (List.mem_of_getElem? (i := 12) rfl))) dX12_tellSeries_109 ?_
                      refine g_aload_n hk dX12_tellSeries_112 rfl ?_
                      refine gM_i16 (v := (I 16)) hk hin12 (List.mem_cons_of_mem _ (List.mem_append_left _ (List.mem_of_getElem? (i := 13) rfl))) dX12_tellSeries_113 ((hI6126 16 rfl).trans ((hI6111 16 rfl).trans (hI4643 16 rfl))) ?_
                      by_cases c6135 : (I 16).toInt = 1
                      · have ec6135 : (I 16) = 1 := Int32.toInt_inj.mp c6135
                        rw [ec6135]
                        show GW κ 2 0 0 (wM r g I6126 (up3 A6126 9 (y6124.toNatClampNeg) y6125) L6126) 116 [(1, .int 0), (0, .ref (r 0))] [.int 1, .ref (r 9)]
                        refine g_dup2 hk dX12_tellSeries_116 rfl rfl ?_
                        refine lM_8 (v := (A4643 8 1)) hk (vp_in_iff.mpr ⟨by decide, by decide⟩) ((congrFun (hA6126 8 rfl) _).trans (congrFun (hA6111 8 rfl) _)) dX12_tellSeries_117 ?_
                        refine g_iconst (v := 1) hk dX12_tellSeries_118 (by decide) ?_
                        refine g_iadd hk dX12_tellSeries_119 ?_
                        refine g_topi (fun y6136 ey6136 => ?_)
                        have hy6136 : y6136.toInt = (A4643 8 1).toInt + 1 := i32_add ey6136 rfl rfl (by omega) (by omega)
                        refine sM_8 (j := 1) hk (vp_in_iff.mpr ⟨by decide, by decide⟩) (by decide) dX12_tellSeries_120 ?_
                        have f6137 := IvM_s8_0 hV6126
                        have f6138 := IvM_s8_1 hV6126
                        refine g_aload_n hk dX12_tellSeries_121 rfl ?_
                        refine g_dup hk dX12_tellSeries_122 rfl ?_
                        refine gM_i11 (v := (I4643 11)) hk hin12 (List.mem_cons_of_mem _ (List.mem_append_left _ (List.mem_of_getElem? (i := 0) rfl))) dX12_tellSeries_123 ((hI6126 11 rfl).trans (hI6111 11 rfl)) ?_
                        refine g_iconst (v := 1) hk dX12_tellSeries_126 (by decide) ?_
                        have b6139l := Int32.le_toInt (I4643 11)
                        have b6139h := Int32.toInt_lt (I4643 11)
                        refine g_iadd hk dX12_tellSeries_127 ?_
                        refine g_topi (fun y6140 ey6140 => ?_)
                        refine pM_i11 hk hin12 (List.mem_cons_of_mem _ (List.mem_append_left _ (List.mem_of_getElem? (i := 0) rfl))) dX12_tellSeries_128 ?_
                        refine g_goto (tgt := 5) hk dX12_tellSeries_131 (by decide) ?_
                        exact g_lv (List.forall_mem_cons.mpr ⟨List.mem_of_getElem? (i := 1) rfl, (fun _ h => absurd h List.not_mem_nil)⟩) (ih5679 (upd I6126 11 y6140) (up3 (up3 A6126 9 (y6124.toNatClampNeg) y6125) 8 1 y6136) L6126 (show Md [4, 6, 7, 8, 9, 11, 12, 13] (upd I 11 0) (upd I6126 11 y6140) from Md.tr hI4643 (show Md [4, 6, 7, 8, 9, 11, 12, 13] I4643 (upd I6126 11 y6140) from (Md.up (Md.tr (Md.tr Md.rf hI6111 rfl) hI6126 rfl) rfl)) rfl) (show Md [8, 9] A (up3 (up3 A6126 9 (y6124.toNatClampNeg) y6125) 8 1 y6136) from Md.tr hA4643 (show Md [8, 9] A4643 (up3 (up3 A6126 9 (y6124.toNatClampNeg) y6125) 8 1 y6136) from (Md.up3 (Md.up3 (Md.tr (Md.tr Md.rf hA6111 rfl) hA6126 rfl) rfl) rfl)) rfl) ⟨(IvM_f1 (I := I6126) (A := A6126) hV6126), (IvM_f2 (I := I6126) (A := A6126) hV6126), (IvM_f3 (I := I6126) (A := A6126) hV6126), (IvM_f4 (I := I6126) (A := A6126) hV6126), (IvM_f6 (I := I6126) (A := A6126) hV6126), (IvM_f8 (I := I6126) (A := A6126) hV6126), (IvM_f15 (I := I6126) (A := A6126) hV6126), (IvM_f16 (I := I6126) (A := A6126) hV6126), (IvM_f17 (I := I6126) (A := A6126) hV6126), (IvM_f18 (I := I6126) (A := A6126) hV6126), (IvM_f22 (I := I6126) (A := A6126) hV6126), (IvM_f23 (I := I6126) (A := A6126) hV6126), (IvM_f24 (I := I6126) (A := A6126) hV6126), (IvM_a11 (I := I6126) (A := A6126) hV6126), (IvM_a26 (I := I6126) (A := A6126) hV6126), (show 0 ≤ ((up3 (up3 A6126 9 (y6124.toNatClampNeg) y6125) 8 1 y6136) 8 0).toInt ∧ ((up3 (up3 A6126 9 (y6124.toNatClampNeg) y6125) 8 1 y6136) 8 0).toInt ≤ 160 from by rw [show (up3 (up3 A6126 9 (y6124.toNatClampNeg) y6125) 8 1 y6136) 8 0 = (A6126 8 0) from rfl]; exact (IvM_s8_0 (I := I6126) (A := A6126) hV6126)), (show 0 ≤ ((up3 (up3 A6126 9 (y6124.toNatClampNeg) y6125) 8 1 y6136) 8 1).toInt ∧ ((up3 (up3 A6126 9 (y6124.toNatClampNeg) y6125) 8 1 y6136) 8 1).toInt ≤ 160 from by rw [show (up3 (up3 A6126 9 (y6124.toNatClampNeg) y6125) 8 1 y6136) 8 1 = y6136 from rfl]; exact ⟨by omega, by omega⟩), (IvM_s10_0 (I := I6126) (A := A6126) hV6126), (IvM_s10_1 (I := I6126) (A := A6126) hV6126), (IvM_s17_0 (I := I6126) (A := A6126) hV6126), (IvM_s17_164 (I := I6126) (A := A6126) hV6126), (IvM_lv (I := I6126) (A := A6126) hV6126), (IvM_sd (I := I6126) (A := A6126) hV6126), (IvM_nq (I := I6126) (A := A6126) hV6126), (IvM_hr (I := I6126) (A := A6126) hV6126), (IvM_hh (I := I6126) (A := A6126) hV6126), trivial⟩ (by first | (rw [show ((upd I6126 11 y6140) 4) = (I6126 4) from rfl] <;> omega) | omega) (by first | (rw [show ((upd I6126 11 y6140) 6) = (I6126 6) from rfl] <;> omega) | omega) (by first | (rw [show ((upd I6126 11 y6140) 8) = (I6126 8) from rfl] <;> omega) | omega) (by first | (rw [show ((upd I6126 11 y6140) 4) = (I6126 4) from rfl] <;> omega) | omega) (by omega))
                      exfalso; omega
                    · skip
                      have f6141 := IvM_f4 hIv
                      have f6142 := IvM_f6 hIv
                      have f6143 := IvM_f8 hIv
                      exact g_vret hk hR ⟨I6126, (up3 A6126 9 (y6124.toNatClampNeg) y6125), L6126, (show Md [4, 6, 7, 8, 9, 11, 12, 13] I I6126 from (Md.tr (Md.tr (Md.tr (Md.up Md.rf rfl) hI4643 rfl) hI6111 rfl) hI6126 rfl)), (show Md [8, 9] A (up3 A6126 9 (y6124.toNatClampNeg) y6125) from (Md.up3 (Md.tr (Md.tr (Md.tr Md.rf hA4643 rfl) hA6111 rfl) hA6126 rfl) rfl)), ⟨(IvM_f1 (I := I6126) (A := A6126) hV6126), (IvM_f2 (I := I6126) (A := A6126) hV6126), (IvM_f3 (I := I6126) (A := A6126) hV6126), (IvM_f4 (I := I6126) (A := A6126) hV6126), (IvM_f6 (I := I6126) (A := A6126) hV6126), (IvM_f8 (I := I6126) (A := A6126) hV6126), (IvM_f15 (I := I6126) (A := A6126) hV6126), (IvM_f16 (I := I6126) (A := A6126) hV6126), (IvM_f17 (I := I6126) (A := A6126) hV6126), (IvM_f18 (I := I6126) (A := A6126) hV6126), (IvM_f22 (I := I6126) (A := A6126) hV6126), (IvM_f23 (I := I6126) (A := A6126) hV6126), (IvM_f24 (I := I6126) (A := A6126) hV6126), (IvM_a11 (I := I6126) (A := A6126) hV6126), (IvM_a26 (I := I6126) (A := A6126) hV6126), (IvM_s8_0 (I := I6126) (A := A6126) hV6126), (IvM_s8_1 (I := I6126) (A := A6126) hV6126), (IvM_s10_0 (I := I6126) (A := A6126) hV6126), (IvM_s10_1 (I := I6126) (A := A6126) hV6126), (IvM_s17_0 (I := I6126) (A := A6126) hV6126), (IvM_s17_164 (I := I6126) (A := A6126) hV6126), (IvM_lv (I := I6126) (A := A6126) hV6126), (IvM_sd (I := I6126) (A := A6126) hV6126), (IvM_nq (I := I6126) (A := A6126) hV6126), (IvM_hr (I := I6126) (A := A6126) hV6126), (IvM_hh (I := I6126) (A := A6126) hV6126), trivial⟩, (by omega), (by omega), (by omega), rfl, rfl⟩ dX12_tellSeries_107
                  exfalso; omega
                exfalso; omega
              · skip
                rw [show (A6111 2 (I6111 4).toNatClampNeg) = (A 2 (I4643 4).toNatClampNeg) from (by rw [show I6111 4 = (I4643 4) from (hI6111 4 rfl)]; exact ((congrFun (hA6111 2 rfl) _).trans (congrFun (hA4643 2 rfl) _)))] at c6120
                show GW κ 2 0 0 (wM r g I6111 A6111 L6111) 55 [(0, .ref (r 0))] [.int 1]
                refine g_istore_n (lv' := [(1, .int 1), (0, .ref (r 0))]) hk dX12_tellSeries_55 (by decide) rfl ?_
                refine g_iload_n hk dX12_tellSeries_56 rfl ?_
                refine g_if_eq (tgt := 64) (a := 1) hk dX12_tellSeries_57 (by decide) rfl (fun z9 => absurd z9 (show ¬ ((1 : Int) = (0 : Int)) from by decide)) (fun _ => ?_)
                refine g_aload_n hk dX12_tellSeries_60 rfl ?_
                refine g_callV (n := 0) hk (j127_X12_goesOn l D zt r g I6111 A6111 L6111  hV6111) (SP.same _) (fun _ h => h) (gi_V (List.mem_cons_of_mem _ (List.mem_append_left _ (List.mem_of_getElem? (i := 18) rfl))) (List.mem_cons_of_mem _ (List.mem_append_left _ (List.mem_of_getElem? (i := 19) rfl))) (List.mem_cons_of_mem _ (List.mem_append_left _ (List.mem_of_getElem? (i := 20) rfl))) (List.mem_cons_of_mem _ (List.mem_append_left _ (List.mem_of_getElem? (i := 4) rfl))) (gi_sub (fun w h => (List.mem_cons_of_mem _ (List.mem_append_right _ (List.mem_append_right _ (List.mem_append_right _ (List.mem_append_right _ (List.mem_append_right _ (List.mem_append_right _ (List.mem_append_left _ h))))))))) zg_j127_X12_goesOn)) rfl rfl rfl (by decide +kernel) ⟨Nat.le_of_ble_eq_true rfl, Nat.le_of_ble_eq_true rfl⟩ 0 rfl rfl rfl rfl (Nat.le_of_ble_eq_true rfl) ⟨Nat.le_of_ble_eq_true rfl, Nat.le_of_ble_eq_true rfl⟩ dX12_tellSeries_61 (fun v ty' w' hp hk' => ?_)
                obtain ⟨I6145, A6145, L6145, hI6145, hA6145, hV6145, r6146, r6147, r6148, r6149, rfl, rfl⟩ := hp
                have f6150 := IvM_f4 hV6145
                rw [show (I6111 4) = (I4643 4) from (hI6111 4 rfl)] at r6146
                have f6151 := IvM_f6 hV6145
                rw [show (I6111 8) = (I4643 8) from (hI6111 8 rfl), show (I6145 8) = (I4643 8) from ((hI6145 8 rfl).trans (hI6111 8 rfl))] at r6148
                rw [show (I6111 4) = (I4643 4) from (hI6111 4 rfl)] at r6149
                show GW κ 2 0 0 (wM r g I6145 A6145 L6145) 64 [(1, .int 1), (0, .ref (r 0))] []
                refine g_aload_n hk dX12_tellSeries_64 rfl ?_
                refine gM_r0_27 hk hin12 (List.mem_cons_of_mem _ (List.mem_append_left _ (List.mem_of_getElem? (i := 14) rfl))) dX12_tellSeries_65 ?_
                refine g_sipush (v := 160) hk dX12_tellSeries_68 (by decide) ?_
                refine g_aload_n hk dX12_tellSeries_71 rfl ?_
                refine gM_i16 (v := (I 16)) hk hin12 (List.mem_cons_of_mem _ (List.mem_append_left _ (List.mem_of_getElem? (i := 13) rfl))) dX12_tellSeries_72 ((hI6145 16 rfl).trans ((hI6111 16 rfl).trans (hI4643 16 rfl))) ?_
                by_cases c6152 : (I 16).toInt = 1
                · have ec6152 : (I 16) = 1 := Int32.toInt_inj.mp c6152
                  rw [ec6152]
                  show GW κ 2 0 0 (wM r g I6145 A6145 L6145) 75 [(1, .int 1), (0, .ref (r 0))] [.int 1, .int 160, .ref (r 10)]
                  refine g_imul hk dX12_tellSeries_75 ?_
                  refine g_norm (v := 160) (by decide) ?_
                  refine g_aload_n hk dX12_tellSeries_76 rfl ?_
                  refine gM_r0_26 hk hin12 (List.mem_cons_of_mem _ (List.mem_append_left _ (List.mem_of_getElem? (i := 12) rfl))) dX12_tellSeries_77 ?_
                  refine g_aload_n hk dX12_tellSeries_80 rfl ?_
                  refine gM_i16 (v := (I 16)) hk hin12 (List.mem_cons_of_mem _ (List.mem_append_left _ (List.mem_of_getElem? (i := 13) rfl))) dX12_tellSeries_81 ((hI6145 16 rfl).trans ((hI6111 16 rfl).trans (hI4643 16 rfl))) ?_
                  by_cases c6153 : (I 16).toInt = 1
                  · have ec6153 : (I 16) = 1 := Int32.toInt_inj.mp c6153
                    rw [ec6153]
                    show GW κ 2 0 0 (wM r g I6145 A6145 L6145) 84 [(1, .int 1), (0, .ref (r 0))] [.int 1, .ref (r 9), .int 160, .ref (r 10)]
                    refine lM_8 (v := (A4643 8 1)) hk (vp_in_iff.mpr ⟨by decide, by decide⟩) ((congrFun (hA6145 8 rfl) _).trans (congrFun (hA6111 8 rfl) _)) dX12_tellSeries_84 ?_
                    refine g_iadd hk dX12_tellSeries_85 ?_
                    refine g_topi (fun y6154 ey6154 => ?_)
                    have hy6154 : y6154.toInt = 160 + (A4643 8 1).toInt := i32_add ey6154 rfl rfl (by omega) (by omega)
                    refine g_iload_n hk dX12_tellSeries_86 rfl ?_
                    refine g_if_eq (tgt := 95) (a := 1) hk dX12_tellSeries_87 (by decide) rfl (fun z9 => absurd z9 (show ¬ ((1 : Int) = (0 : Int)) from by decide)) (fun _ => ?_)
                    refine g_ldc (v := 100000) hk (List.mem_cons_of_mem _ (List.mem_append_left _ (List.mem_of_getElem? (i := 21) rfl))) dX12_tellSeries_90 ?_
                    refine g_goto (tgt := 99) hk dX12_tellSeries_92 (by decide) ?_
                    have k6155 : (100000 : Int32).toInt = 100000 := rfl
                    refine sM_9 (j := y6154.toNatClampNeg) hk (vp_in_iff.mpr ⟨by omega, by omega⟩) rfl dX12_tellSeries_99 ?_
                    refine g_aload_n hk dX12_tellSeries_100 rfl ?_
                    refine gM_i6 (v := (I6145 6)) hk hin12 (List.mem_cons_of_mem _ (List.mem_append_left _ (List.mem_of_getElem? (i := 11) rfl))) dX12_tellSeries_101 rfl ?_
                    refine g_if_le (tgt := 108) (a := (I6145 6).toInt) hk dX12_tellSeries_104 (by decide) rfl (fun c6156 => ?_) (fun c6156 => ?_)
                    · skip
                      refine g_aload_n hk dX12_tellSeries_108 rfl ?_
                      refine gM_r0_26 hk hin12 (List.mem_cons_of_mem _ (List.mem_append_left _ (List.mem_of_getElem? (i := 12) rfl))) dX12_tellSeries_109 ?_
                      refine g_aload_n hk dX12_tellSeries_112 rfl ?_
                      refine gM_i16 (v := (I 16)) hk hin12 (List.mem_cons_of_mem _ (List.mem_append_left _ (List.mem_of_getElem? (i := 13) rfl))) dX12_tellSeries_113 ((hI6145 16 rfl).trans ((hI6111 16 rfl).trans (hI4643 16 rfl))) ?_
                      by_cases c6157 : (I 16).toInt = 1
                      · have ec6157 : (I 16) = 1 := Int32.toInt_inj.mp c6157
                        rw [ec6157]
                        show GW κ 2 0 0 (wM r g I6145 (up3 A6145 9 (y6154.toNatClampNeg) 100000) L6145) 116 [(1, .int 1), (0, .ref (r 0))] [.int 1, .ref (r 9)]
                        refine g_dup2 hk dX12_tellSeries_116 rfl rfl ?_
                        refine lM_8 (v := (A4643 8 1)) hk (vp_in_iff.mpr ⟨by decide, by decide⟩) ((congrFun (hA6145 8 rfl) _).trans (congrFun (hA6111 8 rfl) _)) dX12_tellSeries_117 ?_
                        refine g_iconst (v := 1) hk dX12_tellSeries_118 (by decide) ?_
                        refine g_iadd hk dX12_tellSeries_119 ?_
                        refine g_topi (fun y6158 ey6158 => ?_)
                        have hy6158 : y6158.toInt = (A4643 8 1).toInt + 1 := i32_add ey6158 rfl rfl (by omega) (by omega)
                        refine sM_8 (j := 1) hk (vp_in_iff.mpr ⟨by decide, by decide⟩) (by decide) dX12_tellSeries_120 ?_
                        have f6159 := IvM_s8_0 hV6145
                        have f6160 := IvM_s8_1 hV6145
                        refine g_aload_n hk dX12_tellSeries_121 rfl ?_
                        refine g_dup hk dX12_tellSeries_122 rfl ?_
                        refine gM_i11 (v := (I4643 11)) hk hin12 (List.mem_cons_of_mem _ (List.mem_append_left _ (List.mem_of_getElem? (i := 0) rfl))) dX12_tellSeries_123 ((hI6145 11 rfl).trans (hI6111 11 rfl)) ?_
                        refine g_iconst (v := 1) hk dX12_tellSeries_126 (by decide) ?_
                        have b6161l := Int32.le_toInt (I4643 11)
                        have b6161h := Int32.toInt_lt (I4643 11)
                        refine g_iadd hk dX12_tellSeries_127 ?_
                        refine g_topi (fun y6162 ey6162 => ?_)
                        refine pM_i11 hk hin12 (List.mem_cons_of_mem _ (List.mem_append_left _ (List.mem_of_getElem? (i := 0) rfl))) dX12_tellSeries_128 ?_
                        refine g_goto (tgt := 5) hk dX12_tellSeries_131 (by decide) ?_
                        exact g_lv (List.forall_mem_cons.mpr ⟨List.mem_of_getElem? (i := 1) rfl, (fun _ h => absurd h List.not_mem_nil)⟩) (ih5679 (upd I6145 11 y6162) (up3 (up3 A6145 9 (y6154.toNatClampNeg) 100000) 8 1 y6158) L6145 (show Md [4, 6, 7, 8, 9, 11, 12, 13] (upd I 11 0) (upd I6145 11 y6162) from Md.tr hI4643 (show Md [4, 6, 7, 8, 9, 11, 12, 13] I4643 (upd I6145 11 y6162) from (Md.up (Md.tr (Md.tr Md.rf hI6111 rfl) hI6145 rfl) rfl)) rfl) (show Md [8, 9] A (up3 (up3 A6145 9 (y6154.toNatClampNeg) 100000) 8 1 y6158) from Md.tr hA4643 (show Md [8, 9] A4643 (up3 (up3 A6145 9 (y6154.toNatClampNeg) 100000) 8 1 y6158) from (Md.up3 (Md.up3 (Md.tr (Md.tr Md.rf hA6111 rfl) hA6145 rfl) rfl) rfl)) rfl) ⟨(IvM_f1 (I := I6145) (A := A6145) hV6145), (IvM_f2 (I := I6145) (A := A6145) hV6145), (IvM_f3 (I := I6145) (A := A6145) hV6145), (IvM_f4 (I := I6145) (A := A6145) hV6145), (IvM_f6 (I := I6145) (A := A6145) hV6145), (IvM_f8 (I := I6145) (A := A6145) hV6145), (IvM_f15 (I := I6145) (A := A6145) hV6145), (IvM_f16 (I := I6145) (A := A6145) hV6145), (IvM_f17 (I := I6145) (A := A6145) hV6145), (IvM_f18 (I := I6145) (A := A6145) hV6145), (IvM_f22 (I := I6145) (A := A6145) hV6145), (IvM_f23 (I := I6145) (A := A6145) hV6145), (IvM_f24 (I := I6145) (A := A6145) hV6145), (IvM_a11 (I := I6145) (A := A6145) hV6145), (IvM_a26 (I := I6145) (A := A6145) hV6145), (show 0 ≤ ((up3 (up3 A6145 9 (y6154.toNatClampNeg) 100000) 8 1 y6158) 8 0).toInt ∧ ((up3 (up3 A6145 9 (y6154.toNatClampNeg) 100000) 8 1 y6158) 8 0).toInt ≤ 160 from by rw [show (up3 (up3 A6145 9 (y6154.toNatClampNeg) 100000) 8 1 y6158) 8 0 = (A6145 8 0) from rfl]; exact (IvM_s8_0 (I := I6145) (A := A6145) hV6145)), (show 0 ≤ ((up3 (up3 A6145 9 (y6154.toNatClampNeg) 100000) 8 1 y6158) 8 1).toInt ∧ ((up3 (up3 A6145 9 (y6154.toNatClampNeg) 100000) 8 1 y6158) 8 1).toInt ≤ 160 from by rw [show (up3 (up3 A6145 9 (y6154.toNatClampNeg) 100000) 8 1 y6158) 8 1 = y6158 from rfl]; exact ⟨by omega, by omega⟩), (IvM_s10_0 (I := I6145) (A := A6145) hV6145), (IvM_s10_1 (I := I6145) (A := A6145) hV6145), (IvM_s17_0 (I := I6145) (A := A6145) hV6145), (IvM_s17_164 (I := I6145) (A := A6145) hV6145), (IvM_lv (I := I6145) (A := A6145) hV6145), (IvM_sd (I := I6145) (A := A6145) hV6145), (IvM_nq (I := I6145) (A := A6145) hV6145), (IvM_hr (I := I6145) (A := A6145) hV6145), (IvM_hh (I := I6145) (A := A6145) hV6145), trivial⟩ (by first | (rw [show ((upd I6145 11 y6162) 4) = (I6145 4) from rfl] <;> omega) | omega) (by first | (rw [show ((upd I6145 11 y6162) 6) = (I6145 6) from rfl] <;> omega) | omega) (by first | (rw [show ((upd I6145 11 y6162) 8) = (I4643 8) from ((hI6145 8 rfl).trans (hI6111 8 rfl))] <;> omega) | omega) (by first | (rw [show ((upd I6145 11 y6162) 4) = (I6145 4) from rfl] <;> omega) | omega) (by omega))
                      exfalso; omega
                    · skip
                      have f6163 := IvM_f4 hIv
                      have f6164 := IvM_f6 hIv
                      have f6165 := IvM_f8 hIv
                      exact g_vret hk hR ⟨I6145, (up3 A6145 9 (y6154.toNatClampNeg) 100000), L6145, (show Md [4, 6, 7, 8, 9, 11, 12, 13] I I6145 from (Md.tr (Md.tr (Md.tr (Md.up Md.rf rfl) hI4643 rfl) hI6111 rfl) hI6145 rfl)), (show Md [8, 9] A (up3 A6145 9 (y6154.toNatClampNeg) 100000) from (Md.up3 (Md.tr (Md.tr (Md.tr Md.rf hA4643 rfl) hA6111 rfl) hA6145 rfl) rfl)), ⟨(IvM_f1 (I := I6145) (A := A6145) hV6145), (IvM_f2 (I := I6145) (A := A6145) hV6145), (IvM_f3 (I := I6145) (A := A6145) hV6145), (IvM_f4 (I := I6145) (A := A6145) hV6145), (IvM_f6 (I := I6145) (A := A6145) hV6145), (IvM_f8 (I := I6145) (A := A6145) hV6145), (IvM_f15 (I := I6145) (A := A6145) hV6145), (IvM_f16 (I := I6145) (A := A6145) hV6145), (IvM_f17 (I := I6145) (A := A6145) hV6145), (IvM_f18 (I := I6145) (A := A6145) hV6145), (IvM_f22 (I := I6145) (A := A6145) hV6145), (IvM_f23 (I := I6145) (A := A6145) hV6145), (IvM_f24 (I := I6145) (A := A6145) hV6145), (IvM_a11 (I := I6145) (A := A6145) hV6145), (IvM_a26 (I := I6145) (A := A6145) hV6145), (IvM_s8_0 (I := I6145) (A := A6145) hV6145), (IvM_s8_1 (I := I6145) (A := A6145) hV6145), (IvM_s10_0 (I := I6145) (A := A6145) hV6145), (IvM_s10_1 (I := I6145) (A := A6145) hV6145), (IvM_s17_0 (I := I6145) (A := A6145) hV6145), (IvM_s17_164 (I := I6145) (A := A6145) hV6145), (IvM_lv (I := I6145) (A := A6145) hV6145), (IvM_sd (I := I6145) (A := A6145) hV6145), (IvM_nq (I := I6145) (A := A6145) hV6145), (IvM_hr (I := I6145) (A := A6145) hV6145), (IvM_hh (I := I6145) (A := A6145) hV6145), trivial⟩, (by omega), (by omega), (by rw [show (I6145 8) = (I4643 8) from ((hI6145 8 rfl).trans (hI6111 8 rfl))] <;> omega), rfl, rfl⟩ dX12_tellSeries_107
                  exfalso; omega
                exfalso; omega
            · skip
              have f6166 := IvM_f4 hIv
              have f6167 := IvM_f6 hIv
              have f6168 := IvM_f8 hIv
              exact g_vret hk hR ⟨I6111, A6111, L6111, (show Md [4, 6, 7, 8, 9, 11, 12, 13] I I6111 from (Md.tr (Md.tr (Md.up Md.rf rfl) hI4643 rfl) hI6111 rfl)), (show Md [8, 9] A A6111 from (Md.tr (Md.tr Md.rf hA4643 rfl) hA6111 rfl)), hV6111, (by rw [show (I6111 4) = (I4643 4) from (hI6111 4 rfl)] <;> omega), (by omega), (by rw [show (I6111 8) = (I4643 8) from (hI6111 8 rfl)] <;> omega), rfl, rfl⟩ dX12_tellSeries_48
        exfalso; omega
  have f6169 := IvM_f4 hIv
  obtain ⟨n6170, n6170a, n6170b⟩ : ∃ n : Nat, 401 - (I 4).toInt < (n : Int) ∧ 0 < n := ⟨((401 - (I 4).toInt : Int)).toNat + 1, by omega, by omega⟩
  have f6171 := IvM_f6 hIv
  have f6172 := IvM_f8 hIv
  exact lp5676 n6170 (upd I 11 0) A L Md.rf Md.rf ⟨(IvM_f1 (I := I) (A := A) hIv), (IvM_f2 (I := I) (A := A) hIv), (IvM_f3 (I := I) (A := A) hIv), (IvM_f4 (I := I) (A := A) hIv), (IvM_f6 (I := I) (A := A) hIv), (IvM_f8 (I := I) (A := A) hIv), (IvM_f15 (I := I) (A := A) hIv), (IvM_f16 (I := I) (A := A) hIv), (IvM_f17 (I := I) (A := A) hIv), (IvM_f18 (I := I) (A := A) hIv), (IvM_f22 (I := I) (A := A) hIv), (IvM_f23 (I := I) (A := A) hIv), (IvM_f24 (I := I) (A := A) hIv), (IvM_a11 (I := I) (A := A) hIv), (IvM_a26 (I := I) (A := A) hIv), (IvM_s8_0 (I := I) (A := A) hIv), (IvM_s8_1 (I := I) (A := A) hIv), (IvM_s10_0 (I := I) (A := A) hIv), (IvM_s10_1 (I := I) (A := A) hIv), (IvM_s17_0 (I := I) (A := A) hIv), (IvM_s17_164 (I := I) (A := A) hIv), (IvM_lv (I := I) (A := A) hIv), (IvM_sd (I := I) (A := A) hIv), (IvM_nq (I := I) (A := A) hIv), (IvM_hr (I := I) (A := A) hIv), (IvM_hh (I := I) (A := A) hIv), trivial⟩ (by first | (rw [show ((upd I 11 0) 4) = (I 4) from rfl] <;> omega) | omega) (by first | (rw [show ((upd I 11 0) 6) = (I 6) from rfl] <;> omega) | omega) (by first | (rw [show ((upd I 11 0) 8) = (I 8) from rfl] <;> omega) | omega) (by first | exact n6170a | (rw [show ((upd I 11 0) 4) = (I 4) from rfl] <;> exact n6170a)) n6170b
