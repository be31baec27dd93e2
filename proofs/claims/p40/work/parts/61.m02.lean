def wo_j135_X12_tellQuery : List Cond := [Cond.fieldLink RX12 170 "WarpDeskModel" "here" "I", Cond.fieldLink RX12 200 "WarpDeskModel" "side" "I", Cond.fieldLink RX12 49 "WarpDeskModel" "queries" "[I", Cond.fieldLink RX12 164 "WarpDeskModel" "t" "I", Cond.methodLink RX12 216 yX12_must, Cond.instanceMethod yX12_must, Cond.selects RX12 yX12_must yX12_must, Cond.initialized RX12, Cond.fieldLink RX12 203 "WarpDeskModel" "names" "I", Cond.fieldLink RX12 52 "WarpDeskModel" "queryMany" "[I", Cond.methodLink RX12 235 yX12_isReading, Cond.instanceMethod yX12_isReading, Cond.selects RX12 yX12_isReading yX12_isReading, Cond.methodLink RX12 188 yX12_is, Cond.instanceMethod yX12_is, Cond.selects RX12 yX12_is yX12_is, Cond.fieldLink RX12 161 "WarpDeskModel" "fault" "I", Cond.fieldLink RX12 40 "WarpDeskModel" "nameOf" "[J", Cond.fieldLink RX12 30 "WarpDeskModel" "tName" "[J", Cond.methodLink RX12 231 yX12_wrong, Cond.instanceMethod yX12_wrong, Cond.selects RX12 yX12_wrong yX12_wrong, Cond.fieldLink RX12 55 "WarpDeskModel" "queryAt" "[I", Cond.methodLink RX12 240 yX12_readingTold, Cond.instanceMethod yX12_readingTold, Cond.selects RX12 yX12_readingTold yX12_readingTold, Cond.methodLink RX12 185 yX12_fail, Cond.instanceMethod yX12_fail, Cond.selects RX12 yX12_fail yX12_fail]
def wz_j135_X12_tellQuery : List Cond := .code yX12_tellQuery cX12_tellQuery 4 none :: (wo_j135_X12_tellQuery ++ (wsX120 ++ (wz_j131_X12_must ++ (wz_j130_X12_isReading ++ (wz_j125_X12_is ++ (wz_j134_X12_wrong ++ (wz_j132_X12_readingTold ++ (wz_j128_X12_fail ++ ([] : List Cond)))))))))
theorem zg_j135_X12_tellQuery : ∀ w ∈ wz_j135_X12_tellQuery, goodWord w = true := zg_cons rfl (zg_app (by decide +kernel) (zg_app zgU_wsX120 (zg_app zg_j131_X12_must (zg_app zg_j130_X12_isReading (zg_app zg_j125_X12_is (zg_app zg_j134_X12_wrong (zg_app zg_j132_X12_readingTold (zg_app zg_j128_X12_fail zg_nil))))))))
theorem zi_j135_X12_tellQuery : ∀ w ∈ wz_j135_X12_tellQuery, w ∈ lw_tbl := zi_cons zw_1627 (zi_app (zi_cons zw_1396 (zi_cons zw_1401 (zi_cons zw_1406 (zi_cons zw_1390 (zi_cons zw_1620 (zi_cons zw_1622 (zi_cons zw_61 (zi_cons zw_115 (zi_cons zw_1402 (zi_cons zw_1407 (zi_cons zw_1603 (zi_cons zw_1605 (zi_cons zw_57 (zi_cons zw_1583 (zi_cons zw_1585 (zi_cons zw_52 (zi_cons zw_1391 (zi_cons zw_1403 (zi_cons zw_1387 (zi_cons zw_1616 (zi_cons zw_1618 (zi_cons zw_60 (zi_cons zw_1408 (zi_cons zw_1608 (zi_cons zw_1610 (zi_cons zw_58 (zi_cons zw_1595 (zi_cons zw_1597 (zi_cons zw_55 zi_nil))))))))))))))))))))))))))))) (zi_app inX12 (zi_app zi_j131_X12_must (zi_app zi_j130_X12_isReading (zi_app zi_j125_X12_is (zi_app zi_j134_X12_wrong (zi_app zi_j132_X12_readingTold (zi_app zi_j128_X12_fail zi_nil))))))))
set_option maxHeartbeats 4000000 in
set_option maxRecDepth 100000 in
theorem j135_X12_tellQuery (l : Launch) (D : va_G) (zt : Nat × Nat × Nat × (Nat → Nat) × (Nat → Nat)) (r : Nat → Nat) (g : Nat → ClassId) (I : Nat → Int32) (A : Nat → Nat → Int32) (L : Nat → Nat → Int64) (hIv : IvM I A) (hp0 : (I 15).toInt + (I 16).toInt = 1) (hp1 : (I 16).toInt ≠ 0 ∨ (A 10 0).toInt ≤ 4) (hp2 : (I 16).toInt ≠ 1 ∨ (A 10 1).toInt ≤ 4) : GM l D zt (tyM g) yX12_tellQuery wz_j135_X12_tellQuery ({ frames := 4, cells := 0, slots := 0, locals := 86 } : Room) [.ref (r 0)] (wM r g I A L) (fun v _ w' => ∃ (I' : Nat → Int32) (A' : Nat → Nat → Int32) (L' : Nat → Nat → Int64), Md [4, 6, 7, 8, 9, 11, 12, 13, 17] I I' ∧ Md [10, 11, 12] A A' ∧ IvM I' A' ∧ ((I 4).toInt ≤ (I' 4).toInt) ∧ ((I 6).toInt ≤ (I' 6).toInt) ∧ ((I 8).toInt ≤ 9 * (I' 8).toInt) ∧ v = none ∧ w' = wM r g I' A' L') 0 0 := by
  refine GM.of (cc := cX12_tellQuery) (maxL := 4) (ret := none) (own := RX12) (lv := [(0, .ref (r 0))]) (by decide) rfl rfl (Nat.le_of_ble_eq_true rfl) rfl (fun κ sz hk hR hN => ?_)
  have hin12 : ∀ w ∈ u_ws RX12 TX12 55, w ∈ wz_j135_X12_tellQuery := fun w h => (List.mem_cons_of_mem _ (List.mem_append_right _ (List.mem_append_left _ h)))
  refine g_aload_n hk dX12_tellQuery_0 rfl ?_
  refine g_iconst (v := 0) hk dX12_tellQuery_1 (by decide) ?_
  refine pM_i11 hk hin12 (List.mem_cons_of_mem _ (List.mem_append_left _ (List.mem_of_getElem? (i := 0) rfl))) dX12_tellQuery_2 ?_
  refine g_iconst (v := 5) hk dX12_tellQuery_5 (by decide) ?_
  refine g_aload_n hk dX12_tellQuery_6 rfl ?_
  refine gM_i16 (v := (I 16)) hk hin12 (List.mem_cons_of_mem _ (List.mem_append_left _ (List.mem_of_getElem? (i := 1) rfl))) dX12_tellQuery_7 rfl ?_
  have f6199 := IvM_f16 hIv
  by_cases c6200 : (I 16).toInt = 0
  · have ec6200 : (I 16) = 0 := Int32.toInt_inj.mp c6200
    rw [ec6200]
    show GW κ 4 0 0 (wM r g (upd I 11 0) A L) 10 [(0, .ref (r 0))] [.int 0, .int 5]
    refine g_imul hk dX12_tellQuery_10 ?_
    refine g_norm (v := 0) (by decide) ?_
    refine g_aload_n hk dX12_tellQuery_11 rfl ?_
    refine gM_r0_28 hk hin12 (List.mem_cons_of_mem _ (List.mem_append_left _ (List.mem_of_getElem? (i := 2) rfl))) dX12_tellQuery_12 ?_
    refine g_aload_n hk dX12_tellQuery_15 rfl ?_
    refine gM_i16 (v := (I 16)) hk hin12 (List.mem_cons_of_mem _ (List.mem_append_left _ (List.mem_of_getElem? (i := 1) rfl))) dX12_tellQuery_16 rfl ?_
    by_cases c6201 : (I 16).toInt = 0
    · have ec6201 : (I 16) = 0 := Int32.toInt_inj.mp c6201
      rw [ec6201]
      show GW κ 4 0 0 (wM r g (upd I 11 0) A L) 19 [(0, .ref (r 0))] [.int 0, .ref (r 11), .int 0]
      refine lM_10 (v := (A 10 0)) hk (vp_in_iff.mpr ⟨by decide, by decide⟩) rfl dX12_tellQuery_19 ?_
      have f6202 := IvM_s10_0 hIv
      refine g_iadd hk dX12_tellQuery_20 ?_
      refine g_topi (fun y6203 ey6203 => ?_)
      have hy6203 : y6203.toInt = 0 + (A 10 0).toInt := i32_add ey6203 rfl rfl (by omega) (by omega)
      refine g_istore_n (lv' := [(1, .int y6203), (0, .ref (r 0))]) hk dX12_tellQuery_21 (by decide) rfl ?_
      refine g_aload_n hk dX12_tellQuery_22 rfl ?_
      refine gM_i4 (v := (I 4)) hk hin12 (List.mem_cons_of_mem _ (List.mem_append_left _ (List.mem_of_getElem? (i := 3) rfl))) dX12_tellQuery_23 rfl ?_
      have f6204 := IvM_f4 hIv
      refine g_istore_n (lv' := [(2, .int (I 4)), (1, .int y6203), (0, .ref (r 0))]) hk dX12_tellQuery_26 (by decide) rfl ?_
      refine g_aload_n hk dX12_tellQuery_27 rfl ?_
      refine g_iconst (v := 1) hk dX12_tellQuery_28 (by decide) ?_
      have k6205 : (1 : Int32).toInt = 1 := rfl
      refine g_callV (n := 1) hk (j131_X12_must l D zt r g (upd I 11 0) A L 1 ⟨(IvM_f1 (I := I) (A := A) hIv), (IvM_f2 (I := I) (A := A) hIv), (IvM_f3 (I := I) (A := A) hIv), (IvM_f4 (I := I) (A := A) hIv), (IvM_f6 (I := I) (A := A) hIv), (IvM_f8 (I := I) (A := A) hIv), (IvM_f15 (I := I) (A := A) hIv), (IvM_f16 (I := I) (A := A) hIv), (IvM_f17 (I := I) (A := A) hIv), (IvM_f18 (I := I) (A := A) hIv), (IvM_f22 (I := I) (A := A) hIv), (IvM_f23 (I := I) (A := A) hIv), (IvM_f24 (I := I) (A := A) hIv), (IvM_a11 (I := I) (A := A) hIv), (IvM_a26 (I := I) (A := A) hIv), (IvM_s8_0 (I := I) (A := A) hIv), (IvM_s8_1 (I := I) (A := A) hIv), (IvM_s10_0 (I := I) (A := A) hIv), (IvM_s10_1 (I := I) (A := A) hIv), (IvM_s17_0 (I := I) (A := A) hIv), (IvM_s17_164 (I := I) (A := A) hIv), (IvM_lv (I := I) (A := A) hIv), (IvM_sd (I := I) (A := A) hIv), (IvM_nq (I := I) (A := A) hIv), (IvM_hr (I := I) (A := A) hIv), (IvM_hh (I := I) (A := A) hIv), trivial⟩) (SP.same _) (fun _ h => h) (gi_V (List.mem_cons_of_mem _ (List.mem_append_left _ (List.mem_of_getElem? (i := 4) rfl))) (List.mem_cons_of_mem _ (List.mem_append_left _ (List.mem_of_getElem? (i := 5) rfl))) (List.mem_cons_of_mem _ (List.mem_append_left _ (List.mem_of_getElem? (i := 6) rfl))) (List.mem_cons_of_mem _ (List.mem_append_left _ (List.mem_of_getElem? (i := 7) rfl))) (gi_sub (fun w h => (List.mem_cons_of_mem _ (List.mem_append_right _ (List.mem_append_right _ (List.mem_append_left _ h))))) zg_j131_X12_must)) rfl rfl rfl (by decide +kernel) ⟨Nat.le_of_ble_eq_true rfl, Nat.le_of_ble_eq_true rfl⟩ 0 rfl rfl rfl rfl (Nat.le_of_ble_eq_true rfl) ⟨Nat.le_of_ble_eq_true rfl, Nat.le_of_ble_eq_true rfl⟩ dX12_tellQuery_29 (fun v ty' w' hp hk' => ?_)
      obtain ⟨I6207, A6207, L6207, hI6207, hA6207, hV6207, r6208, r6209, r6210, r6211, r6212, rfl, rfl⟩ := hp
      have f6213 := IvM_f4 hV6207
      rw [show ((upd I 11 0) 4) = (I 4) from rfl] at r6208
      have f6214 := IvM_f6 hIv
      have f6215 := IvM_f6 hV6207
      rw [show ((upd I 11 0) 6) = (I 6) from rfl] at r6209
      have f6216 := IvM_f8 hIv
      rw [show ((upd I 11 0) 8) = (I 8) from rfl, show (I6207 8) = (I 8) from (hI6207 8 rfl)] at r6210
      rw [show ((upd I 11 0) 4) = (I 4) from rfl] at r6211
      rw [show ((upd I 11 0) 6) = (I 6) from rfl, show (A 2 ((upd I 11 0) 4).toNatClampNeg) = (A 2 (I 4).toNatClampNeg) from rfl] at r6212
      show GW κ 4 0 0 (wM r g I6207 A6207 L6207) 32 [(2, .int (I 4)), (1, .int y6203), (0, .ref (r 0))] []
      refine g_iconst (v := 0) hk dX12_tellQuery_32 (by decide) ?_
      refine g_istore_n (lv' := [(3, .int 0), (2, .int (I 4)), (1, .int y6203), (0, .ref (r 0))]) hk dX12_tellQuery_33 (by decide) rfl ?_
      have f9817 := IvM_f4 hIv
      have f9818 := IvM_f6 hIv
      have f9819 := IvM_f8 hIv
      have lp9825 : ∀ (n9826 : Nat) (x6217 : Int32) (I6221 : Nat → Int32) (A6221 : Nat → Nat → Int32) (L6221 : Nat → Nat → Int64), (Md [8, 9, 13] I6207 I6221) → (Md [] A6207 A6221) → (IvM I6221 A6221) → (0 ≤ x6217.toInt) → (x6217.toInt ≤ 5) → ((I 4).toInt ≤ (I6207 4).toInt) → ((I 6).toInt ≤ (I6207 6).toInt) → ((I 8).toInt ≤ 9 * (I6221 8).toInt) → (6 - x6217.toInt < (n9826 : Int)) → (0 < n9826) → GW κ 4 0 0 (wM r g I6221 A6221 L6221) 34 [(3, .int x6217), (2, .int (I 4)), (1, .int y6203), (0, .ref (r 0))] [] := by
        intro n9826
        induction n9826 with
        | zero =>
          intro x6217 I6221 A6221 L6221 hI6221 hA6221 hV6221 h9820 h9821 h9822 h9823 h9824 m9827 m9827z
          exact absurd m9827z (Nat.lt_irrefl 0)
        | succ n9826 ih9828 =>
          intro x6217 I6221 A6221 L6221 hI6221 hA6221 hV6221 h9820 h9821 h9822 h9823 h9824 m9827 m9827z
          have f9829 := IvM_f8 hV6221
          refine g_iload_n hk dX12_tellQuery_34 rfl ?_
          refine g_aload_n hk dX12_tellQuery_35 rfl ?_
          refine gM_i17 (v := (I 17)) hk hin12 (List.mem_cons_of_mem _ (List.mem_append_left _ (List.mem_of_getElem? (i := 8) rfl))) dX12_tellQuery_36 ((hI6221 17 rfl).trans (hI6207 17 rfl)) ?_
          have f9830 := IvM_f17 hIv
          refine g_icmp_ge (tgt := 77) (a := x6217.toInt) (b := (I 17).toInt) hk dX12_tellQuery_39 (by decide) rfl rfl (fun c9831 => ?_) (fun c9831 => ?_)
          · skip
            refine g_aload_n hk dX12_tellQuery_77 rfl ?_
            refine gM_r0_29 hk hin12 (List.mem_cons_of_mem _ (List.mem_append_left _ (List.mem_of_getElem? (i := 9) rfl))) dX12_tellQuery_78 ?_
            refine g_iload_n hk dX12_tellQuery_81 rfl ?_
            refine g_iconst (v := 0) hk dX12_tellQuery_82 (by decide) ?_
            have k9832 : (0 : Int32).toInt = 0 := rfl
            refine sM_11 (j := y6203.toNatClampNeg) hk (vp_in_iff.mpr ⟨by omega, by omega⟩) rfl dX12_tellQuery_83 ?_
            have hA9833 : ∀ j, 0 ≤ ((up3 A6221 11 (y6203.toNatClampNeg) 0) 11 j).toInt ∧ ((up3 A6221 11 (y6203.toNatClampNeg) 0) 11 j).toInt ≤ 16 := ai_st ((IvM_a11 hV6221)) ⟨by omega, by omega⟩
            have f10117 := IvM_f4 hIv
            have f10118 := IvM_f6 hIv
            have f10119 := IvM_f8 hIv
            have lp10123 : ∀ (n10124 : Nat) (I9838 : Nat → Int32) (A9838 : Nat → Nat → Int32) (L9838 : Nat → Nat → Int64), (Md [4, 6, 7, 8, 9, 11, 12, 13] I6221 I9838) → (Md [11, 12] (up3 A6221 11 (y6203.toNatClampNeg) 0) A9838) → (IvM I9838 A9838) → ((I 4).toInt ≤ (I9838 4).toInt) → ((I 6).toInt ≤ (I9838 6).toInt) → ((I 8).toInt ≤ 9 * (I9838 8).toInt) → (401 - (I9838 4).toInt < (n10124 : Int)) → (0 < n10124) → GW κ 4 0 0 (wM r g I9838 A9838 L9838) 84 [(3, .int x6217), (2, .int (I 4)), (1, .int y6203), (0, .ref (r 0))] [] := by
              intro n10124
              induction n10124 with
              | zero =>
                intro I9838 A9838 L9838 hI9838 hA9838 hV9838 h10120 h10121 h10122 m10125 m10125z
                exact absurd m10125z (Nat.lt_irrefl 0)
              | succ n10124 ih10126 =>
                intro I9838 A9838 L9838 hI9838 hA9838 hV9838 h10120 h10121 h10122 m10125 m10125z
                have f10127 := IvM_f4 hV9838
                have f10128 := IvM_f6 hV9838
                have f10129 := IvM_f8 hV9838
                refine g_aload_n hk dX12_tellQuery_84 rfl ?_
                refine g_callV (n := 0) hk (j130_X12_isReading l D zt r g I9838 A9838 L9838  hV9838) (SP.same _) (fun _ h => h) (gi_V (List.mem_cons_of_mem _ (List.mem_append_left _ (List.mem_of_getElem? (i := 10) rfl))) (List.mem_cons_of_mem _ (List.mem_append_left _ (List.mem_of_getElem? (i := 11) rfl))) (List.mem_cons_of_mem _ (List.mem_append_left _ (List.mem_of_getElem? (i := 12) rfl))) (List.mem_cons_of_mem _ (List.mem_append_left _ (List.mem_of_getElem? (i := 7) rfl))) (gi_sub (fun w h => (List.mem_cons_of_mem _ (List.mem_append_right _ (List.mem_append_right _ (List.mem_append_right _ (List.mem_append_left _ h)))))) zg_j130_X12_isReading)) rfl rfl rfl (by decide +kernel) ⟨Nat.le_of_ble_eq_true rfl, Nat.le_of_ble_eq_true rfl⟩ 0 rfl rfl rfl rfl (Nat.le_of_ble_eq_true rfl) ⟨Nat.le_of_ble_eq_true rfl, Nat.le_of_ble_eq_true rfl⟩ dX12_tellQuery_85 (fun v ty' w' hp hk' => ?_)
                rcases hp with ⟨rfl, rfl⟩ | ⟨rfl, rfl⟩
                · skip
                  show GW κ 4 0 0 (wM r g I9838 A9838 L9838) 88 [(3, .int x6217), (2, .int (I 4)), (1, .int y6203), (0, .ref (r 0))] [.int 0]
                  refine g_if_eq (tgt := 166) (a := 0) hk dX12_tellQuery_88 (by decide) rfl (fun _ => ?_) (fun z9 => absurd (show (0 : Int) = (0 : Int) from by decide) z9)
                  refine g_aload_n hk dX12_tellQuery_166 rfl ?_
                  refine g_iconst (v := 4) hk dX12_tellQuery_167 (by decide) ?_
                  have k10132 : (4 : Int32).toInt = 4 := rfl
                  refine g_callV (n := 1) hk (j125_X12_is l D zt r g I9838 A9838 L9838 4 hV9838) (SP.same _) (fun _ h => h) (gi_V (List.mem_cons_of_mem _ (List.mem_append_left _ (List.mem_of_getElem? (i := 13) rfl))) (List.mem_cons_of_mem _ (List.mem_append_left _ (List.mem_of_getElem? (i := 14) rfl))) (List.mem_cons_of_mem _ (List.mem_append_left _ (List.mem_of_getElem? (i := 15) rfl))) (List.mem_cons_of_mem _ (List.mem_append_left _ (List.mem_of_getElem? (i := 7) rfl))) (gi_sub (fun w h => (List.mem_cons_of_mem _ (List.mem_append_right _ (List.mem_append_right _ (List.mem_append_right _ (List.mem_append_right _ (List.mem_append_left _ h))))))) zg_j125_X12_is)) rfl rfl rfl (by decide +kernel) ⟨Nat.le_of_ble_eq_true rfl, Nat.le_of_ble_eq_true rfl⟩ 0 rfl rfl rfl rfl (Nat.le_of_ble_eq_true rfl) ⟨Nat.le_of_ble_eq_true rfl, Nat.le_of_ble_eq_true rfl⟩ dX12_tellQuery_168 (fun v ty' w' hp hk' => ?_)
                  rcases hp with ⟨c10133, rfl, rfl⟩ | ⟨c10135, rfl, rfl⟩
                  · skip
                    rw [show (A9838 2 (I9838 4).toNatClampNeg) = (A 2 (I9838 4).toNatClampNeg) from ((congrFun (hA9838 2 rfl) _).trans ((congrFun (hA6221 2 rfl) _).trans (congrFun (hA6207 2 rfl) _)))] at c10133
                    show GW κ 4 0 0 (wM r g I9838 A9838 L9838) 171 [(3, .int x6217), (2, .int (I 4)), (1, .int y6203), (0, .ref (r 0))] [.int 0]
                    refine g_if_eq (tgt := 194) (a := 0) hk dX12_tellQuery_171 (by decide) rfl (fun _ => ?_) (fun z9 => absurd (show (0 : Int) = (0 : Int) from by decide) z9)
                    refine g_aload_n hk dX12_tellQuery_194 rfl ?_
                    refine g_iconst (v := 4) hk dX12_tellQuery_195 (by decide) ?_
                    refine g_callV (n := 1) hk (j131_X12_must l D zt r g I9838 A9838 L9838 4 hV9838) (SP.same _) (fun _ h => h) (gi_V (List.mem_cons_of_mem _ (List.mem_append_left _ (List.mem_of_getElem? (i := 4) rfl))) (List.mem_cons_of_mem _ (List.mem_append_left _ (List.mem_of_getElem? (i := 5) rfl))) (List.mem_cons_of_mem _ (List.mem_append_left _ (List.mem_of_getElem? (i := 6) rfl))) (List.mem_cons_of_mem _ (List.mem_append_left _ (List.mem_of_getElem? (i := 7) rfl))) (gi_sub (fun w h => (List.mem_cons_of_mem _ (List.mem_append_right _ (List.mem_append_right _ (List.mem_append_left _ h))))) zg_j131_X12_must)) rfl rfl rfl (by decide +kernel) ⟨Nat.le_of_ble_eq_true rfl, Nat.le_of_ble_eq_true rfl⟩ 0 rfl rfl rfl rfl (Nat.le_of_ble_eq_true rfl) ⟨Nat.le_of_ble_eq_true rfl, Nat.le_of_ble_eq_true rfl⟩ dX12_tellQuery_196 (fun v ty' w' hp hk' => ?_)
                    obtain ⟨I10138, A10138, L10138, hI10138, hA10138, hV10138, r10139, r10140, r10141, r10142, r10143, rfl, rfl⟩ := hp
                    have f10144 := IvM_f4 hV10138
                    have f10145 := IvM_f6 hV10138
                    rw [show (I10138 8) = (I9838 8) from (hI10138 8 rfl)] at r10141
                    rw [show (A9838 2 (I9838 4).toNatClampNeg) = (A 2 (I9838 4).toNatClampNeg) from ((congrFun (hA9838 2 rfl) _).trans ((congrFun (hA6221 2 rfl) _).trans (congrFun (hA6207 2 rfl) _)))] at r10143
                    show GW κ 4 0 0 (wM r g I10138 A10138 L10138) 199 [(3, .int x6217), (2, .int (I 4)), (1, .int y6203), (0, .ref (r 0))] []
                    refine g_aload_n hk dX12_tellQuery_199 rfl ?_
                    refine gM_i6 (v := (I10138 6)) hk hin12 (List.mem_cons_of_mem _ (List.mem_append_left _ (List.mem_of_getElem? (i := 16) rfl))) dX12_tellQuery_200 rfl ?_
                    refine g_if_le (tgt := 207) (a := (I10138 6).toInt) hk dX12_tellQuery_203 (by decide) rfl (fun c10146 => ?_) (fun c10146 => ?_)
                    · skip
                      refine g_aload_n hk dX12_tellQuery_207 rfl ?_
                      refine g_bipush (v := (-2)) hk dX12_tellQuery_208 (by decide) ?_
                      refine pM_i11 hk hin12 (List.mem_cons_of_mem _ (List.mem_append_left _ (List.mem_of_getElem? (i := 0) rfl))) dX12_tellQuery_210 ?_
                      refine g_aload_n hk dX12_tellQuery_213 rfl ?_
                      refine gM_r0_25 hk hin12 (List.mem_cons_of_mem _ (List.mem_append_left _ (List.mem_of_getElem? (i := 17) rfl))) dX12_tellQuery_214 ?_
                      refine g_aload_n hk dX12_tellQuery_217 rfl ?_
                      refine gM_i17 (v := (I 17)) hk hin12 (List.mem_cons_of_mem _ (List.mem_append_left _ (List.mem_of_getElem? (i := 8) rfl))) dX12_tellQuery_218 ((hI10138 17 rfl).trans ((hI9838 17 rfl).trans ((hI6221 17 rfl).trans (hI6207 17 rfl)))) ?_
                      have g10147 : (I10138 16).toInt = (I 16).toInt := by rw [show (I10138 16) = (I 16) from ((hI10138 16 rfl).trans ((hI9838 16 rfl).trans ((hI6221 16 rfl).trans (hI6207 16 rfl))))]
                      have g10148 : (I10138 17).toInt = (I 17).toInt := by rw [show (I10138 17) = (I 17) from ((hI10138 17 rfl).trans ((hI9838 17 rfl).trans ((hI6221 17 rfl).trans (hI6207 17 rfl))))]
                      have g10149 : (A10138 10 0).toInt = (A 10 0).toInt := by rw [show (A10138 10 0) = (A 10 0) from ((congrFun (hA10138 10 rfl) _).trans ((congrFun (hA9838 10 rfl) _).trans ((congrFun (hA6221 10 rfl) _).trans (congrFun (hA6207 10 rfl) _))))]
                      have g10150 : (A10138 10 1).toInt = (A 10 1).toInt := by rw [show (A10138 10 1) = (A 10 1) from ((congrFun (hA10138 10 rfl) _).trans ((congrFun (hA9838 10 rfl) _).trans ((congrFun (hA6221 10 rfl) _).trans (congrFun (hA6207 10 rfl) _))))]
                      have g10151 := (IvM_nq (I := I10138) (A := A10138) hV10138).1 (by omega)
                      refine g_aload_n hk dX12_tellQuery_221 rfl ?_
                      refine gM_r0_8 hk hin12 (List.mem_cons_of_mem _ (List.mem_append_left _ (List.mem_of_getElem? (i := 18) rfl))) dX12_tellQuery_222 ?_
                      refine g_iload_n hk dX12_tellQuery_225 rfl ?_
                      refine lM_5 hk (vp_in_iff.mpr ⟨by omega, by omega⟩) rfl dX12_tellQuery_226 ?_
                      refine g_topl (fun y10152 ey10152 => ?_)
                      refine sM_7 (j := (I 17).toNatClampNeg) hk (vp_in_iff.mpr ⟨by omega, by omega⟩) rfl dX12_tellQuery_227 ?_
                      refine g_aload_n hk dX12_tellQuery_228 rfl ?_
                      refine g_dup hk dX12_tellQuery_229 rfl ?_
                      refine gM_i17 (v := (I 17)) hk hin12 (List.mem_cons_of_mem _ (List.mem_append_left _ (List.mem_of_getElem? (i := 8) rfl))) dX12_tellQuery_230 ((hI10138 17 rfl).trans ((hI9838 17 rfl).trans ((hI6221 17 rfl).trans (hI6207 17 rfl)))) ?_
                      refine g_iconst (v := 1) hk dX12_tellQuery_233 (by decide) ?_
                      refine g_iadd hk dX12_tellQuery_234 ?_
                      refine g_topi (fun y10153 ey10153 => ?_)
                      have hy10153 : y10153.toInt = (I 17).toInt + 1 := i32_add ey10153 rfl rfl (by omega) (by omega)
                      refine pM_i17 hk hin12 (List.mem_cons_of_mem _ (List.mem_append_left _ (List.mem_of_getElem? (i := 8) rfl))) dX12_tellQuery_235 ?_
                      refine g_aload_n hk dX12_tellQuery_238 rfl ?_
                      refine gM_r0_28 hk hin12 (List.mem_cons_of_mem _ (List.mem_append_left _ (List.mem_of_getElem? (i := 2) rfl))) dX12_tellQuery_239 ?_
                      refine g_aload_n hk dX12_tellQuery_242 rfl ?_
                      refine gM_i16 (v := (I 16)) hk hin12 (List.mem_cons_of_mem _ (List.mem_append_left _ (List.mem_of_getElem? (i := 1) rfl))) dX12_tellQuery_243 ((hI10138 16 rfl).trans ((hI9838 16 rfl).trans ((hI6221 16 rfl).trans (hI6207 16 rfl)))) ?_
                      by_cases c10154 : (I 16).toInt = 0
                      · have ec10154 : (I 16) = 0 := Int32.toInt_inj.mp c10154
                        rw [ec10154]
                        show GW κ 4 0 0 (wM r g (upd (upd I10138 11 (-2)) 17 y10153) A10138 (up3L L10138 7 ((I 17).toNatClampNeg) y10152)) 246 [(3, .int x6217), (2, .int (I 4)), (1, .int y6203), (0, .ref (r 0))] [.int 0, .ref (r 11)]
                        refine g_dup2 hk dX12_tellQuery_246 rfl rfl ?_
                        refine lM_10 (v := (A 10 0)) hk (vp_in_iff.mpr ⟨by decide, by decide⟩) ((congrFun (hA10138 10 rfl) _).trans ((congrFun (hA9838 10 rfl) _).trans ((congrFun (hA6221 10 rfl) _).trans (congrFun (hA6207 10 rfl) _)))) dX12_tellQuery_247 ?_
                        refine g_iconst (v := 1) hk dX12_tellQuery_248 (by decide) ?_
                        refine g_iadd hk dX12_tellQuery_249 ?_
                        refine g_topi (fun y10155 ey10155 => ?_)
                        have hy10155 : y10155.toInt = (A 10 0).toInt + 1 := i32_add ey10155 rfl rfl (by omega) (by omega)
                        refine sM_10 (j := 0) hk (vp_in_iff.mpr ⟨by decide, by decide⟩) (by decide) dX12_tellQuery_250 ?_
                        have f10156 := IvM_s10_0 hV10138
                        have f10157 := IvM_s10_1 hV10138
                        have g10158 : (I10138 15).toInt = (I 15).toInt := by rw [show (I10138 15) = (I 15) from ((hI10138 15 rfl).trans ((hI9838 15 rfl).trans ((hI6221 15 rfl).trans (hI6207 15 rfl))))]
                        have g10159 := IvM_s10_0 (I := I10138) (A := A10138) hV10138
                        have g10160 := IvM_s10_1 (I := I10138) (A := A10138) hV10138
                        have g10161 : (I10138 8).toInt = (I9838 8).toInt := by rw [show (I10138 8) = (I9838 8) from (hI10138 8 rfl)]
                        have q10162 := cl_int (y := y6203) (by omega)
                        have g10163 : (A10138 11 y6203.toNatClampNeg).toInt = (A9838 11 y6203.toNatClampNeg).toInt := by rw [show (A10138 11 y6203.toNatClampNeg) = (A9838 11 y6203.toNatClampNeg) from (congrFun (hA10138 11 rfl) _)]
                        have u10164 : (I9838 6).toInt ≠ 0 ∨ (A 2 (I9838 4).toNatClampNeg).toInt ≠ (4 : Int32).toInt := c10133
                        have u10165 : 0 < (I10138 6).toInt ∨ ((I9838 6).toInt = 0 ∧ (A 2 (I9838 4).toNatClampNeg).toInt = (4 : Int32).toInt) := r10143
                        exact g_vret hk hR ⟨(upd (upd I10138 11 (-2)) 17 y10153), (up3 A10138 10 0 y10155), (up3L L10138 7 ((I 17).toNatClampNeg) y10152), (show Md [4, 6, 7, 8, 9, 11, 12, 13, 17] I (upd (upd I10138 11 (-2)) 17 y10153) from (Md.up (Md.up (Md.tr (Md.tr (Md.tr (Md.tr (Md.up Md.rf rfl) hI6207 rfl) hI6221 rfl) hI9838 rfl) hI10138 rfl) rfl) rfl)), (show Md [10, 11, 12] A (up3 A10138 10 0 y10155) from (Md.up3 (Md.tr (Md.tr (Md.up3 (Md.tr (Md.tr Md.rf hA6207 rfl) hA6221 rfl) rfl) hA9838 rfl) hA10138 rfl) rfl)), ⟨(IvM_f1 (I := I10138) (A := A10138) hV10138), (IvM_f2 (I := I10138) (A := A10138) hV10138), (IvM_f3 (I := I10138) (A := A10138) hV10138), (IvM_f4 (I := I10138) (A := A10138) hV10138), (IvM_f6 (I := I10138) (A := A10138) hV10138), (IvM_f8 (I := I10138) (A := A10138) hV10138), (IvM_f15 (I := I10138) (A := A10138) hV10138), (IvM_f16 (I := I10138) (A := A10138) hV10138), (show 0 ≤ y10153.toInt ∧ y10153.toInt ≤ 5 from ⟨by omega, by omega⟩), (IvM_f18 (I := I10138) (A := A10138) hV10138), (IvM_f22 (I := I10138) (A := A10138) hV10138), (IvM_f23 (I := I10138) (A := A10138) hV10138), (IvM_f24 (I := I10138) (A := A10138) hV10138), (IvM_a11 (I := I10138) (A := A10138) hV10138), (IvM_a26 (I := I10138) (A := A10138) hV10138), (IvM_s8_0 (I := I10138) (A := A10138) hV10138), (IvM_s8_1 (I := I10138) (A := A10138) hV10138), (show 0 ≤ ((up3 A10138 10 0 y10155) 10 0).toInt ∧ ((up3 A10138 10 0 y10155) 10 0).toInt ≤ 5 from by rw [show (up3 A10138 10 0 y10155) 10 0 = y10155 from rfl]; exact ⟨by omega, by omega⟩), (show 0 ≤ ((up3 A10138 10 0 y10155) 10 1).toInt ∧ ((up3 A10138 10 0 y10155) 10 1).toInt ≤ 5 from by rw [show (up3 A10138 10 0 y10155) 10 1 = (A10138 10 1) from rfl]; exact (IvM_s10_1 (I := I10138) (A := A10138) hV10138)), (IvM_s17_0 (I := I10138) (A := A10138) hV10138), (IvM_s17_164 (I := I10138) (A := A10138) hV10138), ⟨fun e => by have e : (I10138 15).toInt = 0 := e; first | exact (IvM_lv (I := I10138) (A := A10138) hV10138).1 e | (exfalso; omega), fun e => by have e : (I10138 15).toInt = 1 := e; first | exact (IvM_lv (I := I10138) (A := A10138) hV10138).2 e | (exfalso; omega)⟩, (by first | (exfalso; omega) | (by_cases g8 : (I10138 8).toInt ≠ 0; exact Or.inr (Or.inl g8); rcases (IvM_sd (I := I10138) (A := A10138) hV10138) with h9 | h9 | h9; exact absurd h9 (by omega); exact absurd h9 g8; exact Or.inr (Or.inr ⟨fun e => by have e : (I10138 16).toInt = 0 := e; first | exact ghf_add (n := (A10138 10 0)) (f := (A10138 11)) (n2 := y10155) (p := y6203.toNatClampNeg) (h9.1 e) (by omega) (by omega) (by omega) | (exfalso; omega), fun e => by have e : (I10138 16).toInt = 1 := e; first | exact ghf_add (n := (A10138 10 1)) (f := (A10138 11)) (n2 := y10155) (p := y6203.toNatClampNeg) (h9.2 e) (by omega) (by omega) (by omega) | (exfalso; omega)⟩))), ⟨fun e => by have e : (I10138 16).toInt = 0 := e; first | (exfalso; omega) | (show y10153.toInt = y10155.toInt; omega), fun e => by have e : (I10138 16).toInt = 1 := e; first | (exfalso; omega) | (show y10153.toInt = (A10138 10 1).toInt; omega)⟩, (IvM_hr (I := I10138) (A := A10138) hV10138), (IvM_hh (I := I10138) (A := A10138) hV10138), trivial⟩, (by rw [show ((upd (upd I10138 11 (-2)) 17 y10153) 4) = (I10138 4) from rfl] <;> omega), (by rw [show ((upd (upd I10138 11 (-2)) 17 y10153) 6) = (I10138 6) from rfl] <;> omega), (by rw [show ((upd (upd I10138 11 (-2)) 17 y10153) 8) = (I9838 8) from (hI10138 8 rfl)] <;> omega), rfl, rfl⟩ dX12_tellQuery_251
                      exfalso; omega
                    · skip
                      exact g_vret hk hR ⟨I10138, A10138, L10138, (show Md [4, 6, 7, 8, 9, 11, 12, 13, 17] I I10138 from (Md.tr (Md.tr (Md.tr (Md.tr (Md.up Md.rf rfl) hI6207 rfl) hI6221 rfl) hI9838 rfl) hI10138 rfl)), (show Md [10, 11, 12] A A10138 from (Md.tr (Md.tr (Md.up3 (Md.tr (Md.tr Md.rf hA6207 rfl) hA6221 rfl) rfl) hA9838 rfl) hA10138 rfl)), hV10138, (by omega), (by omega), (by rw [show (I10138 8) = (I9838 8) from (hI10138 8 rfl)] <;> omega), rfl, rfl⟩ dX12_tellQuery_206
                  · skip
                    rw [show (A9838 2 (I9838 4).toNatClampNeg) = (A 2 (I9838 4).toNatClampNeg) from ((congrFun (hA9838 2 rfl) _).trans ((congrFun (hA6221 2 rfl) _).trans (congrFun (hA6207 2 rfl) _)))] at c10135
                    show GW κ 4 0 0 (wM r g I9838 A9838 L9838) 171 [(3, .int x6217), (2, .int (I 4)), (1, .int y6203), (0, .ref (r 0))] [.int 1]
                    refine g_if_eq (tgt := 194) (a := 1) hk dX12_tellQuery_171 (by decide) rfl (fun z9 => absurd z9 (show ¬ ((1 : Int) = (0 : Int)) from by decide)) (fun _ => ?_)
                    refine g_aload_n hk dX12_tellQuery_174 rfl ?_
                    refine gM_r0_29 hk hin12 (List.mem_cons_of_mem _ (List.mem_append_left _ (List.mem_of_getElem? (i := 9) rfl))) dX12_tellQuery_175 ?_
                    refine g_iload_n hk dX12_tellQuery_178 rfl ?_
                    refine lM_11 (v := (A9838 11 y6203.toNatClampNeg)) hk (vp_in_iff.mpr ⟨by omega, by omega⟩) rfl dX12_tellQuery_179 ?_
                    have f10166 := IvM_a11 hV9838 (y6203.toNatClampNeg)
                    refine g_iconst (v := 2) hk dX12_tellQuery_180 (by decide) ?_
                    refine g_icmp_ge (tgt := 194) (a := (A9838 11 y6203.toNatClampNeg).toInt) (b := 2) hk dX12_tellQuery_181 (by decide) rfl rfl (fun c10167 => ?_) (fun c10167 => ?_)
                    · skip
                      refine g_aload_n hk dX12_tellQuery_194 rfl ?_
                      refine g_iconst (v := 4) hk dX12_tellQuery_195 (by decide) ?_
                      refine g_callV (n := 1) hk (j131_X12_must l D zt r g I9838 A9838 L9838 4 hV9838) (SP.same _) (fun _ h => h) (gi_V (List.mem_cons_of_mem _ (List.mem_append_left _ (List.mem_of_getElem? (i := 4) rfl))) (List.mem_cons_of_mem _ (List.mem_append_left _ (List.mem_of_getElem? (i := 5) rfl))) (List.mem_cons_of_mem _ (List.mem_append_left _ (List.mem_of_getElem? (i := 6) rfl))) (List.mem_cons_of_mem _ (List.mem_append_left _ (List.mem_of_getElem? (i := 7) rfl))) (gi_sub (fun w h => (List.mem_cons_of_mem _ (List.mem_append_right _ (List.mem_append_right _ (List.mem_append_left _ h))))) zg_j131_X12_must)) rfl rfl rfl (by decide +kernel) ⟨Nat.le_of_ble_eq_true rfl, Nat.le_of_ble_eq_true rfl⟩ 0 rfl rfl rfl rfl (Nat.le_of_ble_eq_true rfl) ⟨Nat.le_of_ble_eq_true rfl, Nat.le_of_ble_eq_true rfl⟩ dX12_tellQuery_196 (fun v ty' w' hp hk' => ?_)
                      obtain ⟨I10169, A10169, L10169, hI10169, hA10169, hV10169, r10170, r10171, r10172, r10173, r10174, rfl, rfl⟩ := hp
                      have f10175 := IvM_f4 hV10169
                      have f10176 := IvM_f6 hV10169
                      rw [show (I10169 8) = (I9838 8) from (hI10169 8 rfl)] at r10172
                      rw [show (A9838 2 (I9838 4).toNatClampNeg) = (A 2 (I9838 4).toNatClampNeg) from ((congrFun (hA9838 2 rfl) _).trans ((congrFun (hA6221 2 rfl) _).trans (congrFun (hA6207 2 rfl) _)))] at r10174
                      show GW κ 4 0 0 (wM r g I10169 A10169 L10169) 199 [(3, .int x6217), (2, .int (I 4)), (1, .int y6203), (0, .ref (r 0))] []
                      refine g_aload_n hk dX12_tellQuery_199 rfl ?_
                      refine gM_i6 (v := (I10169 6)) hk hin12 (List.mem_cons_of_mem _ (List.mem_append_left _ (List.mem_of_getElem? (i := 16) rfl))) dX12_tellQuery_200 rfl ?_
                      refine g_if_le (tgt := 207) (a := (I10169 6).toInt) hk dX12_tellQuery_203 (by decide) rfl (fun c10177 => ?_) (fun c10177 => ?_)
                      · skip
                        refine g_aload_n hk dX12_tellQuery_207 rfl ?_
                        refine g_bipush (v := (-2)) hk dX12_tellQuery_208 (by decide) ?_
                        refine pM_i11 hk hin12 (List.mem_cons_of_mem _ (List.mem_append_left _ (List.mem_of_getElem? (i := 0) rfl))) dX12_tellQuery_210 ?_
                        refine g_aload_n hk dX12_tellQuery_213 rfl ?_
                        refine gM_r0_25 hk hin12 (List.mem_cons_of_mem _ (List.mem_append_left _ (List.mem_of_getElem? (i := 17) rfl))) dX12_tellQuery_214 ?_
                        refine g_aload_n hk dX12_tellQuery_217 rfl ?_
                        refine gM_i17 (v := (I 17)) hk hin12 (List.mem_cons_of_mem _ (List.mem_append_left _ (List.mem_of_getElem? (i := 8) rfl))) dX12_tellQuery_218 ((hI10169 17 rfl).trans ((hI9838 17 rfl).trans ((hI6221 17 rfl).trans (hI6207 17 rfl)))) ?_
                        have g10178 : (I10169 16).toInt = (I 16).toInt := by rw [show (I10169 16) = (I 16) from ((hI10169 16 rfl).trans ((hI9838 16 rfl).trans ((hI6221 16 rfl).trans (hI6207 16 rfl))))]
                        have g10179 : (I10169 17).toInt = (I 17).toInt := by rw [show (I10169 17) = (I 17) from ((hI10169 17 rfl).trans ((hI9838 17 rfl).trans ((hI6221 17 rfl).trans (hI6207 17 rfl))))]
                        have g10180 : (A10169 10 0).toInt = (A 10 0).toInt := by rw [show (A10169 10 0) = (A 10 0) from ((congrFun (hA10169 10 rfl) _).trans ((congrFun (hA9838 10 rfl) _).trans ((congrFun (hA6221 10 rfl) _).trans (congrFun (hA6207 10 rfl) _))))]
                        have g10181 : (A10169 10 1).toInt = (A 10 1).toInt := by rw [show (A10169 10 1) = (A 10 1) from ((congrFun (hA10169 10 rfl) _).trans ((congrFun (hA9838 10 rfl) _).trans ((congrFun (hA6221 10 rfl) _).trans (congrFun (hA6207 10 rfl) _))))]
                        have g10182 := (IvM_nq (I := I10169) (A := A10169) hV10169).1 (by omega)
                        refine g_aload_n hk dX12_tellQuery_221 rfl ?_
                        refine gM_r0_8 hk hin12 (List.mem_cons_of_mem _ (List.mem_append_left _ (List.mem_of_getElem? (i := 18) rfl))) dX12_tellQuery_222 ?_
                        refine g_iload_n hk dX12_tellQuery_225 rfl ?_
                        refine lM_5 hk (vp_in_iff.mpr ⟨by omega, by omega⟩) rfl dX12_tellQuery_226 ?_
                        refine g_topl (fun y10183 ey10183 => ?_)
                        refine sM_7 (j := (I 17).toNatClampNeg) hk (vp_in_iff.mpr ⟨by omega, by omega⟩) rfl dX12_tellQuery_227 ?_
                        refine g_aload_n hk dX12_tellQuery_228 rfl ?_
                        refine g_dup hk dX12_tellQuery_229 rfl ?_
                        refine gM_i17 (v := (I 17)) hk hin12 (List.mem_cons_of_mem _ (List.mem_append_left _ (List.mem_of_getElem? (i := 8) rfl))) dX12_tellQuery_230 ((hI10169 17 rfl).trans ((hI9838 17 rfl).trans ((hI6221 17 rfl).trans (hI6207 17 rfl)))) ?_
                        refine g_iconst (v := 1) hk dX12_tellQuery_233 (by decide) ?_
                        refine g_iadd hk dX12_tellQuery_234 ?_
                        refine g_topi (fun y10184 ey10184 => ?_)
                        have hy10184 : y10184.toInt = (I 17).toInt + 1 := i32_add ey10184 rfl rfl (by omega) (by omega)
                        refine pM_i17 hk hin12 (List.mem_cons_of_mem _ (List.mem_append_left _ (List.mem_of_getElem? (i := 8) rfl))) dX12_tellQuery_235 ?_
                        refine g_aload_n hk dX12_tellQuery_238 rfl ?_
                        refine gM_r0_28 hk hin12 (List.mem_cons_of_mem _ (List.mem_append_left _ (List.mem_of_getElem? (i := 2) rfl))) dX12_tellQuery_239 ?_
                        refine g_aload_n hk dX12_tellQuery_242 rfl ?_
                        refine gM_i16 (v := (I 16)) hk hin12 (List.mem_cons_of_mem _ (List.mem_append_left _ (List.mem_of_getElem? (i := 1) rfl))) dX12_tellQuery_243 ((hI10169 16 rfl).trans ((hI9838 16 rfl).trans ((hI6221 16 rfl).trans (hI6207 16 rfl)))) ?_
                        by_cases c10185 : (I 16).toInt = 0
                        · have ec10185 : (I 16) = 0 := Int32.toInt_inj.mp c10185
                          rw [ec10185]
                          show GW κ 4 0 0 (wM r g (upd (upd I10169 11 (-2)) 17 y10184) A10169 (up3L L10169 7 ((I 17).toNatClampNeg) y10183)) 246 [(3, .int x6217), (2, .int (I 4)), (1, .int y6203), (0, .ref (r 0))] [.int 0, .ref (r 11)]
                          refine g_dup2 hk dX12_tellQuery_246 rfl rfl ?_
                          refine lM_10 (v := (A 10 0)) hk (vp_in_iff.mpr ⟨by decide, by decide⟩) ((congrFun (hA10169 10 rfl) _).trans ((congrFun (hA9838 10 rfl) _).trans ((congrFun (hA6221 10 rfl) _).trans (congrFun (hA6207 10 rfl) _)))) dX12_tellQuery_247 ?_
                          refine g_iconst (v := 1) hk dX12_tellQuery_248 (by decide) ?_
                          refine g_iadd hk dX12_tellQuery_249 ?_
                          refine g_topi (fun y10186 ey10186 => ?_)
                          have hy10186 : y10186.toInt = (A 10 0).toInt + 1 := i32_add ey10186 rfl rfl (by omega) (by omega)
                          refine sM_10 (j := 0) hk (vp_in_iff.mpr ⟨by decide, by decide⟩) (by decide) dX12_tellQuery_250 ?_
                          have f10187 := IvM_s10_0 hV10169
                          have f10188 := IvM_s10_1 hV10169
                          have g10189 : (I10169 15).toInt = (I 15).toInt := by rw [show (I10169 15) = (I 15) from ((hI10169 15 rfl).trans ((hI9838 15 rfl).trans ((hI6221 15 rfl).trans (hI6207 15 rfl))))]
                          have g10190 := IvM_s10_0 (I := I10169) (A := A10169) hV10169
                          have g10191 := IvM_s10_1 (I := I10169) (A := A10169) hV10169
                          have g10192 : (I10169 8).toInt = (I9838 8).toInt := by rw [show (I10169 8) = (I9838 8) from (hI10169 8 rfl)]
                          have q10193 := cl_int (y := y6203) (by omega)
                          have g10194 : (A10169 11 y6203.toNatClampNeg).toInt = (A9838 11 y6203.toNatClampNeg).toInt := by rw [show (A10169 11 y6203.toNatClampNeg) = (A9838 11 y6203.toNatClampNeg) from (congrFun (hA10169 11 rfl) _)]
                          have u10195 : 0 < (I6207 6).toInt ∨ ((I 6).toInt = 0 ∧ (A 2 (I 4).toNatClampNeg).toInt = (1 : Int32).toInt) := r6212
                          have u10196 : 0 < (I10169 6).toInt ∨ ((I9838 6).toInt = 0 ∧ (A 2 (I9838 4).toNatClampNeg).toInt = (4 : Int32).toInt) := r10174
                          exact g_vret hk hR ⟨(upd (upd I10169 11 (-2)) 17 y10184), (up3 A10169 10 0 y10186), (up3L L10169 7 ((I 17).toNatClampNeg) y10183), (show Md [4, 6, 7, 8, 9, 11, 12, 13, 17] I (upd (upd I10169 11 (-2)) 17 y10184) from (Md.up (Md.up (Md.tr (Md.tr (Md.tr (Md.tr (Md.up Md.rf rfl) hI6207 rfl) hI6221 rfl) hI9838 rfl) hI10169 rfl) rfl) rfl)), (show Md [10, 11, 12] A (up3 A10169 10 0 y10186) from (Md.up3 (Md.tr (Md.tr (Md.up3 (Md.tr (Md.tr Md.rf hA6207 rfl) hA6221 rfl) rfl) hA9838 rfl) hA10169 rfl) rfl)), ⟨(IvM_f1 (I := I10169) (A := A10169) hV10169), (IvM_f2 (I := I10169) (A := A10169) hV10169), (IvM_f3 (I := I10169) (A := A10169) hV10169), (IvM_f4 (I := I10169) (A := A10169) hV10169), (IvM_f6 (I := I10169) (A := A10169) hV10169), (IvM_f8 (I := I10169) (A := A10169) hV10169), (IvM_f15 (I := I10169) (A := A10169) hV10169), (IvM_f16 (I := I10169) (A := A10169) hV10169), (show 0 ≤ y10184.toInt ∧ y10184.toInt ≤ 5 from ⟨by omega, by omega⟩), (IvM_f18 (I := I10169) (A := A10169) hV10169), (IvM_f22 (I := I10169) (A := A10169) hV10169), (IvM_f23 (I := I10169) (A := A10169) hV10169), (IvM_f24 (I := I10169) (A := A10169) hV10169), (IvM_a11 (I := I10169) (A := A10169) hV10169), (IvM_a26 (I := I10169) (A := A10169) hV10169), (IvM_s8_0 (I := I10169) (A := A10169) hV10169), (IvM_s8_1 (I := I10169) (A := A10169) hV10169), (show 0 ≤ ((up3 A10169 10 0 y10186) 10 0).toInt ∧ ((up3 A10169 10 0 y10186) 10 0).toInt ≤ 5 from by rw [show (up3 A10169 10 0 y10186) 10 0 = y10186 from rfl]; exact ⟨by omega, by omega⟩), (show 0 ≤ ((up3 A10169 10 0 y10186) 10 1).toInt ∧ ((up3 A10169 10 0 y10186) 10 1).toInt ≤ 5 from by rw [show (up3 A10169 10 0 y10186) 10 1 = (A10169 10 1) from rfl]; exact (IvM_s10_1 (I := I10169) (A := A10169) hV10169)), (IvM_s17_0 (I := I10169) (A := A10169) hV10169), (IvM_s17_164 (I := I10169) (A := A10169) hV10169), ⟨fun e => by have e : (I10169 15).toInt = 0 := e; first | exact (IvM_lv (I := I10169) (A := A10169) hV10169).1 e | (exfalso; omega), fun e => by have e : (I10169 15).toInt = 1 := e; first | exact (IvM_lv (I := I10169) (A := A10169) hV10169).2 e | (exfalso; omega)⟩, (by first | (exfalso; omega) | (by_cases g8 : (I10169 8).toInt ≠ 0; exact Or.inr (Or.inl g8); rcases (IvM_sd (I := I10169) (A := A10169) hV10169) with h9 | h9 | h9; exact absurd h9 (by omega); exact absurd h9 g8; exact Or.inr (Or.inr ⟨fun e => by have e : (I10169 16).toInt = 0 := e; first | exact ghf_add (n := (A10169 10 0)) (f := (A10169 11)) (n2 := y10186) (p := y6203.toNatClampNeg) (h9.1 e) (by omega) (by omega) (by omega) | (exfalso; omega), fun e => by have e : (I10169 16).toInt = 1 := e; first | exact ghf_add (n := (A10169 10 1)) (f := (A10169 11)) (n2 := y10186) (p := y6203.toNatClampNeg) (h9.2 e) (by omega) (by omega) (by omega) | (exfalso; omega)⟩))), ⟨fun e => by have e : (I10169 16).toInt = 0 := e; first | (exfalso; omega) | (show y10184.toInt = y10186.toInt; omega), fun e => by have e : (I10169 16).toInt = 1 := e; first | (exfalso; omega) | (show y10184.toInt = (A10169 10 1).toInt; omega)⟩, (IvM_hr (I := I10169) (A := A10169) hV10169), (IvM_hh (I := I10169) (A := A10169) hV10169), trivial⟩, (by rw [show ((upd (upd I10169 11 (-2)) 17 y10184) 4) = (I10169 4) from rfl] <;> omega), (by rw [show ((upd (upd I10169 11 (-2)) 17 y10184) 6) = (I10169 6) from rfl] <;> omega), (by rw [show ((upd (upd I10169 11 (-2)) 17 y10184) 8) = (I9838 8) from (hI10169 8 rfl)] <;> omega), rfl, rfl⟩ dX12_tellQuery_251
                        exfalso; omega
                      · skip
                        exact g_vret hk hR ⟨I10169, A10169, L10169, (show Md [4, 6, 7, 8, 9, 11, 12, 13, 17] I I10169 from (Md.tr (Md.tr (Md.tr (Md.tr (Md.up Md.rf rfl) hI6207 rfl) hI6221 rfl) hI9838 rfl) hI10169 rfl)), (show Md [10, 11, 12] A A10169 from (Md.tr (Md.tr (Md.up3 (Md.tr (Md.tr Md.rf hA6207 rfl) hA6221 rfl) rfl) hA9838 rfl) hA10169 rfl)), hV10169, (by omega), (by omega), (by rw [show (I10169 8) = (I9838 8) from (hI10169 8 rfl)] <;> omega), rfl, rfl⟩ dX12_tellQuery_206
                    · skip
                      refine g_aload_n hk dX12_tellQuery_184 rfl ?_
                      refine g_bipush (v := 6) hk dX12_tellQuery_185 (by decide) ?_
                      refine g_aload_n hk dX12_tellQuery_187 rfl ?_
                      refine gM_i4 (v := (I9838 4)) hk hin12 (List.mem_cons_of_mem _ (List.mem_append_left _ (List.mem_of_getElem? (i := 3) rfl))) dX12_tellQuery_188 rfl ?_
                      have k10197 : (6 : Int32).toInt = 6 := rfl
                      refine g_callV (n := 2) hk (j134_X12_wrong l D zt r g I9838 A9838 L9838 6 (I9838 4) hV9838 (by decide) (by decide) (by omega) (by omega)) (SP.same _) (fun _ h => h) (gi_V (List.mem_cons_of_mem _ (List.mem_append_left _ (List.mem_of_getElem? (i := 19) rfl))) (List.mem_cons_of_mem _ (List.mem_append_left _ (List.mem_of_getElem? (i := 20) rfl))) (List.mem_cons_of_mem _ (List.mem_append_left _ (List.mem_of_getElem? (i := 21) rfl))) (List.mem_cons_of_mem _ (List.mem_append_left _ (List.mem_of_getElem? (i := 7) rfl))) (gi_sub (fun w h => (List.mem_cons_of_mem _ (List.mem_append_right _ (List.mem_append_right _ (List.mem_append_right _ (List.mem_append_right _ (List.mem_append_right _ (List.mem_append_left _ h)))))))) zg_j134_X12_wrong)) rfl rfl rfl (by decide +kernel) ⟨Nat.le_of_ble_eq_true rfl, Nat.le_of_ble_eq_true rfl⟩ 0 rfl rfl rfl rfl (Nat.le_of_ble_eq_true rfl) ⟨Nat.le_of_ble_eq_true rfl, Nat.le_of_ble_eq_true rfl⟩ dX12_tellQuery_191 (fun v ty' w' hp hk' => ?_)
                      obtain ⟨I10199, A10199, L10199, hI10199, hA10199, hV10199, r10200, r10201, r10202, rfl, rfl⟩ := hp
                      rw [show (I10199 6) = (I9838 6) from (hI10199 6 rfl)] at r10200
                      have f10203 := IvM_f8 hV10199
                      rw [show (I10199 6) = (I9838 6) from (hI10199 6 rfl)] at r10202
                      show GW κ 4 0 0 (wM r g I10199 A10199 L10199) 194 [(3, .int x6217), (2, .int (I 4)), (1, .int y6203), (0, .ref (r 0))] []
                      refine g_aload_n hk dX12_tellQuery_194 rfl ?_
                      refine g_iconst (v := 4) hk dX12_tellQuery_195 (by decide) ?_
                      refine g_callV (n := 1) hk (j131_X12_must l D zt r g I10199 A10199 L10199 4 hV10199) (SP.same _) (fun _ h => h) (gi_V (List.mem_cons_of_mem _ (List.mem_append_left _ (List.mem_of_getElem? (i := 4) rfl))) (List.mem_cons_of_mem _ (List.mem_append_left _ (List.mem_of_getElem? (i := 5) rfl))) (List.mem_cons_of_mem _ (List.mem_append_left _ (List.mem_of_getElem? (i := 6) rfl))) (List.mem_cons_of_mem _ (List.mem_append_left _ (List.mem_of_getElem? (i := 7) rfl))) (gi_sub (fun w h => (List.mem_cons_of_mem _ (List.mem_append_right _ (List.mem_append_right _ (List.mem_append_left _ h))))) zg_j131_X12_must)) rfl rfl rfl (by decide +kernel) ⟨Nat.le_of_ble_eq_true rfl, Nat.le_of_ble_eq_true rfl⟩ 0 rfl rfl rfl rfl (Nat.le_of_ble_eq_true rfl) ⟨Nat.le_of_ble_eq_true rfl, Nat.le_of_ble_eq_true rfl⟩ dX12_tellQuery_196 (fun v ty' w' hp hk' => ?_)
                      obtain ⟨I10205, A10205, L10205, hI10205, hA10205, hV10205, r10206, r10207, r10208, r10209, r10210, rfl, rfl⟩ := hp
                      have f10211 := IvM_f4 hV10205
                      rw [show (I10199 4) = (I9838 4) from (hI10199 4 rfl)] at r10206
                      have f10212 := IvM_f6 hV10205
                      rw [show (I10199 6) = (I9838 6) from (hI10199 6 rfl)] at r10207
                      rw [show (I10205 8) = (I10199 8) from (hI10205 8 rfl)] at r10208
                      rw [show (I10199 4) = (I9838 4) from (hI10199 4 rfl)] at r10209
                      rw [show (I10199 6) = (I9838 6) from (hI10199 6 rfl), show (A10199 2 (I10199 4).toNatClampNeg) = (A 2 (I9838 4).toNatClampNeg) from (by rw [show I10199 4 = (I9838 4) from (hI10199 4 rfl)]; exact ((congrFun (hA10199 2 rfl) _).trans ((congrFun (hA9838 2 rfl) _).trans ((congrFun (hA6221 2 rfl) _).trans (congrFun (hA6207 2 rfl) _)))))] at r10210
                      show GW κ 4 0 0 (wM r g I10205 A10205 L10205) 199 [(3, .int x6217), (2, .int (I 4)), (1, .int y6203), (0, .ref (r 0))] []
                      refine g_aload_n hk dX12_tellQuery_199 rfl ?_
                      refine gM_i6 (v := (I10205 6)) hk hin12 (List.mem_cons_of_mem _ (List.mem_append_left _ (List.mem_of_getElem? (i := 16) rfl))) dX12_tellQuery_200 rfl ?_
                      refine g_if_le (tgt := 207) (a := (I10205 6).toInt) hk dX12_tellQuery_203 (by decide) rfl (fun c10213 => ?_) (fun c10213 => ?_)
                      · skip
                        refine g_aload_n hk dX12_tellQuery_207 rfl ?_
                        refine g_bipush (v := (-2)) hk dX12_tellQuery_208 (by decide) ?_
                        refine pM_i11 hk hin12 (List.mem_cons_of_mem _ (List.mem_append_left _ (List.mem_of_getElem? (i := 0) rfl))) dX12_tellQuery_210 ?_
                        refine g_aload_n hk dX12_tellQuery_213 rfl ?_
                        refine gM_r0_25 hk hin12 (List.mem_cons_of_mem _ (List.mem_append_left _ (List.mem_of_getElem? (i := 17) rfl))) dX12_tellQuery_214 ?_
                        refine g_aload_n hk dX12_tellQuery_217 rfl ?_
                        refine gM_i17 (v := (I 17)) hk hin12 (List.mem_cons_of_mem _ (List.mem_append_left _ (List.mem_of_getElem? (i := 8) rfl))) dX12_tellQuery_218 ((hI10205 17 rfl).trans ((hI10199 17 rfl).trans ((hI9838 17 rfl).trans ((hI6221 17 rfl).trans (hI6207 17 rfl))))) ?_
                        have g10214 : (I10205 16).toInt = (I 16).toInt := by rw [show (I10205 16) = (I 16) from ((hI10205 16 rfl).trans ((hI10199 16 rfl).trans ((hI9838 16 rfl).trans ((hI6221 16 rfl).trans (hI6207 16 rfl)))))]
                        have g10215 : (I10205 17).toInt = (I 17).toInt := by rw [show (I10205 17) = (I 17) from ((hI10205 17 rfl).trans ((hI10199 17 rfl).trans ((hI9838 17 rfl).trans ((hI6221 17 rfl).trans (hI6207 17 rfl)))))]
                        have g10216 : (A10205 10 0).toInt = (A 10 0).toInt := by rw [show (A10205 10 0) = (A 10 0) from ((congrFun (hA10205 10 rfl) _).trans ((congrFun (hA10199 10 rfl) _).trans ((congrFun (hA9838 10 rfl) _).trans ((congrFun (hA6221 10 rfl) _).trans (congrFun (hA6207 10 rfl) _)))))]
                        have g10217 : (A10205 10 1).toInt = (A 10 1).toInt := by rw [show (A10205 10 1) = (A 10 1) from ((congrFun (hA10205 10 rfl) _).trans ((congrFun (hA10199 10 rfl) _).trans ((congrFun (hA9838 10 rfl) _).trans ((congrFun (hA6221 10 rfl) _).trans (congrFun (hA6207 10 rfl) _)))))]
                        have g10218 := (IvM_nq (I := I10205) (A := A10205) hV10205).1 (by omega)
                        refine g_aload_n hk dX12_tellQuery_221 rfl ?_
                        refine gM_r0_8 hk hin12 (List.mem_cons_of_mem _ (List.mem_append_left _ (List.mem_of_getElem? (i := 18) rfl))) dX12_tellQuery_222 ?_
                        refine g_iload_n hk dX12_tellQuery_225 rfl ?_
                        refine lM_5 hk (vp_in_iff.mpr ⟨by omega, by omega⟩) rfl dX12_tellQuery_226 ?_
                        refine g_topl (fun y10219 ey10219 => ?_)
                        refine sM_7 (j := (I 17).toNatClampNeg) hk (vp_in_iff.mpr ⟨by omega, by omega⟩) rfl dX12_tellQuery_227 ?_
                        refine g_aload_n hk dX12_tellQuery_228 rfl ?_
                        refine g_dup hk dX12_tellQuery_229 rfl ?_
                        refine gM_i17 (v := (I 17)) hk hin12 (List.mem_cons_of_mem _ (List.mem_append_left _ (List.mem_of_getElem? (i := 8) rfl))) dX12_tellQuery_230 ((hI10205 17 rfl).trans ((hI10199 17 rfl).trans ((hI9838 17 rfl).trans ((hI6221 17 rfl).trans (hI6207 17 rfl))))) ?_
                        refine g_iconst (v := 1) hk dX12_tellQuery_233 (by decide) ?_
                        refine g_iadd hk dX12_tellQuery_234 ?_
                        refine g_topi (fun y10220 ey10220 => ?_)
                        have hy10220 : y10220.toInt = (I 17).toInt + 1 := i32_add ey10220 rfl rfl (by omega) (by omega)
                        refine pM_i17 hk hin12 (List.mem_cons_of_mem _ (List.mem_append_left _ (List.mem_of_getElem? (i := 8) rfl))) dX12_tellQuery_235 ?_
                        refine g_aload_n hk dX12_tellQuery_238 rfl ?_
                        refine gM_r0_28 hk hin12 (List.mem_cons_of_mem _ (List.mem_append_left _ (List.mem_of_getElem? (i := 2) rfl))) dX12_tellQuery_239 ?_
                        refine g_aload_n hk dX12_tellQuery_242 rfl ?_
                        refine gM_i16 (v := (I 16)) hk hin12 (List.mem_cons_of_mem _ (List.mem_append_left _ (List.mem_of_getElem? (i := 1) rfl))) dX12_tellQuery_243 ((hI10205 16 rfl).trans ((hI10199 16 rfl).trans ((hI9838 16 rfl).trans ((hI6221 16 rfl).trans (hI6207 16 rfl))))) ?_
                        by_cases c10221 : (I 16).toInt = 0
                        · have ec10221 : (I 16) = 0 := Int32.toInt_inj.mp c10221
                          rw [ec10221]
                          show GW κ 4 0 0 (wM r g (upd (upd I10205 11 (-2)) 17 y10220) A10205 (up3L L10205 7 ((I 17).toNatClampNeg) y10219)) 246 [(3, .int x6217), (2, .int (I 4)), (1, .int y6203), (0, .ref (r 0))] [.int 0, .ref (r 11)]
                          refine g_dup2 hk dX12_tellQuery_246 rfl rfl ?_
                          refine lM_10 (v := (A 10 0)) hk (vp_in_iff.mpr ⟨by decide, by decide⟩) ((congrFun (hA10205 10 rfl) _).trans ((congrFun (hA10199 10 rfl) _).trans ((congrFun (hA9838 10 rfl) _).trans ((congrFun (hA6221 10 rfl) _).trans (congrFun (hA6207 10 rfl) _))))) dX12_tellQuery_247 ?_
                          refine g_iconst (v := 1) hk dX12_tellQuery_248 (by decide) ?_
                          refine g_iadd hk dX12_tellQuery_249 ?_
                          refine g_topi (fun y10222 ey10222 => ?_)
                          have hy10222 : y10222.toInt = (A 10 0).toInt + 1 := i32_add ey10222 rfl rfl (by omega) (by omega)
                          refine sM_10 (j := 0) hk (vp_in_iff.mpr ⟨by decide, by decide⟩) (by decide) dX12_tellQuery_250 ?_
                          have f10223 := IvM_s10_0 hV10205
                          have f10224 := IvM_s10_1 hV10205
                          have g10225 : (I10205 15).toInt = (I 15).toInt := by rw [show (I10205 15) = (I 15) from ((hI10205 15 rfl).trans ((hI10199 15 rfl).trans ((hI9838 15 rfl).trans ((hI6221 15 rfl).trans (hI6207 15 rfl)))))]
                          have g10226 := IvM_s10_0 (I := I10205) (A := A10205) hV10205
                          have g10227 := IvM_s10_1 (I := I10205) (A := A10205) hV10205
                          have g10228 : (I10205 8).toInt = (I10199 8).toInt := by rw [show (I10205 8) = (I10199 8) from (hI10205 8 rfl)]
                          have q10229 := cl_int (y := y6203) (by omega)
                          have g10230 : (A10205 11 y6203.toNatClampNeg).toInt = (A9838 11 y6203.toNatClampNeg).toInt := by rw [show (A10205 11 y6203.toNatClampNeg) = (A9838 11 y6203.toNatClampNeg) from ((congrFun (hA10205 11 rfl) _).trans (congrFun (hA10199 11 rfl) _))]
                          have u10231 : 0 < (I6207 6).toInt ∨ ((I 6).toInt = 0 ∧ (A 2 (I 4).toNatClampNeg).toInt = (1 : Int32).toInt) := r6212
                          have u10232 : 0 < (I10205 6).toInt ∨ ((I9838 6).toInt = 0 ∧ (A 2 (I9838 4).toNatClampNeg).toInt = (4 : Int32).toInt) := r10210
                          exact g_vret hk hR ⟨(upd (upd I10205 11 (-2)) 17 y10220), (up3 A10205 10 0 y10222), (up3L L10205 7 ((I 17).toNatClampNeg) y10219), (show Md [4, 6, 7, 8, 9, 11, 12, 13, 17] I (upd (upd I10205 11 (-2)) 17 y10220) from (Md.up (Md.up (Md.tr (Md.tr (Md.tr (Md.tr (Md.tr (Md.up Md.rf rfl) hI6207 rfl) hI6221 rfl) hI9838 rfl) hI10199 rfl) hI10205 rfl) rfl) rfl)), (show Md [10, 11, 12] A (up3 A10205 10 0 y10222) from (Md.up3 (Md.tr (Md.tr (Md.tr (Md.up3 (Md.tr (Md.tr Md.rf hA6207 rfl) hA6221 rfl) rfl) hA9838 rfl) hA10199 rfl) hA10205 rfl) rfl)), ⟨(IvM_f1 (I := I10205) (A := A10205) hV10205), (IvM_f2 (I := I10205) (A := A10205) hV10205), (IvM_f3 (I := I10205) (A := A10205) hV10205), (IvM_f4 (I := I10205) (A := A10205) hV10205), (IvM_f6 (I := I10205) (A := A10205) hV10205), (IvM_f8 (I := I10205) (A := A10205) hV10205), (IvM_f15 (I := I10205) (A := A10205) hV10205), (IvM_f16 (I := I10205) (A := A10205) hV10205), (show 0 ≤ y10220.toInt ∧ y10220.toInt ≤ 5 from ⟨by omega, by omega⟩), (IvM_f18 (I := I10205) (A := A10205) hV10205), (IvM_f22 (I := I10205) (A := A10205) hV10205), (IvM_f23 (I := I10205) (A := A10205) hV10205), (IvM_f24 (I := I10205) (A := A10205) hV10205), (IvM_a11 (I := I10205) (A := A10205) hV10205), (IvM_a26 (I := I10205) (A := A10205) hV10205), (IvM_s8_0 (I := I10205) (A := A10205) hV10205), (IvM_s8_1 (I := I10205) (A := A10205) hV10205), (show 0 ≤ ((up3 A10205 10 0 y10222) 10 0).toInt ∧ ((up3 A10205 10 0 y10222) 10 0).toInt ≤ 5 from by rw [show (up3 A10205 10 0 y10222) 10 0 = y10222 from rfl]; exact ⟨by omega, by omega⟩), (show 0 ≤ ((up3 A10205 10 0 y10222) 10 1).toInt ∧ ((up3 A10205 10 0 y10222) 10 1).toInt ≤ 5 from by rw [show (up3 A10205 10 0 y10222) 10 1 = (A10205 10 1) from rfl]; exact (IvM_s10_1 (I := I10205) (A := A10205) hV10205)), (IvM_s17_0 (I := I10205) (A := A10205) hV10205), (IvM_s17_164 (I := I10205) (A := A10205) hV10205), ⟨fun e => by have e : (I10205 15).toInt = 0 := e; first | exact (IvM_lv (I := I10205) (A := A10205) hV10205).1 e | (exfalso; omega), fun e => by have e : (I10205 15).toInt = 1 := e; first | exact (IvM_lv (I := I10205) (A := A10205) hV10205).2 e | (exfalso; omega)⟩, (by first | (exfalso; omega) | (by_cases g8 : (I10205 8).toInt ≠ 0; exact Or.inr (Or.inl g8); rcases (IvM_sd (I := I10205) (A := A10205) hV10205) with h9 | h9 | h9; exact absurd h9 (by omega); exact absurd h9 g8; exact Or.inr (Or.inr ⟨fun e => by have e : (I10205 16).toInt = 0 := e; first | exact ghf_add (n := (A10205 10 0)) (f := (A10205 11)) (n2 := y10222) (p := y6203.toNatClampNeg) (h9.1 e) (by omega) (by omega) (by omega) | (exfalso; omega), fun e => by have e : (I10205 16).toInt = 1 := e; first | exact ghf_add (n := (A10205 10 1)) (f := (A10205 11)) (n2 := y10222) (p := y6203.toNatClampNeg) (h9.2 e) (by omega) (by omega) (by omega) | (exfalso; omega)⟩))), ⟨fun e => by have e : (I10205 16).toInt = 0 := e; first | (exfalso; omega) | (show y10220.toInt = y10222.toInt; omega), fun e => by have e : (I10205 16).toInt = 1 := e; first | (exfalso; omega) | (show y10220.toInt = (A10205 10 1).toInt; omega)⟩, (IvM_hr (I := I10205) (A := A10205) hV10205), (IvM_hh (I := I10205) (A := A10205) hV10205), trivial⟩, (by rw [show ((upd (upd I10205 11 (-2)) 17 y10220) 4) = (I10205 4) from rfl] <;> omega), (by rw [show ((upd (upd I10205 11 (-2)) 17 y10220) 6) = (I10205 6) from rfl] <;> omega), (by rw [show ((upd (upd I10205 11 (-2)) 17 y10220) 8) = (I10199 8) from (hI10205 8 rfl)] <;> omega), rfl, rfl⟩ dX12_tellQuery_251
                        exfalso; omega
                      · skip
                        exact g_vret hk hR ⟨I10205, A10205, L10205, (show Md [4, 6, 7, 8, 9, 11, 12, 13, 17] I I10205 from (Md.tr (Md.tr (Md.tr (Md.tr (Md.tr (Md.up Md.rf rfl) hI6207 rfl) hI6221 rfl) hI9838 rfl) hI10199 rfl) hI10205 rfl)), (show Md [10, 11, 12] A A10205 from (Md.tr (Md.tr (Md.tr (Md.up3 (Md.tr (Md.tr Md.rf hA6207 rfl) hA6221 rfl) rfl) hA9838 rfl) hA10199 rfl) hA10205 rfl)), hV10205, (by omega), (by omega), (by rw [show (I10205 8) = (I10199 8) from (hI10205 8 rfl)] <;> omega), rfl, rfl⟩ dX12_tellQuery_206
                · skip
                  show GW κ 4 0 0 (wM r g I9838 A9838 L9838) 88 [(3, .int x6217), (2, .int (I 4)), (1, .int y6203), (0, .ref (r 0))] [.int 1]
                  refine g_if_eq (tgt := 166) (a := 1) hk dX12_tellQuery_88 (by decide) rfl (fun z9 => absurd z9 (show ¬ ((1 : Int) = (0 : Int)) from by decide)) (fun _ => ?_)
                  refine g_aload_n hk dX12_tellQuery_91 rfl ?_
                  refine gM_r0_29 hk hin12 (List.mem_cons_of_mem _ (List.mem_append_left _ (List.mem_of_getElem? (i := 9) rfl))) dX12_tellQuery_92 ?_
                  refine g_iload_n hk dX12_tellQuery_95 rfl ?_
                  refine lM_11 (v := (A9838 11 y6203.toNatClampNeg)) hk (vp_in_iff.mpr ⟨by omega, by omega⟩) rfl dX12_tellQuery_96 ?_
                  have f10233 := IvM_a11 hV9838 (y6203.toNatClampNeg)
                  refine g_bipush (v := 16) hk dX12_tellQuery_97 (by decide) ?_
                  refine g_icmp_ne (tgt := 107) (a := (A9838 11 y6203.toNatClampNeg).toInt) (b := 16) hk dX12_tellQuery_99 (by decide) rfl rfl (fun c10234 => ?_) (fun c10234 => ?_)
                  · skip
                    refine g_aload_n hk dX12_tellQuery_107 rfl ?_
                    refine gM_i6 (v := (I9838 6)) hk hin12 (List.mem_cons_of_mem _ (List.mem_append_left _ (List.mem_of_getElem? (i := 16) rfl))) dX12_tellQuery_108 rfl ?_
                    refine g_if_le (tgt := 115) (a := (I9838 6).toInt) hk dX12_tellQuery_111 (by decide) rfl (fun c10235 => ?_) (fun c10235 => ?_)
                    · skip
                      refine g_aload_n hk dX12_tellQuery_115 rfl ?_
                      refine gM_r0_30 hk hin12 (List.mem_cons_of_mem _ (List.mem_append_left _ (List.mem_of_getElem? (i := 22) rfl))) dX12_tellQuery_116 ?_
                      refine g_bipush (v := 16) hk dX12_tellQuery_119 (by decide) ?_
                      refine g_iload_n hk dX12_tellQuery_121 rfl ?_
                      refine g_imul hk dX12_tellQuery_122 ?_
                      refine g_topi (fun y10236 ey10236 => ?_)
                      have hy10236 : y10236.toInt = 16 * y6203.toInt := i32_mul ey10236 rfl rfl (by omega) (by omega)
                      refine g_aload_n hk dX12_tellQuery_123 rfl ?_
                      refine gM_r0_29 hk hin12 (List.mem_cons_of_mem _ (List.mem_append_left _ (List.mem_of_getElem? (i := 9) rfl))) dX12_tellQuery_124 ?_
                      refine g_iload_n hk dX12_tellQuery_127 rfl ?_
                      refine lM_11 (v := (A9838 11 y6203.toNatClampNeg)) hk (vp_in_iff.mpr ⟨by omega, by omega⟩) rfl dX12_tellQuery_128 ?_
                      refine g_iadd hk dX12_tellQuery_129 ?_
                      refine g_topi (fun y10237 ey10237 => ?_)
                      have hy10237 : y10237.toInt = y10236.toInt + (A9838 11 y6203.toNatClampNeg).toInt := i32_add ey10237 rfl rfl (by omega) (by omega)
                      refine g_aload_n hk dX12_tellQuery_130 rfl ?_
                      refine g_callV (n := 0) hk (j132_X12_readingTold l D zt r g I9838 A9838 L9838  hV9838) (SP.same _) (fun _ h => h) (gi_V (List.mem_cons_of_mem _ (List.mem_append_left _ (List.mem_of_getElem? (i := 23) rfl))) (List.mem_cons_of_mem _ (List.mem_append_left _ (List.mem_of_getElem? (i := 24) rfl))) (List.mem_cons_of_mem _ (List.mem_append_left _ (List.mem_of_getElem? (i := 25) rfl))) (List.mem_cons_of_mem _ (List.mem_append_left _ (List.mem_of_getElem? (i := 7) rfl))) (gi_sub (fun w h => (List.mem_cons_of_mem _ (List.mem_append_right _ (List.mem_append_right _ (List.mem_append_right _ (List.mem_append_right _ (List.mem_append_right _ (List.mem_append_right _ (List.mem_append_left _ h))))))))) zg_j132_X12_readingTold)) rfl rfl rfl (by decide +kernel) ⟨Nat.le_of_ble_eq_true rfl, Nat.le_of_ble_eq_true rfl⟩ 0 rfl rfl rfl rfl (Nat.le_of_ble_eq_true rfl) ⟨Nat.le_of_ble_eq_true rfl, Nat.le_of_ble_eq_true rfl⟩ dX12_tellQuery_131 (fun v ty' w' hp hk' => ?_)
                      obtain ⟨I10239, A10239, L10239, hI10239, hA10239, hV10239, y10238, r10240, r10241, r10242, r10243, rfl, rfl⟩ := hp
                      have f10244 := IvM_f4 hV10239
                      have f10245 := IvM_f6 hV10239
                      have f10246 := IvM_f8 hV10239
                      show GW κ 4 0 0 (wM r g I10239 A10239 L10239) 134 [(3, .int x6217), (2, .int (I 4)), (1, .int y6203), (0, .ref (r 0))] [.int y10238, .int y10237, .ref (r 13)]
                      refine sM_12 (j := y10237.toNatClampNeg) hk (vp_in_iff.mpr ⟨by omega, by omega⟩) rfl dX12_tellQuery_134 ?_
                      refine g_aload_n hk dX12_tellQuery_135 rfl ?_
                      refine gM_i6 (v := (I10239 6)) hk hin12 (List.mem_cons_of_mem _ (List.mem_append_left _ (List.mem_of_getElem? (i := 16) rfl))) dX12_tellQuery_136 rfl ?_
                      refine g_if_le (tgt := 143) (a := (I10239 6).toInt) hk dX12_tellQuery_139 (by decide) rfl (fun c10247 => ?_) (fun c10247 => ?_)
                      · skip
                        refine g_aload_n hk dX12_tellQuery_143 rfl ?_
                        refine gM_r0_29 hk hin12 (List.mem_cons_of_mem _ (List.mem_append_left _ (List.mem_of_getElem? (i := 9) rfl))) dX12_tellQuery_144 ?_
                        refine g_iload_n hk dX12_tellQuery_147 rfl ?_
                        refine g_dup2 hk dX12_tellQuery_148 rfl rfl ?_
                        refine lM_11 (v := (A9838 11 y6203.toNatClampNeg)) hk (vp_in_iff.mpr ⟨by omega, by omega⟩) (congrFun (hA10239 11 rfl) _) dX12_tellQuery_149 ?_
                        refine g_iconst (v := 1) hk dX12_tellQuery_150 (by decide) ?_
                        refine g_iadd hk dX12_tellQuery_151 ?_
                        refine g_topi (fun y10248 ey10248 => ?_)
                        have hy10248 : y10248.toInt = (A9838 11 y6203.toNatClampNeg).toInt + 1 := i32_add ey10248 rfl rfl (by omega) (by omega)
                        refine sM_11 (j := y6203.toNatClampNeg) hk (vp_in_iff.mpr ⟨by omega, by omega⟩) rfl dX12_tellQuery_152 ?_
                        have hA10249 : ∀ j, 0 ≤ ((up3 (up3 A10239 12 (y10237.toNatClampNeg) y10238) 11 (y6203.toNatClampNeg) y10248) 11 j).toInt ∧ ((up3 (up3 A10239 12 (y10237.toNatClampNeg) y10238) 11 (y6203.toNatClampNeg) y10248) 11 j).toInt ≤ 16 := ai_st ((IvM_a11 hV10239)) ⟨by omega, by omega⟩
                        refine g_aload_n hk dX12_tellQuery_153 rfl ?_
                        refine g_dup hk dX12_tellQuery_154 rfl ?_
                        refine gM_i11 (v := (I9838 11)) hk hin12 (List.mem_cons_of_mem _ (List.mem_append_left _ (List.mem_of_getElem? (i := 0) rfl))) dX12_tellQuery_155 (hI10239 11 rfl) ?_
                        refine g_iconst (v := 1) hk dX12_tellQuery_158 (by decide) ?_
                        have b10250l := Int32.le_toInt (I9838 11)
                        have b10250h := Int32.toInt_lt (I9838 11)
                        refine g_iadd hk dX12_tellQuery_159 ?_
                        refine g_topi (fun y10251 ey10251 => ?_)
                        refine pM_i11 hk hin12 (List.mem_cons_of_mem _ (List.mem_append_left _ (List.mem_of_getElem? (i := 0) rfl))) dX12_tellQuery_160 ?_
                        refine g_goto (tgt := 84) hk dX12_tellQuery_163 (by decide) ?_
                        have g10252 : (I10239 15).toInt = (I 15).toInt := by rw [show (I10239 15) = (I 15) from ((hI10239 15 rfl).trans ((hI9838 15 rfl).trans ((hI6221 15 rfl).trans (hI6207 15 rfl))))]
                        have g10253 : (I10239 16).toInt = (I 16).toInt := by rw [show (I10239 16) = (I 16) from ((hI10239 16 rfl).trans ((hI9838 16 rfl).trans ((hI6221 16 rfl).trans (hI6207 16 rfl))))]
                        have g10254 := IvM_s10_0 (I := I10239) (A := A10239) hV10239
                        have g10255 := IvM_s10_1 (I := I10239) (A := A10239) hV10239
                        have q10256 := cl_int (y := y6203) (by omega)
                        have g10257 : (A10239 10 0).toInt = (A 10 0).toInt := by rw [show (A10239 10 0) = (A 10 0) from ((congrFun (hA10239 10 rfl) _).trans ((congrFun (hA9838 10 rfl) _).trans ((congrFun (hA6221 10 rfl) _).trans (congrFun (hA6207 10 rfl) _))))]
                        have g10258 : (A10239 10 1).toInt = (A 10 1).toInt := by rw [show (A10239 10 1) = (A 10 1) from ((congrFun (hA10239 10 rfl) _).trans ((congrFun (hA9838 10 rfl) _).trans ((congrFun (hA6221 10 rfl) _).trans (congrFun (hA6207 10 rfl) _))))]
                        have q10259 := cl_int (y := y6203) (by omega)
                        exact g_lv (List.forall_mem_cons.mpr ⟨List.mem_of_getElem? (i := 0) rfl, (List.forall_mem_cons.mpr ⟨List.mem_of_getElem? (i := 1) rfl, (List.forall_mem_cons.mpr ⟨List.mem_of_getElem? (i := 2) rfl, (List.forall_mem_cons.mpr ⟨List.mem_of_getElem? (i := 3) rfl, (fun _ h => absurd h List.not_mem_nil)⟩)⟩)⟩)⟩) (ih10126 (upd I10239 11 y10251) (up3 (up3 A10239 12 (y10237.toNatClampNeg) y10238) 11 (y6203.toNatClampNeg) y10248) L10239 (show Md [4, 6, 7, 8, 9, 11, 12, 13] I6221 (upd I10239 11 y10251) from Md.tr hI9838 (show Md [4, 6, 7, 8, 9, 11, 12, 13] I9838 (upd I10239 11 y10251) from (Md.up (Md.tr Md.rf hI10239 rfl) rfl)) rfl) (show Md [11, 12] (up3 A6221 11 (y6203.toNatClampNeg) 0) (up3 (up3 A10239 12 (y10237.toNatClampNeg) y10238) 11 (y6203.toNatClampNeg) y10248) from Md.tr hA9838 (show Md [11, 12] A9838 (up3 (up3 A10239 12 (y10237.toNatClampNeg) y10238) 11 (y6203.toNatClampNeg) y10248) from (Md.up3 (Md.up3 (Md.tr Md.rf hA10239 rfl) rfl) rfl)) rfl) ⟨(IvM_f1 (I := I10239) (A := A10239) hV10239), (IvM_f2 (I := I10239) (A := A10239) hV10239), (IvM_f3 (I := I10239) (A := A10239) hV10239), (IvM_f4 (I := I10239) (A := A10239) hV10239), (IvM_f6 (I := I10239) (A := A10239) hV10239), (IvM_f8 (I := I10239) (A := A10239) hV10239), (IvM_f15 (I := I10239) (A := A10239) hV10239), (IvM_f16 (I := I10239) (A := A10239) hV10239), (IvM_f17 (I := I10239) (A := A10239) hV10239), (IvM_f18 (I := I10239) (A := A10239) hV10239), (IvM_f22 (I := I10239) (A := A10239) hV10239), (IvM_f23 (I := I10239) (A := A10239) hV10239), (IvM_f24 (I := I10239) (A := A10239) hV10239), hA10249, (IvM_a26 (I := I10239) (A := A10239) hV10239), (IvM_s8_0 (I := I10239) (A := A10239) hV10239), (IvM_s8_1 (I := I10239) (A := A10239) hV10239), (IvM_s10_0 (I := I10239) (A := A10239) hV10239), (IvM_s10_1 (I := I10239) (A := A10239) hV10239), (IvM_s17_0 (I := I10239) (A := A10239) hV10239), (IvM_s17_164 (I := I10239) (A := A10239) hV10239), ⟨fun e => by have e : (I10239 15).toInt = 0 := e; first | exact ghf_upd (n := (A10239 10 0)) ((IvM_lv (I := I10239) (A := A10239) hV10239).1 e) (fun q hq => by omega) | (exfalso; omega), fun e => by have e : (I10239 15).toInt = 1 := e; first | exact ghf_upd (n := (A10239 10 1)) ((IvM_lv (I := I10239) (A := A10239) hV10239).2 e) (fun q hq => by omega) | (exfalso; omega)⟩, (by rcases (IvM_sd (I := I10239) (A := A10239) hV10239) with h9 | h9 | h9; exact Or.inl h9; exact Or.inr (Or.inl h9); exact Or.inr (Or.inr ⟨fun e => by have e : (I10239 16).toInt = 0 := e; first | exact ghf_upd (n := (A10239 10 0)) (h9.1 e) (fun q hq => by omega) | (exfalso; omega), fun e => by have e : (I10239 16).toInt = 1 := e; first | exact ghf_upd (n := (A10239 10 1)) (h9.2 e) (fun q hq => by omega) | (exfalso; omega)⟩)), (IvM_nq (I := I10239) (A := A10239) hV10239), (IvM_hr (I := I10239) (A := A10239) hV10239), (IvM_hh (I := I10239) (A := A10239) hV10239), trivial⟩ (by first | (rw [show ((upd I10239 11 y10251) 4) = (I10239 4) from rfl] <;> omega) | omega) (by first | (rw [show ((upd I10239 11 y10251) 6) = (I10239 6) from rfl] <;> omega) | omega) (by first | (rw [show ((upd I10239 11 y10251) 8) = (I10239 8) from rfl] <;> omega) | omega) (by first | (rw [show ((upd I10239 11 y10251) 4) = (I10239 4) from rfl] <;> omega) | omega) (by omega))
                      · skip
                        exact g_vret hk hR ⟨I10239, (up3 A10239 12 (y10237.toNatClampNeg) y10238), L10239, (show Md [4, 6, 7, 8, 9, 11, 12, 13, 17] I I10239 from (Md.tr (Md.tr (Md.tr (Md.tr (Md.up Md.rf rfl) hI6207 rfl) hI6221 rfl) hI9838 rfl) hI10239 rfl)), (show Md [10, 11, 12] A (up3 A10239 12 (y10237.toNatClampNeg) y10238) from (Md.up3 (Md.tr (Md.tr (Md.up3 (Md.tr (Md.tr Md.rf hA6207 rfl) hA6221 rfl) rfl) hA9838 rfl) hA10239 rfl) rfl)), ⟨(IvM_f1 (I := I10239) (A := A10239) hV10239), (IvM_f2 (I := I10239) (A := A10239) hV10239), (IvM_f3 (I := I10239) (A := A10239) hV10239), (IvM_f4 (I := I10239) (A := A10239) hV10239), (IvM_f6 (I := I10239) (A := A10239) hV10239), (IvM_f8 (I := I10239) (A := A10239) hV10239), (IvM_f15 (I := I10239) (A := A10239) hV10239), (IvM_f16 (I := I10239) (A := A10239) hV10239), (IvM_f17 (I := I10239) (A := A10239) hV10239), (IvM_f18 (I := I10239) (A := A10239) hV10239), (IvM_f22 (I := I10239) (A := A10239) hV10239), (IvM_f23 (I := I10239) (A := A10239) hV10239), (IvM_f24 (I := I10239) (A := A10239) hV10239), (IvM_a11 (I := I10239) (A := A10239) hV10239), (IvM_a26 (I := I10239) (A := A10239) hV10239), (IvM_s8_0 (I := I10239) (A := A10239) hV10239), (IvM_s8_1 (I := I10239) (A := A10239) hV10239), (IvM_s10_0 (I := I10239) (A := A10239) hV10239), (IvM_s10_1 (I := I10239) (A := A10239) hV10239), (IvM_s17_0 (I := I10239) (A := A10239) hV10239), (IvM_s17_164 (I := I10239) (A := A10239) hV10239), (IvM_lv (I := I10239) (A := A10239) hV10239), (IvM_sd (I := I10239) (A := A10239) hV10239), (IvM_nq (I := I10239) (A := A10239) hV10239), (IvM_hr (I := I10239) (A := A10239) hV10239), (IvM_hh (I := I10239) (A := A10239) hV10239), trivial⟩, (by omega), (by omega), (by omega), rfl, rfl⟩ dX12_tellQuery_142
                    · skip
                      exact g_vret hk hR ⟨I9838, A9838, L9838, (show Md [4, 6, 7, 8, 9, 11, 12, 13, 17] I I9838 from (Md.tr (Md.tr (Md.tr (Md.up Md.rf rfl) hI6207 rfl) hI6221 rfl) hI9838 rfl)), (show Md [10, 11, 12] A A9838 from (Md.tr (Md.up3 (Md.tr (Md.tr Md.rf hA6207 rfl) hA6221 rfl) rfl) hA9838 rfl)), hV9838, (by omega), (by omega), (by omega), rfl, rfl⟩ dX12_tellQuery_114
                  · skip
                    refine g_aload_n hk dX12_tellQuery_102 rfl ?_
                    refine g_iconst (v := 2) hk dX12_tellQuery_103 (by decide) ?_
                    have k10260 : (2 : Int32).toInt = 2 := rfl
                    refine g_callV (n := 1) hk (j128_X12_fail l D zt r g I9838 A9838 L9838 2 hV9838 (by decide) (by decide)) (SP.same _) (fun _ h => h) (gi_V (List.mem_cons_of_mem _ (List.mem_append_left _ (List.mem_of_getElem? (i := 26) rfl))) (List.mem_cons_of_mem _ (List.mem_append_left _ (List.mem_of_getElem? (i := 27) rfl))) (List.mem_cons_of_mem _ (List.mem_append_left _ (List.mem_of_getElem? (i := 28) rfl))) (List.mem_cons_of_mem _ (List.mem_append_left _ (List.mem_of_getElem? (i := 7) rfl))) (gi_sub (fun w h => (List.mem_cons_of_mem _ (List.mem_append_right _ (List.mem_append_right _ (List.mem_append_right _ (List.mem_append_right _ (List.mem_append_right _ (List.mem_append_right _ (List.mem_append_right _ (List.mem_append_left _ h)))))))))) zg_j128_X12_fail)) rfl rfl rfl (by decide +kernel) ⟨Nat.le_of_ble_eq_true rfl, Nat.le_of_ble_eq_true rfl⟩ 0 rfl rfl rfl rfl (Nat.le_of_ble_eq_true rfl) ⟨Nat.le_of_ble_eq_true rfl, Nat.le_of_ble_eq_true rfl⟩ dX12_tellQuery_104 (fun v ty' w' hp hk' => ?_)
                    obtain ⟨I10262, A10262, L10262, hI10262, hA10262, hV10262, r10263, r10264, r10265, rfl, rfl⟩ := hp
                    have f10266 := IvM_f6 hV10262
                    rw [show (I10262 8) = (I9838 8) from (hI10262 8 rfl)] at r10264
                    show GW κ 4 0 0 (wM r g I10262 A10262 L10262) 107 [(3, .int x6217), (2, .int (I 4)), (1, .int y6203), (0, .ref (r 0))] []
                    refine g_aload_n hk dX12_tellQuery_107 rfl ?_
                    refine gM_i6 (v := (I10262 6)) hk hin12 (List.mem_cons_of_mem _ (List.mem_append_left _ (List.mem_of_getElem? (i := 16) rfl))) dX12_tellQuery_108 rfl ?_
                    refine g_if_le (tgt := 115) (a := (I10262 6).toInt) hk dX12_tellQuery_111 (by decide) rfl (fun c10267 => ?_) (fun c10267 => ?_)
                    · skip
                      refine g_aload_n hk dX12_tellQuery_115 rfl ?_
                      refine gM_r0_30 hk hin12 (List.mem_cons_of_mem _ (List.mem_append_left _ (List.mem_of_getElem? (i := 22) rfl))) dX12_tellQuery_116 ?_
                      refine g_bipush (v := 16) hk dX12_tellQuery_119 (by decide) ?_
                      refine g_iload_n hk dX12_tellQuery_121 rfl ?_
                      refine g_imul hk dX12_tellQuery_122 ?_
                      refine g_topi (fun y10268 ey10268 => ?_)
                      have hy10268 : y10268.toInt = 16 * y6203.toInt := i32_mul ey10268 rfl rfl (by omega) (by omega)
                      refine g_aload_n hk dX12_tellQuery_123 rfl ?_
                      refine gM_r0_29 hk hin12 (List.mem_cons_of_mem _ (List.mem_append_left _ (List.mem_of_getElem? (i := 9) rfl))) dX12_tellQuery_124 ?_
                      refine g_iload_n hk dX12_tellQuery_127 rfl ?_
                      refine lM_11 (v := (A9838 11 y6203.toNatClampNeg)) hk (vp_in_iff.mpr ⟨by omega, by omega⟩) (congrFun (hA10262 11 rfl) _) dX12_tellQuery_128 ?_
                      refine g_iadd hk dX12_tellQuery_129 ?_
                      refine g_topi (fun y10269 ey10269 => ?_)
                      have hy10269 : y10269.toInt = y10268.toInt + (A9838 11 y6203.toNatClampNeg).toInt := i32_add ey10269 rfl rfl (by omega) (by omega)
                      refine g_aload_n hk dX12_tellQuery_130 rfl ?_
                      refine g_callV (n := 0) hk (j132_X12_readingTold l D zt r g I10262 A10262 L10262  hV10262) (SP.same _) (fun _ h => h) (gi_V (List.mem_cons_of_mem _ (List.mem_append_left _ (List.mem_of_getElem? (i := 23) rfl))) (List.mem_cons_of_mem _ (List.mem_append_left _ (List.mem_of_getElem? (i := 24) rfl))) (List.mem_cons_of_mem _ (List.mem_append_left _ (List.mem_of_getElem? (i := 25) rfl))) (List.mem_cons_of_mem _ (List.mem_append_left _ (List.mem_of_getElem? (i := 7) rfl))) (gi_sub (fun w h => (List.mem_cons_of_mem _ (List.mem_append_right _ (List.mem_append_right _ (List.mem_append_right _ (List.mem_append_right _ (List.mem_append_right _ (List.mem_append_right _ (List.mem_append_left _ h))))))))) zg_j132_X12_readingTold)) rfl rfl rfl (by decide +kernel) ⟨Nat.le_of_ble_eq_true rfl, Nat.le_of_ble_eq_true rfl⟩ 0 rfl rfl rfl rfl (Nat.le_of_ble_eq_true rfl) ⟨Nat.le_of_ble_eq_true rfl, Nat.le_of_ble_eq_true rfl⟩ dX12_tellQuery_131 (fun v ty' w' hp hk' => ?_)
                      obtain ⟨I10271, A10271, L10271, hI10271, hA10271, hV10271, y10270, r10272, r10273, r10274, r10275, rfl, rfl⟩ := hp
                      have f10276 := IvM_f4 hV10271
                      rw [show (I10262 4) = (I9838 4) from (hI10262 4 rfl)] at r10272
                      have f10277 := IvM_f6 hV10271
                      have f10278 := IvM_f8 hV10271
                      rw [show (I10262 8) = (I9838 8) from (hI10262 8 rfl)] at r10274
                      rw [show (I10262 4) = (I9838 4) from (hI10262 4 rfl)] at r10275
                      show GW κ 4 0 0 (wM r g I10271 A10271 L10271) 134 [(3, .int x6217), (2, .int (I 4)), (1, .int y6203), (0, .ref (r 0))] [.int y10270, .int y10269, .ref (r 13)]
                      refine sM_12 (j := y10269.toNatClampNeg) hk (vp_in_iff.mpr ⟨by omega, by omega⟩) rfl dX12_tellQuery_134 ?_
                      refine g_aload_n hk dX12_tellQuery_135 rfl ?_
                      refine gM_i6 (v := (I10271 6)) hk hin12 (List.mem_cons_of_mem _ (List.mem_append_left _ (List.mem_of_getElem? (i := 16) rfl))) dX12_tellQuery_136 rfl ?_
                      refine g_if_le (tgt := 143) (a := (I10271 6).toInt) hk dX12_tellQuery_139 (by decide) rfl (fun c10279 => ?_) (fun c10279 => ?_)
                      · skip
                        refine g_aload_n hk dX12_tellQuery_143 rfl ?_
                        refine gM_r0_29 hk hin12 (List.mem_cons_of_mem _ (List.mem_append_left _ (List.mem_of_getElem? (i := 9) rfl))) dX12_tellQuery_144 ?_
                        refine g_iload_n hk dX12_tellQuery_147 rfl ?_
                        refine g_dup2 hk dX12_tellQuery_148 rfl rfl ?_
                        refine lM_11 (v := (A9838 11 y6203.toNatClampNeg)) hk (vp_in_iff.mpr ⟨by omega, by omega⟩) ((congrFun (hA10271 11 rfl) _).trans (congrFun (hA10262 11 rfl) _)) dX12_tellQuery_149 ?_
                        refine g_iconst (v := 1) hk dX12_tellQuery_150 (by decide) ?_
                        refine g_iadd hk dX12_tellQuery_151 ?_
                        refine g_topi (fun y10280 ey10280 => ?_)
                        have hy10280 : y10280.toInt = (A9838 11 y6203.toNatClampNeg).toInt + 1 := i32_add ey10280 rfl rfl (by omega) (by omega)
                        refine sM_11 (j := y6203.toNatClampNeg) hk (vp_in_iff.mpr ⟨by omega, by omega⟩) rfl dX12_tellQuery_152 ?_
                        have hA10281 : ∀ j, 0 ≤ ((up3 (up3 A10271 12 (y10269.toNatClampNeg) y10270) 11 (y6203.toNatClampNeg) y10280) 11 j).toInt ∧ ((up3 (up3 A10271 12 (y10269.toNatClampNeg) y10270) 11 (y6203.toNatClampNeg) y10280) 11 j).toInt ≤ 16 := ai_st ((IvM_a11 hV10271)) ⟨by omega, by omega⟩
                        refine g_aload_n hk dX12_tellQuery_153 rfl ?_
                        refine g_dup hk dX12_tellQuery_154 rfl ?_
                        refine gM_i11 (v := (I9838 11)) hk hin12 (List.mem_cons_of_mem _ (List.mem_append_left _ (List.mem_of_getElem? (i := 0) rfl))) dX12_tellQuery_155 ((hI10271 11 rfl).trans (hI10262 11 rfl)) ?_
                        refine g_iconst (v := 1) hk dX12_tellQuery_158 (by decide) ?_
                        have b10282l := Int32.le_toInt (I9838 11)
                        have b10282h := Int32.toInt_lt (I9838 11)
                        refine g_iadd hk dX12_tellQuery_159 ?_
                        refine g_topi (fun y10283 ey10283 => ?_)
                        refine pM_i11 hk hin12 (List.mem_cons_of_mem _ (List.mem_append_left _ (List.mem_of_getElem? (i := 0) rfl))) dX12_tellQuery_160 ?_
                        refine g_goto (tgt := 84) hk dX12_tellQuery_163 (by decide) ?_
                        have g10284 : (I10271 15).toInt = (I 15).toInt := by rw [show (I10271 15) = (I 15) from ((hI10271 15 rfl).trans ((hI10262 15 rfl).trans ((hI9838 15 rfl).trans ((hI6221 15 rfl).trans (hI6207 15 rfl)))))]
                        have g10285 : (I10271 16).toInt = (I 16).toInt := by rw [show (I10271 16) = (I 16) from ((hI10271 16 rfl).trans ((hI10262 16 rfl).trans ((hI9838 16 rfl).trans ((hI6221 16 rfl).trans (hI6207 16 rfl)))))]
                        have g10286 := IvM_s10_0 (I := I10271) (A := A10271) hV10271
                        have g10287 := IvM_s10_1 (I := I10271) (A := A10271) hV10271
                        have q10288 := cl_int (y := y6203) (by omega)
                        have g10289 : (A10271 10 0).toInt = (A 10 0).toInt := by rw [show (A10271 10 0) = (A 10 0) from ((congrFun (hA10271 10 rfl) _).trans ((congrFun (hA10262 10 rfl) _).trans ((congrFun (hA9838 10 rfl) _).trans ((congrFun (hA6221 10 rfl) _).trans (congrFun (hA6207 10 rfl) _)))))]
                        have g10290 : (A10271 10 1).toInt = (A 10 1).toInt := by rw [show (A10271 10 1) = (A 10 1) from ((congrFun (hA10271 10 rfl) _).trans ((congrFun (hA10262 10 rfl) _).trans ((congrFun (hA9838 10 rfl) _).trans ((congrFun (hA6221 10 rfl) _).trans (congrFun (hA6207 10 rfl) _)))))]
                        have q10291 := cl_int (y := y6203) (by omega)
                        exact g_lv (List.forall_mem_cons.mpr ⟨List.mem_of_getElem? (i := 0) rfl, (List.forall_mem_cons.mpr ⟨List.mem_of_getElem? (i := 1) rfl, (List.forall_mem_cons.mpr ⟨List.mem_of_getElem? (i := 2) rfl, (List.forall_mem_cons.mpr ⟨List.mem_of_getElem? (i := 3) rfl, (fun _ h => absurd h List.not_mem_nil)⟩)⟩)⟩)⟩) (ih10126 (upd I10271 11 y10283) (up3 (up3 A10271 12 (y10269.toNatClampNeg) y10270) 11 (y6203.toNatClampNeg) y10280) L10271 (show Md [4, 6, 7, 8, 9, 11, 12, 13] I6221 (upd I10271 11 y10283) from Md.tr hI9838 (show Md [4, 6, 7, 8, 9, 11, 12, 13] I9838 (upd I10271 11 y10283) from (Md.up (Md.tr (Md.tr Md.rf hI10262 rfl) hI10271 rfl) rfl)) rfl) (show Md [11, 12] (up3 A6221 11 (y6203.toNatClampNeg) 0) (up3 (up3 A10271 12 (y10269.toNatClampNeg) y10270) 11 (y6203.toNatClampNeg) y10280) from Md.tr hA9838 (show Md [11, 12] A9838 (up3 (up3 A10271 12 (y10269.toNatClampNeg) y10270) 11 (y6203.toNatClampNeg) y10280) from (Md.up3 (Md.up3 (Md.tr (Md.tr Md.rf hA10262 rfl) hA10271 rfl) rfl) rfl)) rfl) ⟨(IvM_f1 (I := I10271) (A := A10271) hV10271), (IvM_f2 (I := I10271) (A := A10271) hV10271), (IvM_f3 (I := I10271) (A := A10271) hV10271), (IvM_f4 (I := I10271) (A := A10271) hV10271), (IvM_f6 (I := I10271) (A := A10271) hV10271), (IvM_f8 (I := I10271) (A := A10271) hV10271), (IvM_f15 (I := I10271) (A := A10271) hV10271), (IvM_f16 (I := I10271) (A := A10271) hV10271), (IvM_f17 (I := I10271) (A := A10271) hV10271), (IvM_f18 (I := I10271) (A := A10271) hV10271), (IvM_f22 (I := I10271) (A := A10271) hV10271), (IvM_f23 (I := I10271) (A := A10271) hV10271), (IvM_f24 (I := I10271) (A := A10271) hV10271), hA10281, (IvM_a26 (I := I10271) (A := A10271) hV10271), (IvM_s8_0 (I := I10271) (A := A10271) hV10271), (IvM_s8_1 (I := I10271) (A := A10271) hV10271), (IvM_s10_0 (I := I10271) (A := A10271) hV10271), (IvM_s10_1 (I := I10271) (A := A10271) hV10271), (IvM_s17_0 (I := I10271) (A := A10271) hV10271), (IvM_s17_164 (I := I10271) (A := A10271) hV10271), ⟨fun e => by have e : (I10271 15).toInt = 0 := e; first | exact ghf_upd (n := (A10271 10 0)) ((IvM_lv (I := I10271) (A := A10271) hV10271).1 e) (fun q hq => by omega) | (exfalso; omega), fun e => by have e : (I10271 15).toInt = 1 := e; first | exact ghf_upd (n := (A10271 10 1)) ((IvM_lv (I := I10271) (A := A10271) hV10271).2 e) (fun q hq => by omega) | (exfalso; omega)⟩, (by rcases (IvM_sd (I := I10271) (A := A10271) hV10271) with h9 | h9 | h9; exact Or.inl h9; exact Or.inr (Or.inl h9); exact Or.inr (Or.inr ⟨fun e => by have e : (I10271 16).toInt = 0 := e; first | exact ghf_upd (n := (A10271 10 0)) (h9.1 e) (fun q hq => by omega) | (exfalso; omega), fun e => by have e : (I10271 16).toInt = 1 := e; first | exact ghf_upd (n := (A10271 10 1)) (h9.2 e) (fun q hq => by omega) | (exfalso; omega)⟩)), (IvM_nq (I := I10271) (A := A10271) hV10271), (IvM_hr (I := I10271) (A := A10271) hV10271), (IvM_hh (I := I10271) (A := A10271) hV10271), trivial⟩ (by first | (rw [show ((upd I10271 11 y10283) 4) = (I10271 4) from rfl] <;> omega) | omega) (by first | (rw [show ((upd I10271 11 y10283) 6) = (I10271 6) from rfl] <;> omega) | omega) (by first | (rw [show ((upd I10271 11 y10283) 8) = (I10271 8) from rfl] <;> omega) | omega) (by first | (rw [show ((upd I10271 11 y10283) 4) = (I10271 4) from rfl] <;> omega) | omega) (by omega))
                      · skip
                        exact g_vret hk hR ⟨I10271, (up3 A10271 12 (y10269.toNatClampNeg) y10270), L10271, (show Md [4, 6, 7, 8, 9, 11, 12, 13, 17] I I10271 from (Md.tr (Md.tr (Md.tr (Md.tr (Md.tr (Md.up Md.rf rfl) hI6207 rfl) hI6221 rfl) hI9838 rfl) hI10262 rfl) hI10271 rfl)), (show Md [10, 11, 12] A (up3 A10271 12 (y10269.toNatClampNeg) y10270) from (Md.up3 (Md.tr (Md.tr (Md.tr (Md.up3 (Md.tr (Md.tr Md.rf hA6207 rfl) hA6221 rfl) rfl) hA9838 rfl) hA10262 rfl) hA10271 rfl) rfl)), ⟨(IvM_f1 (I := I10271) (A := A10271) hV10271), (IvM_f2 (I := I10271) (A := A10271) hV10271), (IvM_f3 (I := I10271) (A := A10271) hV10271), (IvM_f4 (I := I10271) (A := A10271) hV10271), (IvM_f6 (I := I10271) (A := A10271) hV10271), (IvM_f8 (I := I10271) (A := A10271) hV10271), (IvM_f15 (I := I10271) (A := A10271) hV10271), (IvM_f16 (I := I10271) (A := A10271) hV10271), (IvM_f17 (I := I10271) (A := A10271) hV10271), (IvM_f18 (I := I10271) (A := A10271) hV10271), (IvM_f22 (I := I10271) (A := A10271) hV10271), (IvM_f23 (I := I10271) (A := A10271) hV10271), (IvM_f24 (I := I10271) (A := A10271) hV10271), (IvM_a11 (I := I10271) (A := A10271) hV10271), (IvM_a26 (I := I10271) (A := A10271) hV10271), (IvM_s8_0 (I := I10271) (A := A10271) hV10271), (IvM_s8_1 (I := I10271) (A := A10271) hV10271), (IvM_s10_0 (I := I10271) (A := A10271) hV10271), (IvM_s10_1 (I := I10271) (A := A10271) hV10271), (IvM_s17_0 (I := I10271) (A := A10271) hV10271), (IvM_s17_164 (I := I10271) (A := A10271) hV10271), (IvM_lv (I := I10271) (A := A10271) hV10271), (IvM_sd (I := I10271) (A := A10271) hV10271), (IvM_nq (I := I10271) (A := A10271) hV10271), (IvM_hr (I := I10271) (A := A10271) hV10271), (IvM_hh (I := I10271) (A := A10271) hV10271), trivial⟩, (by omega), (by omega), (by omega), rfl, rfl⟩ dX12_tellQuery_142
                    · skip
                      exact g_vret hk hR ⟨I10262, A10262, L10262, (show Md [4, 6, 7, 8, 9, 11, 12, 13, 17] I I10262 from (Md.tr (Md.tr (Md.tr (Md.tr (Md.up Md.rf rfl) hI6207 rfl) hI6221 rfl) hI9838 rfl) hI10262 rfl)), (show Md [10, 11, 12] A A10262 from (Md.tr (Md.tr (Md.up3 (Md.tr (Md.tr Md.rf hA6207 rfl) hA6221 rfl) rfl) hA9838 rfl) hA10262 rfl)), hV10262, (by rw [show (I10262 4) = (I9838 4) from (hI10262 4 rfl)] <;> omega), (by omega), (by rw [show (I10262 8) = (I9838 8) from (hI10262 8 rfl)] <;> omega), rfl, rfl⟩ dX12_tellQuery_114
            obtain ⟨n10292, n10292a, n10292b⟩ : ∃ n : Nat, 401 - (I6207 4).toInt < (n : Int) ∧ 0 < n := ⟨((401 - (I6207 4).toInt : Int)).toNat + 1, by omega, by omega⟩
            have g10293 : (I6221 15).toInt = (I 15).toInt := by rw [show (I6221 15) = (I 15) from ((hI6221 15 rfl).trans (hI6207 15 rfl))]
            have g10294 : (I6221 16).toInt = (I 16).toInt := by rw [show (I6221 16) = (I 16) from ((hI6221 16 rfl).trans (hI6207 16 rfl))]
            have g10295 := IvM_s10_0 (I := I6221) (A := A6221) hV6221
            have g10296 := IvM_s10_1 (I := I6221) (A := A6221) hV6221
            have q10297 := cl_int (y := y6203) (by omega)
            have g10298 : (A6221 10 0).toInt = (A 10 0).toInt := by rw [show (A6221 10 0) = (A 10 0) from ((congrFun (hA6221 10 rfl) _).trans (congrFun (hA6207 10 rfl) _))]
            have g10299 : (A6221 10 1).toInt = (A 10 1).toInt := by rw [show (A6221 10 1) = (A 10 1) from ((congrFun (hA6221 10 rfl) _).trans (congrFun (hA6207 10 rfl) _))]
            have g10300 : (I6221 6).toInt = (I6207 6).toInt := by rw [show (I6221 6) = (I6207 6) from (hI6221 6 rfl)]
            have q10301 := cl_int (y := y6203) (by omega)
            exact lp10123 n10292 I6221 (up3 A6221 11 (y6203.toNatClampNeg) 0) L6221 Md.rf Md.rf ⟨(IvM_f1 (I := I6221) (A := A6221) hV6221), (IvM_f2 (I := I6221) (A := A6221) hV6221), (IvM_f3 (I := I6221) (A := A6221) hV6221), (IvM_f4 (I := I6221) (A := A6221) hV6221), (IvM_f6 (I := I6221) (A := A6221) hV6221), (IvM_f8 (I := I6221) (A := A6221) hV6221), (IvM_f15 (I := I6221) (A := A6221) hV6221), (IvM_f16 (I := I6221) (A := A6221) hV6221), (IvM_f17 (I := I6221) (A := A6221) hV6221), (IvM_f18 (I := I6221) (A := A6221) hV6221), (IvM_f22 (I := I6221) (A := A6221) hV6221), (IvM_f23 (I := I6221) (A := A6221) hV6221), (IvM_f24 (I := I6221) (A := A6221) hV6221), hA9833, (IvM_a26 (I := I6221) (A := A6221) hV6221), (IvM_s8_0 (I := I6221) (A := A6221) hV6221), (IvM_s8_1 (I := I6221) (A := A6221) hV6221), (IvM_s10_0 (I := I6221) (A := A6221) hV6221), (IvM_s10_1 (I := I6221) (A := A6221) hV6221), (IvM_s17_0 (I := I6221) (A := A6221) hV6221), (IvM_s17_164 (I := I6221) (A := A6221) hV6221), ⟨fun e => by have e : (I6221 15).toInt = 0 := e; first | exact ghf_upd (n := (A6221 10 0)) ((IvM_lv (I := I6221) (A := A6221) hV6221).1 e) (fun q hq => by omega) | (exfalso; omega), fun e => by have e : (I6221 15).toInt = 1 := e; first | exact ghf_upd (n := (A6221 10 1)) ((IvM_lv (I := I6221) (A := A6221) hV6221).2 e) (fun q hq => by omega) | (exfalso; omega)⟩, (by rcases (IvM_sd (I := I6221) (A := A6221) hV6221) with h9 | h9 | h9; exact Or.inl h9; exact Or.inr (Or.inl h9); exact Or.inr (Or.inr ⟨fun e => by have e : (I6221 16).toInt = 0 := e; first | exact ghf_upd (n := (A6221 10 0)) (h9.1 e) (fun q hq => by omega) | (exfalso; omega), fun e => by have e : (I6221 16).toInt = 1 := e; first | exact ghf_upd (n := (A6221 10 1)) (h9.2 e) (fun q hq => by omega) | (exfalso; omega)⟩)), (IvM_nq (I := I6221) (A := A6221) hV6221), (IvM_hr (I := I6221) (A := A6221) hV6221), (IvM_hh (I := I6221) (A := A6221) hV6221), trivial⟩ (by first | (rw [show (I6221 4) = (I6207 4) from (hI6221 4 rfl)] <;> omega) | omega) (by first | (rw [show (I6221 6) = (I6207 6) from (hI6221 6 rfl)] <;> omega) | omega) (by omega) (by first | exact n10292a | (rw [show (I6221 4) = (I6207 4) from (hI6221 4 rfl)] <;> exact n10292a)) n10292b
          · skip
            refine g_aload_n hk dX12_tellQuery_42 rfl ?_
            refine gM_i6 (v := (I6207 6)) hk hin12 (List.mem_cons_of_mem _ (List.mem_append_left _ (List.mem_of_getElem? (i := 16) rfl))) dX12_tellQuery_43 (hI6221 6 rfl) ?_
            refine g_if_ne (tgt := 77) (a := (I6207 6).toInt) hk dX12_tellQuery_46 (by decide) rfl (fun c10302 => ?_) (fun c10302 => ?_)
            · skip
              refine g_aload_n hk dX12_tellQuery_77 rfl ?_
              refine gM_r0_29 hk hin12 (List.mem_cons_of_mem _ (List.mem_append_left _ (List.mem_of_getElem? (i := 9) rfl))) dX12_tellQuery_78 ?_
              refine g_iload_n hk dX12_tellQuery_81 rfl ?_
              refine g_iconst (v := 0) hk dX12_tellQuery_82 (by decide) ?_
              have k10303 : (0 : Int32).toInt = 0 := rfl
              refine sM_11 (j := y6203.toNatClampNeg) hk (vp_in_iff.mpr ⟨by omega, by omega⟩) rfl dX12_tellQuery_83 ?_
              have hA10304 : ∀ j, 0 ≤ ((up3 A6221 11 (y6203.toNatClampNeg) 0) 11 j).toInt ∧ ((up3 A6221 11 (y6203.toNatClampNeg) 0) 11 j).toInt ≤ 16 := ai_st ((IvM_a11 hV6221)) ⟨by omega, by omega⟩
              have f10569 := IvM_f4 hIv
              have f10570 := IvM_f6 hIv
              have f10571 := IvM_f8 hIv
              have lp10575 : ∀ (n10576 : Nat) (I10309 : Nat → Int32) (A10309 : Nat → Nat → Int32) (L10309 : Nat → Nat → Int64), (Md [4, 6, 7, 8, 9, 11, 12, 13] I6221 I10309) → (Md [11, 12] (up3 A6221 11 (y6203.toNatClampNeg) 0) A10309) → (IvM I10309 A10309) → ((I 4).toInt ≤ (I10309 4).toInt) → ((I 6).toInt ≤ (I10309 6).toInt) → ((I 8).toInt ≤ 9 * (I10309 8).toInt) → (401 - (I10309 4).toInt < (n10576 : Int)) → (0 < n10576) → GW κ 4 0 0 (wM r g I10309 A10309 L10309) 84 [(3, .int x6217), (2, .int (I 4)), (1, .int y6203), (0, .ref (r 0))] [] := by
                intro n10576
                induction n10576 with
                | zero =>
                  intro I10309 A10309 L10309 hI10309 hA10309 hV10309 h10572 h10573 h10574 m10577 m10577z
                  exact absurd m10577z (Nat.lt_irrefl 0)
                | succ n10576 ih10578 =>
                  intro I10309 A10309 L10309 hI10309 hA10309 hV10309 h10572 h10573 h10574 m10577 m10577z
                  have f10579 := IvM_f4 hV10309
                  have f10580 := IvM_f6 hV10309
                  have f10581 := IvM_f8 hV10309
                  refine g_aload_n hk dX12_tellQuery_84 rfl ?_
                  refine g_callV (n := 0) hk (j130_X12_isReading l D zt r g I10309 A10309 L10309  hV10309) (SP.same _) (fun _ h => h) (gi_V (List.mem_cons_of_mem _ (List.mem_append_left _ (List.mem_of_getElem? (i := 10) rfl))) (List.mem_cons_of_mem _ (List.mem_append_left _ (List.mem_of_getElem? (i := 11) rfl))) (List.mem_cons_of_mem _ (List.mem_append_left _ (List.mem_of_getElem? (i := 12) rfl))) (List.mem_cons_of_mem _ (List.mem_append_left _ (List.mem_of_getElem? (i := 7) rfl))) (gi_sub (fun w h => (List.mem_cons_of_mem _ (List.mem_append_right _ (List.mem_append_right _ (List.mem_append_right _ (List.mem_append_left _ h)))))) zg_j130_X12_isReading)) rfl rfl rfl (by decide +kernel) ⟨Nat.le_of_ble_eq_true rfl, Nat.le_of_ble_eq_true rfl⟩ 0 rfl rfl rfl rfl (Nat.le_of_ble_eq_true rfl) ⟨Nat.le_of_ble_eq_true rfl, Nat.le_of_ble_eq_true rfl⟩ dX12_tellQuery_85 (fun v ty' w' hp hk' => ?_)
                  rcases hp with ⟨rfl, rfl⟩ | ⟨rfl, rfl⟩
                  · skip
                    show GW κ 4 0 0 (wM r g I10309 A10309 L10309) 88 [(3, .int x6217), (2, .int (I 4)), (1, .int y6203), (0, .ref (r 0))] [.int 0]
                    refine g_if_eq (tgt := 166) (a := 0) hk dX12_tellQuery_88 (by decide) rfl (fun _ => ?_) (fun z9 => absurd (show (0 : Int) = (0 : Int) from by decide) z9)
                    refine g_aload_n hk dX12_tellQuery_166 rfl ?_
                    refine g_iconst (v := 4) hk dX12_tellQuery_167 (by decide) ?_
                    have k10584 : (4 : Int32).toInt = 4 := rfl
                    refine g_callV (n := 1) hk (j125_X12_is l D zt r g I10309 A10309 L10309 4 hV10309) (SP.same _) (fun _ h => h) (gi_V (List.mem_cons_of_mem _ (List.mem_append_left _ (List.mem_of_getElem? (i := 13) rfl))) (List.mem_cons_of_mem _ (List.mem_append_left _ (List.mem_of_getElem? (i := 14) rfl))) (List.mem_cons_of_mem _ (List.mem_append_left _ (List.mem_of_getElem? (i := 15) rfl))) (List.mem_cons_of_mem _ (List.mem_append_left _ (List.mem_of_getElem? (i := 7) rfl))) (gi_sub (fun w h => (List.mem_cons_of_mem _ (List.mem_append_right _ (List.mem_append_right _ (List.mem_append_right _ (List.mem_append_right _ (List.mem_append_left _ h))))))) zg_j125_X12_is)) rfl rfl rfl (by decide +kernel) ⟨Nat.le_of_ble_eq_true rfl, Nat.le_of_ble_eq_true rfl⟩ 0 rfl rfl rfl rfl (Nat.le_of_ble_eq_true rfl) ⟨Nat.le_of_ble_eq_true rfl, Nat.le_of_ble_eq_true rfl⟩ dX12_tellQuery_168 (fun v ty' w' hp hk' => ?_)
                    rcases hp with ⟨c10585, rfl, rfl⟩ | ⟨c10587, rfl, rfl⟩
                    · skip
                      rw [show (A10309 2 (I10309 4).toNatClampNeg) = (A 2 (I10309 4).toNatClampNeg) from ((congrFun (hA10309 2 rfl) _).trans ((congrFun (hA6221 2 rfl) _).trans (congrFun (hA6207 2 rfl) _)))] at c10585
                      show GW κ 4 0 0 (wM r g I10309 A10309 L10309) 171 [(3, .int x6217), (2, .int (I 4)), (1, .int y6203), (0, .ref (r 0))] [.int 0]
                      refine g_if_eq (tgt := 194) (a := 0) hk dX12_tellQuery_171 (by decide) rfl (fun _ => ?_) (fun z9 => absurd (show (0 : Int) = (0 : Int) from by decide) z9)
                      refine g_aload_n hk dX12_tellQuery_194 rfl ?_
                      refine g_iconst (v := 4) hk dX12_tellQuery_195 (by decide) ?_
                      refine g_callV (n := 1) hk (j131_X12_must l D zt r g I10309 A10309 L10309 4 hV10309) (SP.same _) (fun _ h => h) (gi_V (List.mem_cons_of_mem _ (List.mem_append_left _ (List.mem_of_getElem? (i := 4) rfl))) (List.mem_cons_of_mem _ (List.mem_append_left _ (List.mem_of_getElem? (i := 5) rfl))) (List.mem_cons_of_mem _ (List.mem_append_left _ (List.mem_of_getElem? (i := 6) rfl))) (List.mem_cons_of_mem _ (List.mem_append_left _ (List.mem_of_getElem? (i := 7) rfl))) (gi_sub (fun w h => (List.mem_cons_of_mem _ (List.mem_append_right _ (List.mem_append_right _ (List.mem_append_left _ h))))) zg_j131_X12_must)) rfl rfl rfl (by decide +kernel) ⟨Nat.le_of_ble_eq_true rfl, Nat.le_of_ble_eq_true rfl⟩ 0 rfl rfl rfl rfl (Nat.le_of_ble_eq_true rfl) ⟨Nat.le_of_ble_eq_true rfl, Nat.le_of_ble_eq_true rfl⟩ dX12_tellQuery_196 (fun v ty' w' hp hk' => ?_)
                      obtain ⟨I10590, A10590, L10590, hI10590, hA10590, hV10590, r10591, r10592, r10593, r10594, r10595, rfl, rfl⟩ := hp
                      have f10596 := IvM_f4 hV10590
                      have f10597 := IvM_f6 hV10590
                      rw [show (I10590 8) = (I10309 8) from (hI10590 8 rfl)] at r10593
                      rw [show (A10309 2 (I10309 4).toNatClampNeg) = (A 2 (I10309 4).toNatClampNeg) from ((congrFun (hA10309 2 rfl) _).trans ((congrFun (hA6221 2 rfl) _).trans (congrFun (hA6207 2 rfl) _)))] at r10595
                      show GW κ 4 0 0 (wM r g I10590 A10590 L10590) 199 [(3, .int x6217), (2, .int (I 4)), (1, .int y6203), (0, .ref (r 0))] []
                      refine g_aload_n hk dX12_tellQuery_199 rfl ?_
                      refine gM_i6 (v := (I10590 6)) hk hin12 (List.mem_cons_of_mem _ (List.mem_append_left _ (List.mem_of_getElem? (i := 16) rfl))) dX12_tellQuery_200 rfl ?_
                      refine g_if_le (tgt := 207) (a := (I10590 6).toInt) hk dX12_tellQuery_203 (by decide) rfl (fun c10598 => ?_) (fun c10598 => ?_)
                      · skip
                        refine g_aload_n hk dX12_tellQuery_207 rfl ?_
                        refine g_bipush (v := (-2)) hk dX12_tellQuery_208 (by decide) ?_
                        refine pM_i11 hk hin12 (List.mem_cons_of_mem _ (List.mem_append_left _ (List.mem_of_getElem? (i := 0) rfl))) dX12_tellQuery_210 ?_
                        refine g_aload_n hk dX12_tellQuery_213 rfl ?_
                        refine gM_r0_25 hk hin12 (List.mem_cons_of_mem _ (List.mem_append_left _ (List.mem_of_getElem? (i := 17) rfl))) dX12_tellQuery_214 ?_
                        refine g_aload_n hk dX12_tellQuery_217 rfl ?_
                        refine gM_i17 (v := (I 17)) hk hin12 (List.mem_cons_of_mem _ (List.mem_append_left _ (List.mem_of_getElem? (i := 8) rfl))) dX12_tellQuery_218 ((hI10590 17 rfl).trans ((hI10309 17 rfl).trans ((hI6221 17 rfl).trans (hI6207 17 rfl)))) ?_
                        have g10599 : (I10590 16).toInt = (I 16).toInt := by rw [show (I10590 16) = (I 16) from ((hI10590 16 rfl).trans ((hI10309 16 rfl).trans ((hI6221 16 rfl).trans (hI6207 16 rfl))))]
                        have g10600 : (I10590 17).toInt = (I 17).toInt := by rw [show (I10590 17) = (I 17) from ((hI10590 17 rfl).trans ((hI10309 17 rfl).trans ((hI6221 17 rfl).trans (hI6207 17 rfl))))]
                        have g10601 : (A10590 10 0).toInt = (A 10 0).toInt := by rw [show (A10590 10 0) = (A 10 0) from ((congrFun (hA10590 10 rfl) _).trans ((congrFun (hA10309 10 rfl) _).trans ((congrFun (hA6221 10 rfl) _).trans (congrFun (hA6207 10 rfl) _))))]
                        have g10602 : (A10590 10 1).toInt = (A 10 1).toInt := by rw [show (A10590 10 1) = (A 10 1) from ((congrFun (hA10590 10 rfl) _).trans ((congrFun (hA10309 10 rfl) _).trans ((congrFun (hA6221 10 rfl) _).trans (congrFun (hA6207 10 rfl) _))))]
                        have g10603 := (IvM_nq (I := I10590) (A := A10590) hV10590).1 (by omega)
                        refine g_aload_n hk dX12_tellQuery_221 rfl ?_
                        refine gM_r0_8 hk hin12 (List.mem_cons_of_mem _ (List.mem_append_left _ (List.mem_of_getElem? (i := 18) rfl))) dX12_tellQuery_222 ?_
                        refine g_iload_n hk dX12_tellQuery_225 rfl ?_
                        refine lM_5 hk (vp_in_iff.mpr ⟨by omega, by omega⟩) rfl dX12_tellQuery_226 ?_
                        refine g_topl (fun y10604 ey10604 => ?_)
                        refine sM_7 (j := (I 17).toNatClampNeg) hk (vp_in_iff.mpr ⟨by omega, by omega⟩) rfl dX12_tellQuery_227 ?_
                        refine g_aload_n hk dX12_tellQuery_228 rfl ?_
                        refine g_dup hk dX12_tellQuery_229 rfl ?_
                        refine gM_i17 (v := (I 17)) hk hin12 (List.mem_cons_of_mem _ (List.mem_append_left _ (List.mem_of_getElem? (i := 8) rfl))) dX12_tellQuery_230 ((hI10590 17 rfl).trans ((hI10309 17 rfl).trans ((hI6221 17 rfl).trans (hI6207 17 rfl)))) ?_
                        refine g_iconst (v := 1) hk dX12_tellQuery_233 (by decide) ?_
                        refine g_iadd hk dX12_tellQuery_234 ?_
                        refine g_topi (fun y10605 ey10605 => ?_)
                        have hy10605 : y10605.toInt = (I 17).toInt + 1 := i32_add ey10605 rfl rfl (by omega) (by omega)
                        refine pM_i17 hk hin12 (List.mem_cons_of_mem _ (List.mem_append_left _ (List.mem_of_getElem? (i := 8) rfl))) dX12_tellQuery_235 ?_
                        refine g_aload_n hk dX12_tellQuery_238 rfl ?_
                        refine gM_r0_28 hk hin12 (List.mem_cons_of_mem _ (List.mem_append_left _ (List.mem_of_getElem? (i := 2) rfl))) dX12_tellQuery_239 ?_
                        refine g_aload_n hk dX12_tellQuery_242 rfl ?_
                        refine gM_i16 (v := (I 16)) hk hin12 (List.mem_cons_of_mem _ (List.mem_append_left _ (List.mem_of_getElem? (i := 1) rfl))) dX12_tellQuery_243 ((hI10590 16 rfl).trans ((hI10309 16 rfl).trans ((hI6221 16 rfl).trans (hI6207 16 rfl)))) ?_
                        by_cases c10606 : (I 16).toInt = 0
                        · have ec10606 : (I 16) = 0 := Int32.toInt_inj.mp c10606
                          rw [ec10606]
                          show GW κ 4 0 0 (wM r g (upd (upd I10590 11 (-2)) 17 y10605) A10590 (up3L L10590 7 ((I 17).toNatClampNeg) y10604)) 246 [(3, .int x6217), (2, .int (I 4)), (1, .int y6203), (0, .ref (r 0))] [.int 0, .ref (r 11)]
                          refine g_dup2 hk dX12_tellQuery_246 rfl rfl ?_
                          refine lM_10 (v := (A 10 0)) hk (vp_in_iff.mpr ⟨by decide, by decide⟩) ((congrFun (hA10590 10 rfl) _).trans ((congrFun (hA10309 10 rfl) _).trans ((congrFun (hA6221 10 rfl) _).trans (congrFun (hA6207 10 rfl) _)))) dX12_tellQuery_247 ?_
                          refine g_iconst (v := 1) hk dX12_tellQuery_248 (by decide) ?_
                          refine g_iadd hk dX12_tellQuery_249 ?_
                          refine g_topi (fun y10607 ey10607 => ?_)
                          have hy10607 : y10607.toInt = (A 10 0).toInt + 1 := i32_add ey10607 rfl rfl (by omega) (by omega)
                          refine sM_10 (j := 0) hk (vp_in_iff.mpr ⟨by decide, by decide⟩) (by decide) dX12_tellQuery_250 ?_
                          have f10608 := IvM_s10_0 hV10590
                          have f10609 := IvM_s10_1 hV10590
                          have g10610 : (I10590 15).toInt = (I 15).toInt := by rw [show (I10590 15) = (I 15) from ((hI10590 15 rfl).trans ((hI10309 15 rfl).trans ((hI6221 15 rfl).trans (hI6207 15 rfl))))]
                          have g10611 := IvM_s10_0 (I := I10590) (A := A10590) hV10590
                          have g10612 := IvM_s10_1 (I := I10590) (A := A10590) hV10590
                          have g10613 : (I10590 8).toInt = (I10309 8).toInt := by rw [show (I10590 8) = (I10309 8) from (hI10590 8 rfl)]
                          have q10614 := cl_int (y := y6203) (by omega)
                          have g10615 : (A10590 11 y6203.toNatClampNeg).toInt = (A10309 11 y6203.toNatClampNeg).toInt := by rw [show (A10590 11 y6203.toNatClampNeg) = (A10309 11 y6203.toNatClampNeg) from (congrFun (hA10590 11 rfl) _)]
                          have u10616 : (I10309 6).toInt ≠ 0 ∨ (A 2 (I10309 4).toNatClampNeg).toInt ≠ (4 : Int32).toInt := c10585
                          have u10617 : 0 < (I10590 6).toInt ∨ ((I10309 6).toInt = 0 ∧ (A 2 (I10309 4).toNatClampNeg).toInt = (4 : Int32).toInt) := r10595
                          exact g_vret hk hR ⟨(upd (upd I10590 11 (-2)) 17 y10605), (up3 A10590 10 0 y10607), (up3L L10590 7 ((I 17).toNatClampNeg) y10604), (show Md [4, 6, 7, 8, 9, 11, 12, 13, 17] I (upd (upd I10590 11 (-2)) 17 y10605) from (Md.up (Md.up (Md.tr (Md.tr (Md.tr (Md.tr (Md.up Md.rf rfl) hI6207 rfl) hI6221 rfl) hI10309 rfl) hI10590 rfl) rfl) rfl)), (show Md [10, 11, 12] A (up3 A10590 10 0 y10607) from (Md.up3 (Md.tr (Md.tr (Md.up3 (Md.tr (Md.tr Md.rf hA6207 rfl) hA6221 rfl) rfl) hA10309 rfl) hA10590 rfl) rfl)), ⟨(IvM_f1 (I := I10590) (A := A10590) hV10590), (IvM_f2 (I := I10590) (A := A10590) hV10590), (IvM_f3 (I := I10590) (A := A10590) hV10590), (IvM_f4 (I := I10590) (A := A10590) hV10590), (IvM_f6 (I := I10590) (A := A10590) hV10590), (IvM_f8 (I := I10590) (A := A10590) hV10590), (IvM_f15 (I := I10590) (A := A10590) hV10590), (IvM_f16 (I := I10590) (A := A10590) hV10590), (show 0 ≤ y10605.toInt ∧ y10605.toInt ≤ 5 from ⟨by omega, by omega⟩), (IvM_f18 (I := I10590) (A := A10590) hV10590), (IvM_f22 (I := I10590) (A := A10590) hV10590), (IvM_f23 (I := I10590) (A := A10590) hV10590), (IvM_f24 (I := I10590) (A := A10590) hV10590), (IvM_a11 (I := I10590) (A := A10590) hV10590), (IvM_a26 (I := I10590) (A := A10590) hV10590), (IvM_s8_0 (I := I10590) (A := A10590) hV10590), (IvM_s8_1 (I := I10590) (A := A10590) hV10590), (show 0 ≤ ((up3 A10590 10 0 y10607) 10 0).toInt ∧ ((up3 A10590 10 0 y10607) 10 0).toInt ≤ 5 from by rw [show (up3 A10590 10 0 y10607) 10 0 = y10607 from rfl]; exact ⟨by omega, by omega⟩), (show 0 ≤ ((up3 A10590 10 0 y10607) 10 1).toInt ∧ ((up3 A10590 10 0 y10607) 10 1).toInt ≤ 5 from by rw [show (up3 A10590 10 0 y10607) 10 1 = (A10590 10 1) from rfl]; exact (IvM_s10_1 (I := I10590) (A := A10590) hV10590)), (IvM_s17_0 (I := I10590) (A := A10590) hV10590), (IvM_s17_164 (I := I10590) (A := A10590) hV10590), ⟨fun e => by have e : (I10590 15).toInt = 0 := e; first | exact (IvM_lv (I := I10590) (A := A10590) hV10590).1 e | (exfalso; omega), fun e => by have e : (I10590 15).toInt = 1 := e; first | exact (IvM_lv (I := I10590) (A := A10590) hV10590).2 e | (exfalso; omega)⟩, (by first | (exfalso; omega) | (by_cases g8 : (I10590 8).toInt ≠ 0; exact Or.inr (Or.inl g8); rcases (IvM_sd (I := I10590) (A := A10590) hV10590) with h9 | h9 | h9; exact absurd h9 (by omega); exact absurd h9 g8; exact Or.inr (Or.inr ⟨fun e => by have e : (I10590 16).toInt = 0 := e; first | exact ghf_add (n := (A10590 10 0)) (f := (A10590 11)) (n2 := y10607) (p := y6203.toNatClampNeg) (h9.1 e) (by omega) (by omega) (by omega) | (exfalso; omega), fun e => by have e : (I10590 16).toInt = 1 := e; first | exact ghf_add (n := (A10590 10 1)) (f := (A10590 11)) (n2 := y10607) (p := y6203.toNatClampNeg) (h9.2 e) (by omega) (by omega) (by omega) | (exfalso; omega)⟩))), ⟨fun e => by have e : (I10590 16).toInt = 0 := e; first | (exfalso; omega) | (show y10605.toInt = y10607.toInt; omega), fun e => by have e : (I10590 16).toInt = 1 := e; first | (exfalso; omega) | (show y10605.toInt = (A10590 10 1).toInt; omega)⟩, (IvM_hr (I := I10590) (A := A10590) hV10590), (IvM_hh (I := I10590) (A := A10590) hV10590), trivial⟩, (by rw [show ((upd (upd I10590 11 (-2)) 17 y10605) 4) = (I10590 4) from rfl] <;> omega), (by rw [show ((upd (upd I10590 11 (-2)) 17 y10605) 6) = (I10590 6) from rfl] <;> omega), (by rw [show ((upd (upd I10590 11 (-2)) 17 y10605) 8) = (I10309 8) from (hI10590 8 rfl)] <;> omega), rfl, rfl⟩ dX12_tellQuery_251
                        exfalso; omega
                      · skip
                        exact g_vret hk hR ⟨I10590, A10590, L10590, (show Md [4, 6, 7, 8, 9, 11, 12, 13, 17] I I10590 from (Md.tr (Md.tr (Md.tr (Md.tr (Md.up Md.rf rfl) hI6207 rfl) hI6221 rfl) hI10309 rfl) hI10590 rfl)), (show Md [10, 11, 12] A A10590 from (Md.tr (Md.tr (Md.up3 (Md.tr (Md.tr Md.rf hA6207 rfl) hA6221 rfl) rfl) hA10309 rfl) hA10590 rfl)), hV10590, (by omega), (by omega), (by rw [show (I10590 8) = (I10309 8) from (hI10590 8 rfl)] <;> omega), rfl, rfl⟩ dX12_tellQuery_206
                    · skip
                      rw [show (A10309 2 (I10309 4).toNatClampNeg) = (A 2 (I10309 4).toNatClampNeg) from ((congrFun (hA10309 2 rfl) _).trans ((congrFun (hA6221 2 rfl) _).trans (congrFun (hA6207 2 rfl) _)))] at c10587
                      show GW κ 4 0 0 (wM r g I10309 A10309 L10309) 171 [(3, .int x6217), (2, .int (I 4)), (1, .int y6203), (0, .ref (r 0))] [.int 1]
                      refine g_if_eq (tgt := 194) (a := 1) hk dX12_tellQuery_171 (by decide) rfl (fun z9 => absurd z9 (show ¬ ((1 : Int) = (0 : Int)) from by decide)) (fun _ => ?_)
                      refine g_aload_n hk dX12_tellQuery_174 rfl ?_
                      refine gM_r0_29 hk hin12 (List.mem_cons_of_mem _ (List.mem_append_left _ (List.mem_of_getElem? (i := 9) rfl))) dX12_tellQuery_175 ?_
                      refine g_iload_n hk dX12_tellQuery_178 rfl ?_
                      refine lM_11 (v := (A10309 11 y6203.toNatClampNeg)) hk (vp_in_iff.mpr ⟨by omega, by omega⟩) rfl dX12_tellQuery_179 ?_
                      have f10618 := IvM_a11 hV10309 (y6203.toNatClampNeg)
                      refine g_iconst (v := 2) hk dX12_tellQuery_180 (by decide) ?_
                      refine g_icmp_ge (tgt := 194) (a := (A10309 11 y6203.toNatClampNeg).toInt) (b := 2) hk dX12_tellQuery_181 (by decide) rfl rfl (fun c10619 => ?_) (fun c10619 => ?_)
                      · skip
                        refine g_aload_n hk dX12_tellQuery_194 rfl ?_
                        refine g_iconst (v := 4) hk dX12_tellQuery_195 (by decide) ?_
                        refine g_callV (n := 1) hk (j131_X12_must l D zt r g I10309 A10309 L10309 4 hV10309) (SP.same _) (fun _ h => h) (gi_V (List.mem_cons_of_mem _ (List.mem_append_left _ (List.mem_of_getElem? (i := 4) rfl))) (List.mem_cons_of_mem _ (List.mem_append_left _ (List.mem_of_getElem? (i := 5) rfl))) (List.mem_cons_of_mem _ (List.mem_append_left _ (List.mem_of_getElem? (i := 6) rfl))) (List.mem_cons_of_mem _ (List.mem_append_left _ (List.mem_of_getElem? (i := 7) rfl))) (gi_sub (fun w h => (List.mem_cons_of_mem _ (List.mem_append_right _ (List.mem_append_right _ (List.mem_append_left _ h))))) zg_j131_X12_must)) rfl rfl rfl (by decide +kernel) ⟨Nat.le_of_ble_eq_true rfl, Nat.le_of_ble_eq_true rfl⟩ 0 rfl rfl rfl rfl (Nat.le_of_ble_eq_true rfl) ⟨Nat.le_of_ble_eq_true rfl, Nat.le_of_ble_eq_true rfl⟩ dX12_tellQuery_196 (fun v ty' w' hp hk' => ?_)
                        obtain ⟨I10621, A10621, L10621, hI10621, hA10621, hV10621, r10622, r10623, r10624, r10625, r10626, rfl, rfl⟩ := hp
                        have f10627 := IvM_f4 hV10621
                        have f10628 := IvM_f6 hV10621
                        rw [show (I10621 8) = (I10309 8) from (hI10621 8 rfl)] at r10624
                        rw [show (A10309 2 (I10309 4).toNatClampNeg) = (A 2 (I10309 4).toNatClampNeg) from ((congrFun (hA10309 2 rfl) _).trans ((congrFun (hA6221 2 rfl) _).trans (congrFun (hA6207 2 rfl) _)))] at r10626
                        show GW κ 4 0 0 (wM r g I10621 A10621 L10621) 199 [(3, .int x6217), (2, .int (I 4)), (1, .int y6203), (0, .ref (r 0))] []
                        refine g_aload_n hk dX12_tellQuery_199 rfl ?_
                        refine gM_i6 (v := (I10621 6)) hk hin12 (List.mem_cons_of_mem _ (List.mem_append_left _ (List.mem_of_getElem? (i := 16) rfl))) dX12_tellQuery_200 rfl ?_
                        refine g_if_le (tgt := 207) (a := (I10621 6).toInt) hk dX12_tellQuery_203 (by decide) rfl (fun c10629 => ?_) (fun c10629 => ?_)
                        · skip
                          refine g_aload_n hk dX12_tellQuery_207 rfl ?_
                          refine g_bipush (v := (-2)) hk dX12_tellQuery_208 (by decide) ?_
                          refine pM_i11 hk hin12 (List.mem_cons_of_mem _ (List.mem_append_left _ (List.mem_of_getElem? (i := 0) rfl))) dX12_tellQuery_210 ?_
                          refine g_aload_n hk dX12_tellQuery_213 rfl ?_
                          refine gM_r0_25 hk hin12 (List.mem_cons_of_mem _ (List.mem_append_left _ (List.mem_of_getElem? (i := 17) rfl))) dX12_tellQuery_214 ?_
                          refine g_aload_n hk dX12_tellQuery_217 rfl ?_
                          refine gM_i17 (v := (I 17)) hk hin12 (List.mem_cons_of_mem _ (List.mem_append_left _ (List.mem_of_getElem? (i := 8) rfl))) dX12_tellQuery_218 ((hI10621 17 rfl).trans ((hI10309 17 rfl).trans ((hI6221 17 rfl).trans (hI6207 17 rfl)))) ?_
                          have g10630 : (I10621 16).toInt = (I 16).toInt := by rw [show (I10621 16) = (I 16) from ((hI10621 16 rfl).trans ((hI10309 16 rfl).trans ((hI6221 16 rfl).trans (hI6207 16 rfl))))]
                          have g10631 : (I10621 17).toInt = (I 17).toInt := by rw [show (I10621 17) = (I 17) from ((hI10621 17 rfl).trans ((hI10309 17 rfl).trans ((hI6221 17 rfl).trans (hI6207 17 rfl))))]
                          have g10632 : (A10621 10 0).toInt = (A 10 0).toInt := by rw [show (A10621 10 0) = (A 10 0) from ((congrFun (hA10621 10 rfl) _).trans ((congrFun (hA10309 10 rfl) _).trans ((congrFun (hA6221 10 rfl) _).trans (congrFun (hA6207 10 rfl) _))))]
                          have g10633 : (A10621 10 1).toInt = (A 10 1).toInt := by rw [show (A10621 10 1) = (A 10 1) from ((congrFun (hA10621 10 rfl) _).trans ((congrFun (hA10309 10 rfl) _).trans ((congrFun (hA6221 10 rfl) _).trans (congrFun (hA6207 10 rfl) _))))]
                          have g10634 := (IvM_nq (I := I10621) (A := A10621) hV10621).1 (by omega)
                          refine g_aload_n hk dX12_tellQuery_221 rfl ?_
                          refine gM_r0_8 hk hin12 (List.mem_cons_of_mem _ (List.mem_append_left _ (List.mem_of_getElem? (i := 18) rfl))) dX12_tellQuery_222 ?_
                          refine g_iload_n hk dX12_tellQuery_225 rfl ?_
                          refine lM_5 hk (vp_in_iff.mpr ⟨by omega, by omega⟩) rfl dX12_tellQuery_226 ?_
                          refine g_topl (fun y10635 ey10635 => ?_)
                          refine sM_7 (j := (I 17).toNatClampNeg) hk (vp_in_iff.mpr ⟨by omega, by omega⟩) rfl dX12_tellQuery_227 ?_
                          refine g_aload_n hk dX12_tellQuery_228 rfl ?_
                          refine g_dup hk dX12_tellQuery_229 rfl ?_
                          refine gM_i17 (v := (I 17)) hk hin12 (List.mem_cons_of_mem _ (List.mem_append_left _ (List.mem_of_getElem? (i := 8) rfl))) dX12_tellQuery_230 ((hI10621 17 rfl).trans ((hI10309 17 rfl).trans ((hI6221 17 rfl).trans (hI6207 17 rfl)))) ?_
                          refine g_iconst (v := 1) hk dX12_tellQuery_233 (by decide) ?_
                          refine g_iadd hk dX12_tellQuery_234 ?_
                          refine g_topi (fun y10636 ey10636 => ?_)
                          have hy10636 : y10636.toInt = (I 17).toInt + 1 := i32_add ey10636 rfl rfl (by omega) (by omega)
                          refine pM_i17 hk hin12 (List.mem_cons_of_mem _ (List.mem_append_left _ (List.mem_of_getElem? (i := 8) rfl))) dX12_tellQuery_235 ?_
                          refine g_aload_n hk dX12_tellQuery_238 rfl ?_
                          refine gM_r0_28 hk hin12 (List.mem_cons_of_mem _ (List.mem_append_left _ (List.mem_of_getElem? (i := 2) rfl))) dX12_tellQuery_239 ?_
                          refine g_aload_n hk dX12_tellQuery_242 rfl ?_
                          refine gM_i16 (v := (I 16)) hk hin12 (List.mem_cons_of_mem _ (List.mem_append_left _ (List.mem_of_getElem? (i := 1) rfl))) dX12_tellQuery_243 ((hI10621 16 rfl).trans ((hI10309 16 rfl).trans ((hI6221 16 rfl).trans (hI6207 16 rfl)))) ?_
                          by_cases c10637 : (I 16).toInt = 0
                          · have ec10637 : (I 16) = 0 := Int32.toInt_inj.mp c10637
                            rw [ec10637]
                            show GW κ 4 0 0 (wM r g (upd (upd I10621 11 (-2)) 17 y10636) A10621 (up3L L10621 7 ((I 17).toNatClampNeg) y10635)) 246 [(3, .int x6217), (2, .int (I 4)), (1, .int y6203), (0, .ref (r 0))] [.int 0, .ref (r 11)]
                            refine g_dup2 hk dX12_tellQuery_246 rfl rfl ?_
                            refine lM_10 (v := (A 10 0)) hk (vp_in_iff.mpr ⟨by decide, by decide⟩) ((congrFun (hA10621 10 rfl) _).trans ((congrFun (hA10309 10 rfl) _).trans ((congrFun (hA6221 10 rfl) _).trans (congrFun (hA6207 10 rfl) _)))) dX12_tellQuery_247 ?_
                            refine g_iconst (v := 1) hk dX12_tellQuery_248 (by decide) ?_
                            refine g_iadd hk dX12_tellQuery_249 ?_
                            refine g_topi (fun y10638 ey10638 => ?_)
                            have hy10638 : y10638.toInt = (A 10 0).toInt + 1 := i32_add ey10638 rfl rfl (by omega) (by omega)
                            refine sM_10 (j := 0) hk (vp_in_iff.mpr ⟨by decide, by decide⟩) (by decide) dX12_tellQuery_250 ?_
                            have f10639 := IvM_s10_0 hV10621
                            have f10640 := IvM_s10_1 hV10621
                            have g10641 : (I10621 15).toInt = (I 15).toInt := by rw [show (I10621 15) = (I 15) from ((hI10621 15 rfl).trans ((hI10309 15 rfl).trans ((hI6221 15 rfl).trans (hI6207 15 rfl))))]
                            have g10642 := IvM_s10_0 (I := I10621) (A := A10621) hV10621
                            have g10643 := IvM_s10_1 (I := I10621) (A := A10621) hV10621
                            have g10644 : (I10621 8).toInt = (I10309 8).toInt := by rw [show (I10621 8) = (I10309 8) from (hI10621 8 rfl)]
                            have q10645 := cl_int (y := y6203) (by omega)
                            have g10646 : (A10621 11 y6203.toNatClampNeg).toInt = (A10309 11 y6203.toNatClampNeg).toInt := by rw [show (A10621 11 y6203.toNatClampNeg) = (A10309 11 y6203.toNatClampNeg) from (congrFun (hA10621 11 rfl) _)]
                            have u10647 : 0 < (I6207 6).toInt ∨ ((I 6).toInt = 0 ∧ (A 2 (I 4).toNatClampNeg).toInt = (1 : Int32).toInt) := r6212
                            have u10648 : 0 < (I10621 6).toInt ∨ ((I10309 6).toInt = 0 ∧ (A 2 (I10309 4).toNatClampNeg).toInt = (4 : Int32).toInt) := r10626
                            exact g_vret hk hR ⟨(upd (upd I10621 11 (-2)) 17 y10636), (up3 A10621 10 0 y10638), (up3L L10621 7 ((I 17).toNatClampNeg) y10635), (show Md [4, 6, 7, 8, 9, 11, 12, 13, 17] I (upd (upd I10621 11 (-2)) 17 y10636) from (Md.up (Md.up (Md.tr (Md.tr (Md.tr (Md.tr (Md.up Md.rf rfl) hI6207 rfl) hI6221 rfl) hI10309 rfl) hI10621 rfl) rfl) rfl)), (show Md [10, 11, 12] A (up3 A10621 10 0 y10638) from (Md.up3 (Md.tr (Md.tr (Md.up3 (Md.tr (Md.tr Md.rf hA6207 rfl) hA6221 rfl) rfl) hA10309 rfl) hA10621 rfl) rfl)), ⟨(IvM_f1 (I := I10621) (A := A10621) hV10621), (IvM_f2 (I := I10621) (A := A10621) hV10621), (IvM_f3 (I := I10621) (A := A10621) hV10621), (IvM_f4 (I := I10621) (A := A10621) hV10621), (IvM_f6 (I := I10621) (A := A10621) hV10621), (IvM_f8 (I := I10621) (A := A10621) hV10621), (IvM_f15 (I := I10621) (A := A10621) hV10621), (IvM_f16 (I := I10621) (A := A10621) hV10621), (show 0 ≤ y10636.toInt ∧ y10636.toInt ≤ 5 from ⟨by omega, by omega⟩), (IvM_f18 (I := I10621) (A := A10621) hV10621), (IvM_f22 (I := I10621) (A := A10621) hV10621), (IvM_f23 (I := I10621) (A := A10621) hV10621), (IvM_f24 (I := I10621) (A := A10621) hV10621), (IvM_a11 (I := I10621) (A := A10621) hV10621), (IvM_a26 (I := I10621) (A := A10621) hV10621), (IvM_s8_0 (I := I10621) (A := A10621) hV10621), (IvM_s8_1 (I := I10621) (A := A10621) hV10621), (show 0 ≤ ((up3 A10621 10 0 y10638) 10 0).toInt ∧ ((up3 A10621 10 0 y10638) 10 0).toInt ≤ 5 from by rw [show (up3 A10621 10 0 y10638) 10 0 = y10638 from rfl]; exact ⟨by omega, by omega⟩), (show 0 ≤ ((up3 A10621 10 0 y10638) 10 1).toInt ∧ ((up3 A10621 10 0 y10638) 10 1).toInt ≤ 5 from by rw [show (up3 A10621 10 0 y10638) 10 1 = (A10621 10 1) from rfl]; exact (IvM_s10_1 (I := I10621) (A := A10621) hV10621)), (IvM_s17_0 (I := I10621) (A := A10621) hV10621), (IvM_s17_164 (I := I10621) (A := A10621) hV10621), ⟨fun e => by have e : (I10621 15).toInt = 0 := e; first | exact (IvM_lv (I := I10621) (A := A10621) hV10621).1 e | (exfalso; omega), fun e => by have e : (I10621 15).toInt = 1 := e; first | exact (IvM_lv (I := I10621) (A := A10621) hV10621).2 e | (exfalso; omega)⟩, (by first | (exfalso; omega) | (by_cases g8 : (I10621 8).toInt ≠ 0; exact Or.inr (Or.inl g8); rcases (IvM_sd (I := I10621) (A := A10621) hV10621) with h9 | h9 | h9; exact absurd h9 (by omega); exact absurd h9 g8; exact Or.inr (Or.inr ⟨fun e => by have e : (I10621 16).toInt = 0 := e; first | exact ghf_add (n := (A10621 10 0)) (f := (A10621 11)) (n2 := y10638) (p := y6203.toNatClampNeg) (h9.1 e) (by omega) (by omega) (by omega) | (exfalso; omega), fun e => by have e : (I10621 16).toInt = 1 := e; first | exact ghf_add (n := (A10621 10 1)) (f := (A10621 11)) (n2 := y10638) (p := y6203.toNatClampNeg) (h9.2 e) (by omega) (by omega) (by omega) | (exfalso; omega)⟩))), ⟨fun e => by have e : (I10621 16).toInt = 0 := e; first | (exfalso; omega) | (show y10636.toInt = y10638.toInt; omega), fun e => by have e : (I10621 16).toInt = 1 := e; first | (exfalso; omega) | (show y10636.toInt = (A10621 10 1).toInt; omega)⟩, (IvM_hr (I := I10621) (A := A10621) hV10621), (IvM_hh (I := I10621) (A := A10621) hV10621), trivial⟩, (by rw [show ((upd (upd I10621 11 (-2)) 17 y10636) 4) = (I10621 4) from rfl] <;> omega), (by rw [show ((upd (upd I10621 11 (-2)) 17 y10636) 6) = (I10621 6) from rfl] <;> omega), (by rw [show ((upd (upd I10621 11 (-2)) 17 y10636) 8) = (I10309 8) from (hI10621 8 rfl)] <;> omega), rfl, rfl⟩ dX12_tellQuery_251
                          exfalso; omega
                        · skip
                          exact g_vret hk hR ⟨I10621, A10621, L10621, (show Md [4, 6, 7, 8, 9, 11, 12, 13, 17] I I10621 from (Md.tr (Md.tr (Md.tr (Md.tr (Md.up Md.rf rfl) hI6207 rfl) hI6221 rfl) hI10309 rfl) hI10621 rfl)), (show Md [10, 11, 12] A A10621 from (Md.tr (Md.tr (Md.up3 (Md.tr (Md.tr Md.rf hA6207 rfl) hA6221 rfl) rfl) hA10309 rfl) hA10621 rfl)), hV10621, (by omega), (by omega), (by rw [show (I10621 8) = (I10309 8) from (hI10621 8 rfl)] <;> omega), rfl, rfl⟩ dX12_tellQuery_206
                      · skip
                        refine g_aload_n hk dX12_tellQuery_184 rfl ?_
                        refine g_bipush (v := 6) hk dX12_tellQuery_185 (by decide) ?_
                        refine g_aload_n hk dX12_tellQuery_187 rfl ?_
                        refine gM_i4 (v := (I10309 4)) hk hin12 (List.mem_cons_of_mem _ (List.mem_append_left _ (List.mem_of_getElem? (i := 3) rfl))) dX12_tellQuery_188 rfl ?_
                        have k10649 : (6 : Int32).toInt = 6 := rfl
                        refine g_callV (n := 2) hk (j134_X12_wrong l D zt r g I10309 A10309 L10309 6 (I10309 4) hV10309 (by decide) (by decide) (by omega) (by omega)) (SP.same _) (fun _ h => h) (gi_V (List.mem_cons_of_mem _ (List.mem_append_left _ (List.mem_of_getElem? (i := 19) rfl))) (List.mem_cons_of_mem _ (List.mem_append_left _ (List.mem_of_getElem? (i := 20) rfl))) (List.mem_cons_of_mem _ (List.mem_append_left _ (List.mem_of_getElem? (i := 21) rfl))) (List.mem_cons_of_mem _ (List.mem_append_left _ (List.mem_of_getElem? (i := 7) rfl))) (gi_sub (fun w h => (List.mem_cons_of_mem _ (List.mem_append_right _ (List.mem_append_right _ (List.mem_append_right _ (List.mem_append_right _ (List.mem_append_right _ (List.mem_append_left _ h)))))))) zg_j134_X12_wrong)) rfl rfl rfl (by decide +kernel) ⟨Nat.le_of_ble_eq_true rfl, Nat.le_of_ble_eq_true rfl⟩ 0 rfl rfl rfl rfl (Nat.le_of_ble_eq_true rfl) ⟨Nat.le_of_ble_eq_true rfl, Nat.le_of_ble_eq_true rfl⟩ dX12_tellQuery_191 (fun v ty' w' hp hk' => ?_)
                        obtain ⟨I10651, A10651, L10651, hI10651, hA10651, hV10651, r10652, r10653, r10654, rfl, rfl⟩ := hp
                        rw [show (I10651 6) = (I10309 6) from (hI10651 6 rfl)] at r10652
                        have f10655 := IvM_f8 hV10651
                        rw [show (I10651 6) = (I10309 6) from (hI10651 6 rfl)] at r10654
                        show GW κ 4 0 0 (wM r g I10651 A10651 L10651) 194 [(3, .int x6217), (2, .int (I 4)), (1, .int y6203), (0, .ref (r 0))] []
                        refine g_aload_n hk dX12_tellQuery_194 rfl ?_
                        refine g_iconst (v := 4) hk dX12_tellQuery_195 (by decide) ?_
                        refine g_callV (n := 1) hk (j131_X12_must l D zt r g I10651 A10651 L10651 4 hV10651) (SP.same _) (fun _ h => h) (gi_V (List.mem_cons_of_mem _ (List.mem_append_left _ (List.mem_of_getElem? (i := 4) rfl))) (List.mem_cons_of_mem _ (List.mem_append_left _ (List.mem_of_getElem? (i := 5) rfl))) (List.mem_cons_of_mem _ (List.mem_append_left _ (List.mem_of_getElem? (i := 6) rfl))) (List.mem_cons_of_mem _ (List.mem_append_left _ (List.mem_of_getElem? (i := 7) rfl))) (gi_sub (fun w h => (List.mem_cons_of_mem _ (List.mem_append_right _ (List.mem_append_right _ (List.mem_append_left _ h))))) zg_j131_X12_must)) rfl rfl rfl (by decide +kernel) ⟨Nat.le_of_ble_eq_true rfl, Nat.le_of_ble_eq_true rfl⟩ 0 rfl rfl rfl rfl (Nat.le_of_ble_eq_true rfl) ⟨Nat.le_of_ble_eq_true rfl, Nat.le_of_ble_eq_true rfl⟩ dX12_tellQuery_196 (fun v ty' w' hp hk' => ?_)
                        obtain ⟨I10657, A10657, L10657, hI10657, hA10657, hV10657, r10658, r10659, r10660, r10661, r10662, rfl, rfl⟩ := hp
                        have f10663 := IvM_f4 hV10657
                        rw [show (I10651 4) = (I10309 4) from (hI10651 4 rfl)] at r10658
                        have f10664 := IvM_f6 hV10657
                        rw [show (I10651 6) = (I10309 6) from (hI10651 6 rfl)] at r10659
                        rw [show (I10657 8) = (I10651 8) from (hI10657 8 rfl)] at r10660
                        rw [show (I10651 4) = (I10309 4) from (hI10651 4 rfl)] at r10661
                        rw [show (I10651 6) = (I10309 6) from (hI10651 6 rfl), show (A10651 2 (I10651 4).toNatClampNeg) = (A 2 (I10309 4).toNatClampNeg) from (by rw [show I10651 4 = (I10309 4) from (hI10651 4 rfl)]; exact ((congrFun (hA10651 2 rfl) _).trans ((congrFun (hA10309 2 rfl) _).trans ((congrFun (hA6221 2 rfl) _).trans (congrFun (hA6207 2 rfl) _)))))] at r10662
                        show GW κ 4 0 0 (wM r g I10657 A10657 L10657) 199 [(3, .int x6217), (2, .int (I 4)), (1, .int y6203), (0, .ref (r 0))] []
                        refine g_aload_n hk dX12_tellQuery_199 rfl ?_
                        refine gM_i6 (v := (I10657 6)) hk hin12 (List.mem_cons_of_mem _ (List.mem_append_left _ (List.mem_of_getElem? (i := 16) rfl))) dX12_tellQuery_200 rfl ?_
                        refine g_if_le (tgt := 207) (a := (I10657 6).toInt) hk dX12_tellQuery_203 (by decide) rfl (fun c10665 => ?_) (fun c10665 => ?_)
                        · skip
                          refine g_aload_n hk dX12_tellQuery_207 rfl ?_
                          refine g_bipush (v := (-2)) hk dX12_tellQuery_208 (by decide) ?_
                          refine pM_i11 hk hin12 (List.mem_cons_of_mem _ (List.mem_append_left _ (List.mem_of_getElem? (i := 0) rfl))) dX12_tellQuery_210 ?_
                          refine g_aload_n hk dX12_tellQuery_213 rfl ?_
                          refine gM_r0_25 hk hin12 (List.mem_cons_of_mem _ (List.mem_append_left _ (List.mem_of_getElem? (i := 17) rfl))) dX12_tellQuery_214 ?_
                          refine g_aload_n hk dX12_tellQuery_217 rfl ?_
                          refine gM_i17 (v := (I 17)) hk hin12 (List.mem_cons_of_mem _ (List.mem_append_left _ (List.mem_of_getElem? (i := 8) rfl))) dX12_tellQuery_218 ((hI10657 17 rfl).trans ((hI10651 17 rfl).trans ((hI10309 17 rfl).trans ((hI6221 17 rfl).trans (hI6207 17 rfl))))) ?_
                          have g10666 : (I10657 16).toInt = (I 16).toInt := by rw [show (I10657 16) = (I 16) from ((hI10657 16 rfl).trans ((hI10651 16 rfl).trans ((hI10309 16 rfl).trans ((hI6221 16 rfl).trans (hI6207 16 rfl)))))]
                          have g10667 : (I10657 17).toInt = (I 17).toInt := by rw [show (I10657 17) = (I 17) from ((hI10657 17 rfl).trans ((hI10651 17 rfl).trans ((hI10309 17 rfl).trans ((hI6221 17 rfl).trans (hI6207 17 rfl)))))]
                          have g10668 : (A10657 10 0).toInt = (A 10 0).toInt := by rw [show (A10657 10 0) = (A 10 0) from ((congrFun (hA10657 10 rfl) _).trans ((congrFun (hA10651 10 rfl) _).trans ((congrFun (hA10309 10 rfl) _).trans ((congrFun (hA6221 10 rfl) _).trans (congrFun (hA6207 10 rfl) _)))))]
                          have g10669 : (A10657 10 1).toInt = (A 10 1).toInt := by rw [show (A10657 10 1) = (A 10 1) from ((congrFun (hA10657 10 rfl) _).trans ((congrFun (hA10651 10 rfl) _).trans ((congrFun (hA10309 10 rfl) _).trans ((congrFun (hA6221 10 rfl) _).trans (congrFun (hA6207 10 rfl) _)))))]
                          have g10670 := (IvM_nq (I := I10657) (A := A10657) hV10657).1 (by omega)
                          refine g_aload_n hk dX12_tellQuery_221 rfl ?_
                          refine gM_r0_8 hk hin12 (List.mem_cons_of_mem _ (List.mem_append_left _ (List.mem_of_getElem? (i := 18) rfl))) dX12_tellQuery_222 ?_
                          refine g_iload_n hk dX12_tellQuery_225 rfl ?_
                          refine lM_5 hk (vp_in_iff.mpr ⟨by omega, by omega⟩) rfl dX12_tellQuery_226 ?_
                          refine g_topl (fun y10671 ey10671 => ?_)
                          refine sM_7 (j := (I 17).toNatClampNeg) hk (vp_in_iff.mpr ⟨by omega, by omega⟩) rfl dX12_tellQuery_227 ?_
                          refine g_aload_n hk dX12_tellQuery_228 rfl ?_
                          refine g_dup hk dX12_tellQuery_229 rfl ?_
                          refine gM_i17 (v := (I 17)) hk hin12 (List.mem_cons_of_mem _ (List.mem_append_left _ (List.mem_of_getElem? (i := 8) rfl))) dX12_tellQuery_230 ((hI10657 17 rfl).trans ((hI10651 17 rfl).trans ((hI10309 17 rfl).trans ((hI6221 17 rfl).trans (hI6207 17 rfl))))) ?_
                          refine g_iconst (v := 1) hk dX12_tellQuery_233 (by decide) ?_
                          refine g_iadd hk dX12_tellQuery_234 ?_
                          refine g_topi (fun y10672 ey10672 => ?_)
                          have hy10672 : y10672.toInt = (I 17).toInt + 1 := i32_add ey10672 rfl rfl (by omega) (by omega)
                          refine pM_i17 hk hin12 (List.mem_cons_of_mem _ (List.mem_append_left _ (List.mem_of_getElem? (i := 8) rfl))) dX12_tellQuery_235 ?_
                          refine g_aload_n hk dX12_tellQuery_238 rfl ?_
                          refine gM_r0_28 hk hin12 (List.mem_cons_of_mem _ (List.mem_append_left _ (List.mem_of_getElem? (i := 2) rfl))) dX12_tellQuery_239 ?_
                          refine g_aload_n hk dX12_tellQuery_242 rfl ?_
                          refine gM_i16 (v := (I 16)) hk hin12 (List.mem_cons_of_mem _ (List.mem_append_left _ (List.mem_of_getElem? (i := 1) rfl))) dX12_tellQuery_243 ((hI10657 16 rfl).trans ((hI10651 16 rfl).trans ((hI10309 16 rfl).trans ((hI6221 16 rfl).trans (hI6207 16 rfl))))) ?_
                          by_cases c10673 : (I 16).toInt = 0
                          · have ec10673 : (I 16) = 0 := Int32.toInt_inj.mp c10673
                            rw [ec10673]
                            show GW κ 4 0 0 (wM r g (upd (upd I10657 11 (-2)) 17 y10672) A10657 (up3L L10657 7 ((I 17).toNatClampNeg) y10671)) 246 [(3, .int x6217), (2, .int (I 4)), (1, .int y6203), (0, .ref (r 0))] [.int 0, .ref (r 11)]
                            refine g_dup2 hk dX12_tellQuery_246 rfl rfl ?_
                            refine lM_10 (v := (A 10 0)) hk (vp_in_iff.mpr ⟨by decide, by decide⟩) ((congrFun (hA10657 10 rfl) _).trans ((congrFun (hA10651 10 rfl) _).trans ((congrFun (hA10309 10 rfl) _).trans ((congrFun (hA6221 10 rfl) _).trans (congrFun (hA6207 10 rfl) _))))) dX12_tellQuery_247 ?_
                            refine g_iconst (v := 1) hk dX12_tellQuery_248 (by decide) ?_
                            refine g_iadd hk dX12_tellQuery_249 ?_
                            refine g_topi (fun y10674 ey10674 => ?_)
                            have hy10674 : y10674.toInt = (A 10 0).toInt + 1 := i32_add ey10674 rfl rfl (by omega) (by omega)
                            refine sM_10 (j := 0) hk (vp_in_iff.mpr ⟨by decide, by decide⟩) (by decide) dX12_tellQuery_250 ?_
                            have f10675 := IvM_s10_0 hV10657
                            have f10676 := IvM_s10_1 hV10657
                            have g10677 : (I10657 15).toInt = (I 15).toInt := by rw [show (I10657 15) = (I 15) from ((hI10657 15 rfl).trans ((hI10651 15 rfl).trans ((hI10309 15 rfl).trans ((hI6221 15 rfl).trans (hI6207 15 rfl)))))]
                            have g10678 := IvM_s10_0 (I := I10657) (A := A10657) hV10657
                            have g10679 := IvM_s10_1 (I := I10657) (A := A10657) hV10657
                            have g10680 : (I10657 8).toInt = (I10651 8).toInt := by rw [show (I10657 8) = (I10651 8) from (hI10657 8 rfl)]
                            have q10681 := cl_int (y := y6203) (by omega)
                            have g10682 : (A10657 11 y6203.toNatClampNeg).toInt = (A10309 11 y6203.toNatClampNeg).toInt := by rw [show (A10657 11 y6203.toNatClampNeg) = (A10309 11 y6203.toNatClampNeg) from ((congrFun (hA10657 11 rfl) _).trans (congrFun (hA10651 11 rfl) _))]
                            have u10683 : 0 < (I6207 6).toInt ∨ ((I 6).toInt = 0 ∧ (A 2 (I 4).toNatClampNeg).toInt = (1 : Int32).toInt) := r6212
                            have u10684 : 0 < (I10657 6).toInt ∨ ((I10309 6).toInt = 0 ∧ (A 2 (I10309 4).toNatClampNeg).toInt = (4 : Int32).toInt) := r10662
                            exact g_vret hk hR ⟨(upd (upd I10657 11 (-2)) 17 y10672), (up3 A10657 10 0 y10674), (up3L L10657 7 ((I 17).toNatClampNeg) y10671), (show Md [4, 6, 7, 8, 9, 11, 12, 13, 17] I (upd (upd I10657 11 (-2)) 17 y10672) from (Md.up (Md.up (Md.tr (Md.tr (Md.tr (Md.tr (Md.tr (Md.up Md.rf rfl) hI6207 rfl) hI6221 rfl) hI10309 rfl) hI10651 rfl) hI10657 rfl) rfl) rfl)), (show Md [10, 11, 12] A (up3 A10657 10 0 y10674) from (Md.up3 (Md.tr (Md.tr (Md.tr (Md.up3 (Md.tr (Md.tr Md.rf hA6207 rfl) hA6221 rfl) rfl) hA10309 rfl) hA10651 rfl) hA10657 rfl) rfl)), ⟨(IvM_f1 (I := I10657) (A := A10657) hV10657), (IvM_f2 (I := I10657) (A := A10657) hV10657), (IvM_f3 (I := I10657) (A := A10657) hV10657), (IvM_f4 (I := I10657) (A := A10657) hV10657), (IvM_f6 (I := I10657) (A := A10657) hV10657), (IvM_f8 (I := I10657) (A := A10657) hV10657), (IvM_f15 (I := I10657) (A := A10657) hV10657), (IvM_f16 (I := I10657) (A := A10657) hV10657), (show 0 ≤ y10672.toInt ∧ y10672.toInt ≤ 5 from ⟨by omega, by omega⟩), (IvM_f18 (I := I10657) (A := A10657) hV10657), (IvM_f22 (I := I10657) (A := A10657) hV10657), (IvM_f23 (I := I10657) (A := A10657) hV10657), (IvM_f24 (I := I10657) (A := A10657) hV10657), (IvM_a11 (I := I10657) (A := A10657) hV10657), (IvM_a26 (I := I10657) (A := A10657) hV10657), (IvM_s8_0 (I := I10657) (A := A10657) hV10657), (IvM_s8_1 (I := I10657) (A := A10657) hV10657), (show 0 ≤ ((up3 A10657 10 0 y10674) 10 0).toInt ∧ ((up3 A10657 10 0 y10674) 10 0).toInt ≤ 5 from by rw [show (up3 A10657 10 0 y10674) 10 0 = y10674 from rfl]; exact ⟨by omega, by omega⟩), (show 0 ≤ ((up3 A10657 10 0 y10674) 10 1).toInt ∧ ((up3 A10657 10 0 y10674) 10 1).toInt ≤ 5 from by rw [show (up3 A10657 10 0 y10674) 10 1 = (A10657 10 1) from rfl]; exact (IvM_s10_1 (I := I10657) (A := A10657) hV10657)), (IvM_s17_0 (I := I10657) (A := A10657) hV10657), (IvM_s17_164 (I := I10657) (A := A10657) hV10657), ⟨fun e => by have e : (I10657 15).toInt = 0 := e; first | exact (IvM_lv (I := I10657) (A := A10657) hV10657).1 e | (exfalso; omega), fun e => by have e : (I10657 15).toInt = 1 := e; first | exact (IvM_lv (I := I10657) (A := A10657) hV10657).2 e | (exfalso; omega)⟩, (by first | (exfalso; omega) | (by_cases g8 : (I10657 8).toInt ≠ 0; exact Or.inr (Or.inl g8); rcases (IvM_sd (I := I10657) (A := A10657) hV10657) with h9 | h9 | h9; exact absurd h9 (by omega); exact absurd h9 g8; exact Or.inr (Or.inr ⟨fun e => by have e : (I10657 16).toInt = 0 := e; first | exact ghf_add (n := (A10657 10 0)) (f := (A10657 11)) (n2 := y10674) (p := y6203.toNatClampNeg) (h9.1 e) (by omega) (by omega) (by omega) | (exfalso; omega), fun e => by have e : (I10657 16).toInt = 1 := e; first | exact ghf_add (n := (A10657 10 1)) (f := (A10657 11)) (n2 := y10674) (p := y6203.toNatClampNeg) (h9.2 e) (by omega) (by omega) (by omega) | (exfalso; omega)⟩))), ⟨fun e => by have e : (I10657 16).toInt = 0 := e; first | (exfalso; omega) | (show y10672.toInt = y10674.toInt; omega), fun e => by have e : (I10657 16).toInt = 1 := e; first | (exfalso; omega) | (show y10672.toInt = (A10657 10 1).toInt; omega)⟩, (IvM_hr (I := I10657) (A := A10657) hV10657), (IvM_hh (I := I10657) (A := A10657) hV10657), trivial⟩, (by rw [show ((upd (upd I10657 11 (-2)) 17 y10672) 4) = (I10657 4) from rfl] <;> omega), (by rw [show ((upd (upd I10657 11 (-2)) 17 y10672) 6) = (I10657 6) from rfl] <;> omega), (by rw [show ((upd (upd I10657 11 (-2)) 17 y10672) 8) = (I10651 8) from (hI10657 8 rfl)] <;> omega), rfl, rfl⟩ dX12_tellQuery_251
                          exfalso; omega
                        · skip
                          exact g_vret hk hR ⟨I10657, A10657, L10657, (show Md [4, 6, 7, 8, 9, 11, 12, 13, 17] I I10657 from (Md.tr (Md.tr (Md.tr (Md.tr (Md.tr (Md.up Md.rf rfl) hI6207 rfl) hI6221 rfl) hI10309 rfl) hI10651 rfl) hI10657 rfl)), (show Md [10, 11, 12] A A10657 from (Md.tr (Md.tr (Md.tr (Md.up3 (Md.tr (Md.tr Md.rf hA6207 rfl) hA6221 rfl) rfl) hA10309 rfl) hA10651 rfl) hA10657 rfl)), hV10657, (by omega), (by omega), (by rw [show (I10657 8) = (I10651 8) from (hI10657 8 rfl)] <;> omega), rfl, rfl⟩ dX12_tellQuery_206
                  · skip
                    show GW κ 4 0 0 (wM r g I10309 A10309 L10309) 88 [(3, .int x6217), (2, .int (I 4)), (1, .int y6203), (0, .ref (r 0))] [.int 1]
                    refine g_if_eq (tgt := 166) (a := 1) hk dX12_tellQuery_88 (by decide) rfl (fun z9 => absurd z9 (show ¬ ((1 : Int) = (0 : Int)) from by decide)) (fun _ => ?_)
                    refine g_aload_n hk dX12_tellQuery_91 rfl ?_
                    refine gM_r0_29 hk hin12 (List.mem_cons_of_mem _ (List.mem_append_left _ (List.mem_of_getElem? (i := 9) rfl))) dX12_tellQuery_92 ?_
                    refine g_iload_n hk dX12_tellQuery_95 rfl ?_
                    refine lM_11 (v := (A10309 11 y6203.toNatClampNeg)) hk (vp_in_iff.mpr ⟨by omega, by omega⟩) rfl dX12_tellQuery_96 ?_
                    have f10685 := IvM_a11 hV10309 (y6203.toNatClampNeg)
                    refine g_bipush (v := 16) hk dX12_tellQuery_97 (by decide) ?_
                    refine g_icmp_ne (tgt := 107) (a := (A10309 11 y6203.toNatClampNeg).toInt) (b := 16) hk dX12_tellQuery_99 (by decide) rfl rfl (fun c10686 => ?_) (fun c10686 => ?_)
                    · skip
                      refine g_aload_n hk dX12_tellQuery_107 rfl ?_
                      refine gM_i6 (v := (I10309 6)) hk hin12 (List.mem_cons_of_mem _ (List.mem_append_left _ (List.mem_of_getElem? (i := 16) rfl))) dX12_tellQuery_108 rfl ?_
                      refine g_if_le (tgt := 115) (a := (I10309 6).toInt) hk dX12_tellQuery_111 (by decide) rfl (fun c10687 => ?_) (fun c10687 => ?_)
                      · skip
                        refine g_aload_n hk dX12_tellQuery_115 rfl ?_
                        refine gM_r0_30 hk hin12 (List.mem_cons_of_mem _ (List.mem_append_left _ (List.mem_of_getElem? (i := 22) rfl))) dX12_tellQuery_116 ?_
                        refine g_bipush (v := 16) hk dX12_tellQuery_119 (by decide) ?_
                        refine g_iload_n hk dX12_tellQuery_121 rfl ?_
                        refine g_imul hk dX12_tellQuery_122 ?_
                        refine g_topi (fun y10688 ey10688 => ?_)
                        have hy10688 : y10688.toInt = 16 * y6203.toInt := i32_mul ey10688 rfl rfl (by omega) (by omega)
                        refine g_aload_n hk dX12_tellQuery_123 rfl ?_
                        refine gM_r0_29 hk hin12 (List.mem_cons_of_mem _ (List.mem_append_left _ (List.mem_of_getElem? (i := 9) rfl))) dX12_tellQuery_124 ?_
                        refine g_iload_n hk dX12_tellQuery_127 rfl ?_
                        refine lM_11 (v := (A10309 11 y6203.toNatClampNeg)) hk (vp_in_iff.mpr ⟨by omega, by omega⟩) rfl dX12_tellQuery_128 ?_
                        refine g_iadd hk dX12_tellQuery_129 ?_
                        refine g_topi (fun y10689 ey10689 => ?_)
                        have hy10689 : y10689.toInt = y10688.toInt + (A10309 11 y6203.toNatClampNeg).toInt := i32_add ey10689 rfl rfl (by omega) (by omega)
                        refine g_aload_n hk dX12_tellQuery_130 rfl ?_
                        refine g_callV (n := 0) hk (j132_X12_readingTold l D zt r g I10309 A10309 L10309  hV10309) (SP.same _) (fun _ h => h) (gi_V (List.mem_cons_of_mem _ (List.mem_append_left _ (List.mem_of_getElem? (i := 23) rfl))) (List.mem_cons_of_mem _ (List.mem_append_left _ (List.mem_of_getElem? (i := 24) rfl))) (List.mem_cons_of_mem _ (List.mem_append_left _ (List.mem_of_getElem? (i := 25) rfl))) (List.mem_cons_of_mem _ (List.mem_append_left _ (List.mem_of_getElem? (i := 7) rfl))) (gi_sub (fun w h => (List.mem_cons_of_mem _ (List.mem_append_right _ (List.mem_append_right _ (List.mem_append_right _ (List.mem_append_right _ (List.mem_append_right _ (List.mem_append_right _ (List.mem_append_left _ h))))))))) zg_j132_X12_readingTold)) rfl rfl rfl (by decide +kernel) ⟨Nat.le_of_ble_eq_true rfl, Nat.le_of_ble_eq_true rfl⟩ 0 rfl rfl rfl rfl (Nat.le_of_ble_eq_true rfl) ⟨Nat.le_of_ble_eq_true rfl, Nat.le_of_ble_eq_true rfl⟩ dX12_tellQuery_131 (fun v ty' w' hp hk' => ?_)
                        obtain ⟨I10691, A10691, L10691, hI10691, hA10691, hV10691, y10690, r10692, r10693, r10694, r10695, rfl, rfl⟩ := hp
                        have f10696 := IvM_f4 hV10691
                        have f10697 := IvM_f6 hV10691
                        have f10698 := IvM_f8 hV10691
                        show GW κ 4 0 0 (wM r g I10691 A10691 L10691) 134 [(3, .int x6217), (2, .int (I 4)), (1, .int y6203), (0, .ref (r 0))] [.int y10690, .int y10689, .ref (r 13)]
                        refine sM_12 (j := y10689.toNatClampNeg) hk (vp_in_iff.mpr ⟨by omega, by omega⟩) rfl dX12_tellQuery_134 ?_
                        refine g_aload_n hk dX12_tellQuery_135 rfl ?_
                        refine gM_i6 (v := (I10691 6)) hk hin12 (List.mem_cons_of_mem _ (List.mem_append_left _ (List.mem_of_getElem? (i := 16) rfl))) dX12_tellQuery_136 rfl ?_
                        refine g_if_le (tgt := 143) (a := (I10691 6).toInt) hk dX12_tellQuery_139 (by decide) rfl (fun c10699 => ?_) (fun c10699 => ?_)
                        · skip
                          refine g_aload_n hk dX12_tellQuery_143 rfl ?_
                          refine gM_r0_29 hk hin12 (List.mem_cons_of_mem _ (List.mem_append_left _ (List.mem_of_getElem? (i := 9) rfl))) dX12_tellQuery_144 ?_
                          refine g_iload_n hk dX12_tellQuery_147 rfl ?_
                          refine g_dup2 hk dX12_tellQuery_148 rfl rfl ?_
                          refine lM_11 (v := (A10309 11 y6203.toNatClampNeg)) hk (vp_in_iff.mpr ⟨by omega, by omega⟩) (congrFun (hA10691 11 rfl) _) dX12_tellQuery_149 ?_
                          refine g_iconst (v := 1) hk dX12_tellQuery_150 (by decide) ?_
                          refine g_iadd hk dX12_tellQuery_151 ?_
                          refine g_topi (fun y10700 ey10700 => ?_)
                          have hy10700 : y10700.toInt = (A10309 11 y6203.toNatClampNeg).toInt + 1 := i32_add ey10700 rfl rfl (by omega) (by omega)
                          refine sM_11 (j := y6203.toNatClampNeg) hk (vp_in_iff.mpr ⟨by omega, by omega⟩) rfl dX12_tellQuery_152 ?_
                          have hA10701 : ∀ j, 0 ≤ ((up3 (up3 A10691 12 (y10689.toNatClampNeg) y10690) 11 (y6203.toNatClampNeg) y10700) 11 j).toInt ∧ ((up3 (up3 A10691 12 (y10689.toNatClampNeg) y10690) 11 (y6203.toNatClampNeg) y10700) 11 j).toInt ≤ 16 := ai_st ((IvM_a11 hV10691)) ⟨by omega, by omega⟩
                          refine g_aload_n hk dX12_tellQuery_153 rfl ?_
                          refine g_dup hk dX12_tellQuery_154 rfl ?_
                          refine gM_i11 (v := (I10309 11)) hk hin12 (List.mem_cons_of_mem _ (List.mem_append_left _ (List.mem_of_getElem? (i := 0) rfl))) dX12_tellQuery_155 (hI10691 11 rfl) ?_
                          refine g_iconst (v := 1) hk dX12_tellQuery_158 (by decide) ?_
                          have b10702l := Int32.le_toInt (I10309 11)
                          have b10702h := Int32.toInt_lt (I10309 11)
                          refine g_iadd hk dX12_tellQuery_159 ?_
                          refine g_topi (fun y10703 ey10703 => ?_)
                          refine pM_i11 hk hin12 (List.mem_cons_of_mem _ (List.mem_append_left _ (List.mem_of_getElem? (i := 0) rfl))) dX12_tellQuery_160 ?_
                          refine g_goto (tgt := 84) hk dX12_tellQuery_163 (by decide) ?_
                          have g10704 : (I10691 15).toInt = (I 15).toInt := by rw [show (I10691 15) = (I 15) from ((hI10691 15 rfl).trans ((hI10309 15 rfl).trans ((hI6221 15 rfl).trans (hI6207 15 rfl))))]
                          have g10705 : (I10691 16).toInt = (I 16).toInt := by rw [show (I10691 16) = (I 16) from ((hI10691 16 rfl).trans ((hI10309 16 rfl).trans ((hI6221 16 rfl).trans (hI6207 16 rfl))))]
                          have g10706 := IvM_s10_0 (I := I10691) (A := A10691) hV10691
                          have g10707 := IvM_s10_1 (I := I10691) (A := A10691) hV10691
                          have q10708 := cl_int (y := y6203) (by omega)
                          have g10709 : (A10691 10 0).toInt = (A 10 0).toInt := by rw [show (A10691 10 0) = (A 10 0) from ((congrFun (hA10691 10 rfl) _).trans ((congrFun (hA10309 10 rfl) _).trans ((congrFun (hA6221 10 rfl) _).trans (congrFun (hA6207 10 rfl) _))))]
                          have g10710 : (A10691 10 1).toInt = (A 10 1).toInt := by rw [show (A10691 10 1) = (A 10 1) from ((congrFun (hA10691 10 rfl) _).trans ((congrFun (hA10309 10 rfl) _).trans ((congrFun (hA6221 10 rfl) _).trans (congrFun (hA6207 10 rfl) _))))]
                          have q10711 := cl_int (y := y6203) (by omega)
                          exact g_lv (List.forall_mem_cons.mpr ⟨List.mem_of_getElem? (i := 0) rfl, (List.forall_mem_cons.mpr ⟨List.mem_of_getElem? (i := 1) rfl, (List.forall_mem_cons.mpr ⟨List.mem_of_getElem? (i := 2) rfl, (List.forall_mem_cons.mpr ⟨List.mem_of_getElem? (i := 3) rfl, (fun _ h => absurd h List.not_mem_nil)⟩)⟩)⟩)⟩) (ih10578 (upd I10691 11 y10703) (up3 (up3 A10691 12 (y10689.toNatClampNeg) y10690) 11 (y6203.toNatClampNeg) y10700) L10691 (show Md [4, 6, 7, 8, 9, 11, 12, 13] I6221 (upd I10691 11 y10703) from Md.tr hI10309 (show Md [4, 6, 7, 8, 9, 11, 12, 13] I10309 (upd I10691 11 y10703) from (Md.up (Md.tr Md.rf hI10691 rfl) rfl)) rfl) (show Md [11, 12] (up3 A6221 11 (y6203.toNatClampNeg) 0) (up3 (up3 A10691 12 (y10689.toNatClampNeg) y10690) 11 (y6203.toNatClampNeg) y10700) from Md.tr hA10309 (show Md [11, 12] A10309 (up3 (up3 A10691 12 (y10689.toNatClampNeg) y10690) 11 (y6203.toNatClampNeg) y10700) from (Md.up3 (Md.up3 (Md.tr Md.rf hA10691 rfl) rfl) rfl)) rfl) ⟨(IvM_f1 (I := I10691) (A := A10691) hV10691), (IvM_f2 (I := I10691) (A := A10691) hV10691), (IvM_f3 (I := I10691) (A := A10691) hV10691), (IvM_f4 (I := I10691) (A := A10691) hV10691), (IvM_f6 (I := I10691) (A := A10691) hV10691), (IvM_f8 (I := I10691) (A := A10691) hV10691), (IvM_f15 (I := I10691) (A := A10691) hV10691), (IvM_f16 (I := I10691) (A := A10691) hV10691), (IvM_f17 (I := I10691) (A := A10691) hV10691), (IvM_f18 (I := I10691) (A := A10691) hV10691), (IvM_f22 (I := I10691) (A := A10691) hV10691), (IvM_f23 (I := I10691) (A := A10691) hV10691), (IvM_f24 (I := I10691) (A := A10691) hV10691), hA10701, (IvM_a26 (I := I10691) (A := A10691) hV10691), (IvM_s8_0 (I := I10691) (A := A10691) hV10691), (IvM_s8_1 (I := I10691) (A := A10691) hV10691), (IvM_s10_0 (I := I10691) (A := A10691) hV10691), (IvM_s10_1 (I := I10691) (A := A10691) hV10691), (IvM_s17_0 (I := I10691) (A := A10691) hV10691), (IvM_s17_164 (I := I10691) (A := A10691) hV10691), ⟨fun e => by have e : (I10691 15).toInt = 0 := e; first | exact ghf_upd (n := (A10691 10 0)) ((IvM_lv (I := I10691) (A := A10691) hV10691).1 e) (fun q hq => by omega) | (exfalso; omega), fun e => by have e : (I10691 15).toInt = 1 := e; first | exact ghf_upd (n := (A10691 10 1)) ((IvM_lv (I := I10691) (A := A10691) hV10691).2 e) (fun q hq => by omega) | (exfalso; omega)⟩, (by rcases (IvM_sd (I := I10691) (A := A10691) hV10691) with h9 | h9 | h9; exact Or.inl h9; exact Or.inr (Or.inl h9); exact Or.inr (Or.inr ⟨fun e => by have e : (I10691 16).toInt = 0 := e; first | exact ghf_upd (n := (A10691 10 0)) (h9.1 e) (fun q hq => by omega) | (exfalso; omega), fun e => by have e : (I10691 16).toInt = 1 := e; first | exact ghf_upd (n := (A10691 10 1)) (h9.2 e) (fun q hq => by omega) | (exfalso; omega)⟩)), (IvM_nq (I := I10691) (A := A10691) hV10691), (IvM_hr (I := I10691) (A := A10691) hV10691), (IvM_hh (I := I10691) (A := A10691) hV10691), trivial⟩ (by first | (rw [show ((upd I10691 11 y10703) 4) = (I10691 4) from rfl] <;> omega) | omega) (by first | (rw [show ((upd I10691 11 y10703) 6) = (I10691 6) from rfl] <;> omega) | omega) (by first | (rw [show ((upd I10691 11 y10703) 8) = (I10691 8) from rfl] <;> omega) | omega) (by first | (rw [show ((upd I10691 11 y10703) 4) = (I10691 4) from rfl] <;> omega) | omega) (by omega))
                        · skip
                          exact g_vret hk hR ⟨I10691, (up3 A10691 12 (y10689.toNatClampNeg) y10690), L10691, (show Md [4, 6, 7, 8, 9, 11, 12, 13, 17] I I10691 from (Md.tr (Md.tr (Md.tr (Md.tr (Md.up Md.rf rfl) hI6207 rfl) hI6221 rfl) hI10309 rfl) hI10691 rfl)), (show Md [10, 11, 12] A (up3 A10691 12 (y10689.toNatClampNeg) y10690) from (Md.up3 (Md.tr (Md.tr (Md.up3 (Md.tr (Md.tr Md.rf hA6207 rfl) hA6221 rfl) rfl) hA10309 rfl) hA10691 rfl) rfl)), ⟨(IvM_f1 (I := I10691) (A := A10691) hV10691), (IvM_f2 (I := I10691) (A := A10691) hV10691), (IvM_f3 (I := I10691) (A := A10691) hV10691), (IvM_f4 (I := I10691) (A := A10691) hV10691), (IvM_f6 (I := I10691) (A := A10691) hV10691), (IvM_f8 (I := I10691) (A := A10691) hV10691), (IvM_f15 (I := I10691) (A := A10691) hV10691), (IvM_f16 (I := I10691) (A := A10691) hV10691), (IvM_f17 (I := I10691) (A := A10691) hV10691), (IvM_f18 (I := I10691) (A := A10691) hV10691), (IvM_f22 (I := I10691) (A := A10691) hV10691), (IvM_f23 (I := I10691) (A := A10691) hV10691), (IvM_f24 (I := I10691) (A := A10691) hV10691), (IvM_a11 (I := I10691) (A := A10691) hV10691), (IvM_a26 (I := I10691) (A := A10691) hV10691), (IvM_s8_0 (I := I10691) (A := A10691) hV10691), (IvM_s8_1 (I := I10691) (A := A10691) hV10691), (IvM_s10_0 (I := I10691) (A := A10691) hV10691), (IvM_s10_1 (I := I10691) (A := A10691) hV10691), (IvM_s17_0 (I := I10691) (A := A10691) hV10691), (IvM_s17_164 (I := I10691) (A := A10691) hV10691), (IvM_lv (I := I10691) (A := A10691) hV10691), (IvM_sd (I := I10691) (A := A10691) hV10691), (IvM_nq (I := I10691) (A := A10691) hV10691), (IvM_hr (I := I10691) (A := A10691) hV10691), (IvM_hh (I := I10691) (A := A10691) hV10691), trivial⟩, (by omega), (by omega), (by omega), rfl, rfl⟩ dX12_tellQuery_142
                      · skip
                        exact g_vret hk hR ⟨I10309, A10309, L10309, (show Md [4, 6, 7, 8, 9, 11, 12, 13, 17] I I10309 from (Md.tr (Md.tr (Md.tr (Md.up Md.rf rfl) hI6207 rfl) hI6221 rfl) hI10309 rfl)), (show Md [10, 11, 12] A A10309 from (Md.tr (Md.up3 (Md.tr (Md.tr Md.rf hA6207 rfl) hA6221 rfl) rfl) hA10309 rfl)), hV10309, (by omega), (by omega), (by omega), rfl, rfl⟩ dX12_tellQuery_114
                    · skip
                      refine g_aload_n hk dX12_tellQuery_102 rfl ?_
                      refine g_iconst (v := 2) hk dX12_tellQuery_103 (by decide) ?_
                      have k10712 : (2 : Int32).toInt = 2 := rfl
                      refine g_callV (n := 1) hk (j128_X12_fail l D zt r g I10309 A10309 L10309 2 hV10309 (by decide) (by decide)) (SP.same _) (fun _ h => h) (gi_V (List.mem_cons_of_mem _ (List.mem_append_left _ (List.mem_of_getElem? (i := 26) rfl))) (List.mem_cons_of_mem _ (List.mem_append_left _ (List.mem_of_getElem? (i := 27) rfl))) (List.mem_cons_of_mem _ (List.mem_append_left _ (List.mem_of_getElem? (i := 28) rfl))) (List.mem_cons_of_mem _ (List.mem_append_left _ (List.mem_of_getElem? (i := 7) rfl))) (gi_sub (fun w h => (List.mem_cons_of_mem _ (List.mem_append_right _ (List.mem_append_right _ (List.mem_append_right _ (List.mem_append_right _ (List.mem_append_right _ (List.mem_append_right _ (List.mem_append_right _ (List.mem_append_left _ h)))))))))) zg_j128_X12_fail)) rfl rfl rfl (by decide +kernel) ⟨Nat.le_of_ble_eq_true rfl, Nat.le_of_ble_eq_true rfl⟩ 0 rfl rfl rfl rfl (Nat.le_of_ble_eq_true rfl) ⟨Nat.le_of_ble_eq_true rfl, Nat.le_of_ble_eq_true rfl⟩ dX12_tellQuery_104 (fun v ty' w' hp hk' => ?_)
                      obtain ⟨I10714, A10714, L10714, hI10714, hA10714, hV10714, r10715, r10716, r10717, rfl, rfl⟩ := hp
                      have f10718 := IvM_f6 hV10714
                      rw [show (I10714 8) = (I10309 8) from (hI10714 8 rfl)] at r10716
                      show GW κ 4 0 0 (wM r g I10714 A10714 L10714) 107 [(3, .int x6217), (2, .int (I 4)), (1, .int y6203), (0, .ref (r 0))] []
                      refine g_aload_n hk dX12_tellQuery_107 rfl ?_
                      refine gM_i6 (v := (I10714 6)) hk hin12 (List.mem_cons_of_mem _ (List.mem_append_left _ (List.mem_of_getElem? (i := 16) rfl))) dX12_tellQuery_108 rfl ?_
                      refine g_if_le (tgt := 115) (a := (I10714 6).toInt) hk dX12_tellQuery_111 (by decide) rfl (fun c10719 => ?_) (fun c10719 => ?_)
                      · skip
                        refine g_aload_n hk dX12_tellQuery_115 rfl ?_
                        refine gM_r0_30 hk hin12 (List.mem_cons_of_mem _ (List.mem_append_left _ (List.mem_of_getElem? (i := 22) rfl))) dX12_tellQuery_116 ?_
                        refine g_bipush (v := 16) hk dX12_tellQuery_119 (by decide) ?_
                        refine g_iload_n hk dX12_tellQuery_121 rfl ?_
                        refine g_imul hk dX12_tellQuery_122 ?_
                        refine g_topi (fun y10720 ey10720 => ?_)
                        have hy10720 : y10720.toInt = 16 * y6203.toInt := i32_mul ey10720 rfl rfl (by omega) (by omega)
                        refine g_aload_n hk dX12_tellQuery_123 rfl ?_
                        refine gM_r0_29 hk hin12 (List.mem_cons_of_mem _ (List.mem_append_left _ (List.mem_of_getElem? (i := 9) rfl))) dX12_tellQuery_124 ?_
                        refine g_iload_n hk dX12_tellQuery_127 rfl ?_
                        refine lM_11 (v := (A10309 11 y6203.toNatClampNeg)) hk (vp_in_iff.mpr ⟨by omega, by omega⟩) (congrFun (hA10714 11 rfl) _) dX12_tellQuery_128 ?_
                        refine g_iadd hk dX12_tellQuery_129 ?_
                        refine g_topi (fun y10721 ey10721 => ?_)
                        have hy10721 : y10721.toInt = y10720.toInt + (A10309 11 y6203.toNatClampNeg).toInt := i32_add ey10721 rfl rfl (by omega) (by omega)
                        refine g_aload_n hk dX12_tellQuery_130 rfl ?_
                        refine g_callV (n := 0) hk (j132_X12_readingTold l D zt r g I10714 A10714 L10714  hV10714) (SP.same _) (fun _ h => h) (gi_V (List.mem_cons_of_mem _ (List.mem_append_left _ (List.mem_of_getElem? (i := 23) rfl))) (List.mem_cons_of_mem _ (List.mem_append_left _ (List.mem_of_getElem? (i := 24) rfl))) (List.mem_cons_of_mem _ (List.mem_append_left _ (List.mem_of_getElem? (i := 25) rfl))) (List.mem_cons_of_mem _ (List.mem_append_left _ (List.mem_of_getElem? (i := 7) rfl))) (gi_sub (fun w h => (List.mem_cons_of_mem _ (List.mem_append_right _ (List.mem_append_right _ (List.mem_append_right _ (List.mem_append_right _ (List.mem_append_right _ (List.mem_append_right _ (List.mem_append_left _ h))))))))) zg_j132_X12_readingTold)) rfl rfl rfl (by decide +kernel) ⟨Nat.le_of_ble_eq_true rfl, Nat.le_of_ble_eq_true rfl⟩ 0 rfl rfl rfl rfl (Nat.le_of_ble_eq_true rfl) ⟨Nat.le_of_ble_eq_true rfl, Nat.le_of_ble_eq_true rfl⟩ dX12_tellQuery_131 (fun v ty' w' hp hk' => ?_)
                        obtain ⟨I10723, A10723, L10723, hI10723, hA10723, hV10723, y10722, r10724, r10725, r10726, r10727, rfl, rfl⟩ := hp
                        have f10728 := IvM_f4 hV10723
                        rw [show (I10714 4) = (I10309 4) from (hI10714 4 rfl)] at r10724
                        have f10729 := IvM_f6 hV10723
                        have f10730 := IvM_f8 hV10723
                        rw [show (I10714 8) = (I10309 8) from (hI10714 8 rfl)] at r10726
                        rw [show (I10714 4) = (I10309 4) from (hI10714 4 rfl)] at r10727
                        show GW κ 4 0 0 (wM r g I10723 A10723 L10723) 134 [(3, .int x6217), (2, .int (I 4)), (1, .int y6203), (0, .ref (r 0))] [.int y10722, .int y10721, .ref (r 13)]
                        refine sM_12 (j := y10721.toNatClampNeg) hk (vp_in_iff.mpr ⟨by omega, by omega⟩) rfl dX12_tellQuery_134 ?_
                        refine g_aload_n hk dX12_tellQuery_135 rfl ?_
                        refine gM_i6 (v := (I10723 6)) hk hin12 (List.mem_cons_of_mem _ (List.mem_append_left _ (List.mem_of_getElem? (i := 16) rfl))) dX12_tellQuery_136 rfl ?_
                        refine g_if_le (tgt := 143) (a := (I10723 6).toInt) hk dX12_tellQuery_139 (by decide) rfl (fun c10731 => ?_) (fun c10731 => ?_)
                        · skip
                          refine g_aload_n hk dX12_tellQuery_143 rfl ?_
                          refine gM_r0_29 hk hin12 (List.mem_cons_of_mem _ (List.mem_append_left _ (List.mem_of_getElem? (i := 9) rfl))) dX12_tellQuery_144 ?_
                          refine g_iload_n hk dX12_tellQuery_147 rfl ?_
                          refine g_dup2 hk dX12_tellQuery_148 rfl rfl ?_
                          refine lM_11 (v := (A10309 11 y6203.toNatClampNeg)) hk (vp_in_iff.mpr ⟨by omega, by omega⟩) ((congrFun (hA10723 11 rfl) _).trans (congrFun (hA10714 11 rfl) _)) dX12_tellQuery_149 ?_
                          refine g_iconst (v := 1) hk dX12_tellQuery_150 (by decide) ?_
                          refine g_iadd hk dX12_tellQuery_151 ?_
                          refine g_topi (fun y10732 ey10732 => ?_)
                          have hy10732 : y10732.toInt = (A10309 11 y6203.toNatClampNeg).toInt + 1 := i32_add ey10732 rfl rfl (by omega) (by omega)
                          refine sM_11 (j := y6203.toNatClampNeg) hk (vp_in_iff.mpr ⟨by omega, by omega⟩) rfl dX12_tellQuery_152 ?_
                          have hA10733 : ∀ j, 0 ≤ ((up3 (up3 A10723 12 (y10721.toNatClampNeg) y10722) 11 (y6203.toNatClampNeg) y10732) 11 j).toInt ∧ ((up3 (up3 A10723 12 (y10721.toNatClampNeg) y10722) 11 (y6203.toNatClampNeg) y10732) 11 j).toInt ≤ 16 := ai_st ((IvM_a11 hV10723)) ⟨by omega, by omega⟩
                          refine g_aload_n hk dX12_tellQuery_153 rfl ?_
                          refine g_dup hk dX12_tellQuery_154 rfl ?_
                          refine gM_i11 (v := (I10309 11)) hk hin12 (List.mem_cons_of_mem _ (List.mem_append_left _ (List.mem_of_getElem? (i := 0) rfl))) dX12_tellQuery_155 ((hI10723 11 rfl).trans (hI10714 11 rfl)) ?_
                          refine g_iconst (v := 1) hk dX12_tellQuery_158 (by decide) ?_
                          have b10734l := Int32.le_toInt (I10309 11)
                          have b10734h := Int32.toInt_lt (I10309 11)
                          refine g_iadd hk dX12_tellQuery_159 ?_
                          refine g_topi (fun y10735 ey10735 => ?_)
                          refine pM_i11 hk hin12 (List.mem_cons_of_mem _ (List.mem_append_left _ (List.mem_of_getElem? (i := 0) rfl))) dX12_tellQuery_160 ?_
                          refine g_goto (tgt := 84) hk dX12_tellQuery_163 (by decide) ?_
                          have g10736 : (I10723 15).toInt = (I 15).toInt := by rw [show (I10723 15) = (I 15) from ((hI10723 15 rfl).trans ((hI10714 15 rfl).trans ((hI10309 15 rfl).trans ((hI6221 15 rfl).trans (hI6207 15 rfl)))))]
                          have g10737 : (I10723 16).toInt = (I 16).toInt := by rw [show (I10723 16) = (I 16) from ((hI10723 16 rfl).trans ((hI10714 16 rfl).trans ((hI10309 16 rfl).trans ((hI6221 16 rfl).trans (hI6207 16 rfl)))))]
                          have g10738 := IvM_s10_0 (I := I10723) (A := A10723) hV10723
                          have g10739 := IvM_s10_1 (I := I10723) (A := A10723) hV10723
                          have q10740 := cl_int (y := y6203) (by omega)
                          have g10741 : (A10723 10 0).toInt = (A 10 0).toInt := by rw [show (A10723 10 0) = (A 10 0) from ((congrFun (hA10723 10 rfl) _).trans ((congrFun (hA10714 10 rfl) _).trans ((congrFun (hA10309 10 rfl) _).trans ((congrFun (hA6221 10 rfl) _).trans (congrFun (hA6207 10 rfl) _)))))]
                          have g10742 : (A10723 10 1).toInt = (A 10 1).toInt := by rw [show (A10723 10 1) = (A 10 1) from ((congrFun (hA10723 10 rfl) _).trans ((congrFun (hA10714 10 rfl) _).trans ((congrFun (hA10309 10 rfl) _).trans ((congrFun (hA6221 10 rfl) _).trans (congrFun (hA6207 10 rfl) _)))))]
                          have q10743 := cl_int (y := y6203) (by omega)
                          exact g_lv (List.forall_mem_cons.mpr ⟨List.mem_of_getElem? (i := 0) rfl, (List.forall_mem_cons.mpr ⟨List.mem_of_getElem? (i := 1) rfl, (List.forall_mem_cons.mpr ⟨List.mem_of_getElem? (i := 2) rfl, (List.forall_mem_cons.mpr ⟨List.mem_of_getElem? (i := 3) rfl, (fun _ h => absurd h List.not_mem_nil)⟩)⟩)⟩)⟩) (ih10578 (upd I10723 11 y10735) (up3 (up3 A10723 12 (y10721.toNatClampNeg) y10722) 11 (y6203.toNatClampNeg) y10732) L10723 (show Md [4, 6, 7, 8, 9, 11, 12, 13] I6221 (upd I10723 11 y10735) from Md.tr hI10309 (show Md [4, 6, 7, 8, 9, 11, 12, 13] I10309 (upd I10723 11 y10735) from (Md.up (Md.tr (Md.tr Md.rf hI10714 rfl) hI10723 rfl) rfl)) rfl) (show Md [11, 12] (up3 A6221 11 (y6203.toNatClampNeg) 0) (up3 (up3 A10723 12 (y10721.toNatClampNeg) y10722) 11 (y6203.toNatClampNeg) y10732) from Md.tr hA10309 (show Md [11, 12] A10309 (up3 (up3 A10723 12 (y10721.toNatClampNeg) y10722) 11 (y6203.toNatClampNeg) y10732) from (Md.up3 (Md.up3 (Md.tr (Md.tr Md.rf hA10714 rfl) hA10723 rfl) rfl) rfl)) rfl) ⟨(IvM_f1 (I := I10723) (A := A10723) hV10723), (IvM_f2 (I := I10723) (A := A10723) hV10723), (IvM_f3 (I := I10723) (A := A10723) hV10723), (IvM_f4 (I := I10723) (A := A10723) hV10723), (IvM_f6 (I := I10723) (A := A10723) hV10723), (IvM_f8 (I := I10723) (A := A10723) hV10723), (IvM_f15 (I := I10723) (A := A10723) hV10723), (IvM_f16 (I := I10723) (A := A10723) hV10723), (IvM_f17 (I := I10723) (A := A10723) hV10723), (IvM_f18 (I := I10723) (A := A10723) hV10723), (IvM_f22 (I := I10723) (A := A10723) hV10723), (IvM_f23 (I := I10723) (A := A10723) hV10723), (IvM_f24 (I := I10723) (A := A10723) hV10723), hA10733, (IvM_a26 (I := I10723) (A := A10723) hV10723), (IvM_s8_0 (I := I10723) (A := A10723) hV10723), (IvM_s8_1 (I := I10723) (A := A10723) hV10723), (IvM_s10_0 (I := I10723) (A := A10723) hV10723), (IvM_s10_1 (I := I10723) (A := A10723) hV10723), (IvM_s17_0 (I := I10723) (A := A10723) hV10723), (IvM_s17_164 (I := I10723) (A := A10723) hV10723), ⟨fun e => by have e : (I10723 15).toInt = 0 := e; first | exact ghf_upd (n := (A10723 10 0)) ((IvM_lv (I := I10723) (A := A10723) hV10723).1 e) (fun q hq => by omega) | (exfalso; omega), fun e => by have e : (I10723 15).toInt = 1 := e; first | exact ghf_upd (n := (A10723 10 1)) ((IvM_lv (I := I10723) (A := A10723) hV10723).2 e) (fun q hq => by omega) | (exfalso; omega)⟩, (by rcases (IvM_sd (I := I10723) (A := A10723) hV10723) with h9 | h9 | h9; exact Or.inl h9; exact Or.inr (Or.inl h9); exact Or.inr (Or.inr ⟨fun e => by have e : (I10723 16).toInt = 0 := e; first | exact ghf_upd (n := (A10723 10 0)) (h9.1 e) (fun q hq => by omega) | (exfalso; omega), fun e => by have e : (I10723 16).toInt = 1 := e; first | exact ghf_upd (n := (A10723 10 1)) (h9.2 e) (fun q hq => by omega) | (exfalso; omega)⟩)), (IvM_nq (I := I10723) (A := A10723) hV10723), (IvM_hr (I := I10723) (A := A10723) hV10723), (IvM_hh (I := I10723) (A := A10723) hV10723), trivial⟩ (by first | (rw [show ((upd I10723 11 y10735) 4) = (I10723 4) from rfl] <;> omega) | omega) (by first | (rw [show ((upd I10723 11 y10735) 6) = (I10723 6) from rfl] <;> omega) | omega) (by first | (rw [show ((upd I10723 11 y10735) 8) = (I10723 8) from rfl] <;> omega) | omega) (by first | (rw [show ((upd I10723 11 y10735) 4) = (I10723 4) from rfl] <;> omega) | omega) (by omega))
                        · skip
                          exact g_vret hk hR ⟨I10723, (up3 A10723 12 (y10721.toNatClampNeg) y10722), L10723, (show Md [4, 6, 7, 8, 9, 11, 12, 13, 17] I I10723 from (Md.tr (Md.tr (Md.tr (Md.tr (Md.tr (Md.up Md.rf rfl) hI6207 rfl) hI6221 rfl) hI10309 rfl) hI10714 rfl) hI10723 rfl)), (show Md [10, 11, 12] A (up3 A10723 12 (y10721.toNatClampNeg) y10722) from (Md.up3 (Md.tr (Md.tr (Md.tr (Md.up3 (Md.tr (Md.tr Md.rf hA6207 rfl) hA6221 rfl) rfl) hA10309 rfl) hA10714 rfl) hA10723 rfl) rfl)), ⟨(IvM_f1 (I := I10723) (A := A10723) hV10723), (IvM_f2 (I := I10723) (A := A10723) hV10723), (IvM_f3 (I := I10723) (A := A10723) hV10723), (IvM_f4 (I := I10723) (A := A10723) hV10723), (IvM_f6 (I := I10723) (A := A10723) hV10723), (IvM_f8 (I := I10723) (A := A10723) hV10723), (IvM_f15 (I := I10723) (A := A10723) hV10723), (IvM_f16 (I := I10723) (A := A10723) hV10723), (IvM_f17 (I := I10723) (A := A10723) hV10723), (IvM_f18 (I := I10723) (A := A10723) hV10723), (IvM_f22 (I := I10723) (A := A10723) hV10723), (IvM_f23 (I := I10723) (A := A10723) hV10723), (IvM_f24 (I := I10723) (A := A10723) hV10723), (IvM_a11 (I := I10723) (A := A10723) hV10723), (IvM_a26 (I := I10723) (A := A10723) hV10723), (IvM_s8_0 (I := I10723) (A := A10723) hV10723), (IvM_s8_1 (I := I10723) (A := A10723) hV10723), (IvM_s10_0 (I := I10723) (A := A10723) hV10723), (IvM_s10_1 (I := I10723) (A := A10723) hV10723), (IvM_s17_0 (I := I10723) (A := A10723) hV10723), (IvM_s17_164 (I := I10723) (A := A10723) hV10723), (IvM_lv (I := I10723) (A := A10723) hV10723), (IvM_sd (I := I10723) (A := A10723) hV10723), (IvM_nq (I := I10723) (A := A10723) hV10723), (IvM_hr (I := I10723) (A := A10723) hV10723), (IvM_hh (I := I10723) (A := A10723) hV10723), trivial⟩, (by omega), (by omega), (by omega), rfl, rfl⟩ dX12_tellQuery_142
                      · skip
                        exact g_vret hk hR ⟨I10714, A10714, L10714, (show Md [4, 6, 7, 8, 9, 11, 12, 13, 17] I I10714 from (Md.tr (Md.tr (Md.tr (Md.tr (Md.up Md.rf rfl) hI6207 rfl) hI6221 rfl) hI10309 rfl) hI10714 rfl)), (show Md [10, 11, 12] A A10714 from (Md.tr (Md.tr (Md.up3 (Md.tr (Md.tr Md.rf hA6207 rfl) hA6221 rfl) rfl) hA10309 rfl) hA10714 rfl)), hV10714, (by rw [show (I10714 4) = (I10309 4) from (hI10714 4 rfl)] <;> omega), (by omega), (by rw [show (I10714 8) = (I10309 8) from (hI10714 8 rfl)] <;> omega), rfl, rfl⟩ dX12_tellQuery_114
              obtain ⟨n10744, n10744a, n10744b⟩ : ∃ n : Nat, 401 - (I6207 4).toInt < (n : Int) ∧ 0 < n := ⟨((401 - (I6207 4).toInt : Int)).toNat + 1, by omega, by omega⟩
              have g10745 : (I6221 15).toInt = (I 15).toInt := by rw [show (I6221 15) = (I 15) from ((hI6221 15 rfl).trans (hI6207 15 rfl))]
              have g10746 : (I6221 16).toInt = (I 16).toInt := by rw [show (I6221 16) = (I 16) from ((hI6221 16 rfl).trans (hI6207 16 rfl))]
              have g10747 := IvM_s10_0 (I := I6221) (A := A6221) hV6221
              have g10748 := IvM_s10_1 (I := I6221) (A := A6221) hV6221
              have q10749 := cl_int (y := y6203) (by omega)
              have g10750 : (A6221 10 0).toInt = (A 10 0).toInt := by rw [show (A6221 10 0) = (A 10 0) from ((congrFun (hA6221 10 rfl) _).trans (congrFun (hA6207 10 rfl) _))]
              have g10751 : (A6221 10 1).toInt = (A 10 1).toInt := by rw [show (A6221 10 1) = (A 10 1) from ((congrFun (hA6221 10 rfl) _).trans (congrFun (hA6207 10 rfl) _))]
              have g10752 : (I6221 6).toInt = (I6207 6).toInt := by rw [show (I6221 6) = (I6207 6) from (hI6221 6 rfl)]
              have q10753 := cl_int (y := y6203) (by omega)
              exact lp10575 n10744 I6221 (up3 A6221 11 (y6203.toNatClampNeg) 0) L6221 Md.rf Md.rf ⟨(IvM_f1 (I := I6221) (A := A6221) hV6221), (IvM_f2 (I := I6221) (A := A6221) hV6221), (IvM_f3 (I := I6221) (A := A6221) hV6221), (IvM_f4 (I := I6221) (A := A6221) hV6221), (IvM_f6 (I := I6221) (A := A6221) hV6221), (IvM_f8 (I := I6221) (A := A6221) hV6221), (IvM_f15 (I := I6221) (A := A6221) hV6221), (IvM_f16 (I := I6221) (A := A6221) hV6221), (IvM_f17 (I := I6221) (A := A6221) hV6221), (IvM_f18 (I := I6221) (A := A6221) hV6221), (IvM_f22 (I := I6221) (A := A6221) hV6221), (IvM_f23 (I := I6221) (A := A6221) hV6221), (IvM_f24 (I := I6221) (A := A6221) hV6221), hA10304, (IvM_a26 (I := I6221) (A := A6221) hV6221), (IvM_s8_0 (I := I6221) (A := A6221) hV6221), (IvM_s8_1 (I := I6221) (A := A6221) hV6221), (IvM_s10_0 (I := I6221) (A := A6221) hV6221), (IvM_s10_1 (I := I6221) (A := A6221) hV6221), (IvM_s17_0 (I := I6221) (A := A6221) hV6221), (IvM_s17_164 (I := I6221) (A := A6221) hV6221), ⟨fun e => by have e : (I6221 15).toInt = 0 := e; first | exact ghf_upd (n := (A6221 10 0)) ((IvM_lv (I := I6221) (A := A6221) hV6221).1 e) (fun q hq => by omega) | (exfalso; omega), fun e => by have e : (I6221 15).toInt = 1 := e; first | exact ghf_upd (n := (A6221 10 1)) ((IvM_lv (I := I6221) (A := A6221) hV6221).2 e) (fun q hq => by omega) | (exfalso; omega)⟩, (by rcases (IvM_sd (I := I6221) (A := A6221) hV6221) with h9 | h9 | h9; exact Or.inl h9; exact Or.inr (Or.inl h9); exact Or.inr (Or.inr ⟨fun e => by have e : (I6221 16).toInt = 0 := e; first | exact ghf_upd (n := (A6221 10 0)) (h9.1 e) (fun q hq => by omega) | (exfalso; omega), fun e => by have e : (I6221 16).toInt = 1 := e; first | exact ghf_upd (n := (A6221 10 1)) (h9.2 e) (fun q hq => by omega) | (exfalso; omega)⟩)), (IvM_nq (I := I6221) (A := A6221) hV6221), (IvM_hr (I := I6221) (A := A6221) hV6221), (IvM_hh (I := I6221) (A := A6221) hV6221), trivial⟩ (by first | (rw [show (I6221 4) = (I6207 4) from (hI6221 4 rfl)] <;> omega) | omega) (by first | (rw [show (I6221 6) = (I6207 6) from (hI6221 6 rfl)] <;> omega) | omega) (by omega) (by first | exact n10744a | (rw [show (I6221 4) = (I6207 4) from (hI6221 4 rfl)] <;> exact n10744a)) n10744b
            · skip
              refine g_aload_n hk dX12_tellQuery_49 rfl ?_
              refine gM_r0_25 hk hin12 (List.mem_cons_of_mem _ (List.mem_append_left _ (List.mem_of_getElem? (i := 17) rfl))) dX12_tellQuery_50 ?_
              refine g_iload_n hk dX12_tellQuery_53 rfl ?_
              refine lM_7 hk (vp_in_iff.mpr ⟨by omega, by omega⟩) rfl dX12_tellQuery_54 ?_
              refine g_topl (fun y10754 ey10754 => ?_)
              refine g_aload_n hk dX12_tellQuery_55 rfl ?_
              refine gM_r0_8 hk hin12 (List.mem_cons_of_mem _ (List.mem_append_left _ (List.mem_of_getElem? (i := 18) rfl))) dX12_tellQuery_56 ?_
              refine g_iload_n hk dX12_tellQuery_59 rfl ?_
              refine lM_5 hk (vp_in_iff.mpr ⟨by omega, by omega⟩) rfl dX12_tellQuery_60 ?_
              refine g_topl (fun y10755 ey10755 => ?_)
              refine g_lcmp hk dX12_tellQuery_61 ?_
              refine g_topi (fun y10756 ey10756 => ?_)
              have b10757l := Int32.le_toInt y10756
              have b10757h := Int32.toInt_lt y10756
              refine g_if_ne (tgt := 71) (a := y10756.toInt) hk dX12_tellQuery_62 (by decide) rfl (fun c10758 => ?_) (fun c10758 => ?_)
              · skip
                obtain ⟨y10759, ey10759⟩ : ∃ y : Int32, y = x6217 + Int32.ofInt 1 := ⟨_, rfl⟩
                have hy10759 : y10759.toInt = x6217.toInt + 1 := i32_add ey10759 rfl (by decide) (by omega) (by omega)
                refine g_iinc (v := y10759) (lv' := [(3, .int y10759), (2, .int (I 4)), (1, .int y6203), (0, .ref (r 0))]) hk 0 dX12_tellQuery_71 rfl ey10759.symm (by decide) rfl ?_
                refine g_goto (tgt := 34) hk dX12_tellQuery_74 (by decide) ?_
                exact g_lv (List.forall_mem_cons.mpr ⟨List.mem_of_getElem? (i := 0) rfl, (List.forall_mem_cons.mpr ⟨List.mem_of_getElem? (i := 1) rfl, (List.forall_mem_cons.mpr ⟨List.mem_of_getElem? (i := 2) rfl, (List.forall_mem_cons.mpr ⟨List.mem_of_getElem? (i := 3) rfl, (fun _ h => absurd h List.not_mem_nil)⟩)⟩)⟩)⟩) (ih9828 y10759 I6221 A6221 L6221 (show Md [8, 9, 13] I6207 I6221 from Md.tr hI6221 (show Md [8, 9, 13] I6221 I6221 from Md.rf) rfl) (show Md [] A6207 A6221 from Md.tr hA6221 (show Md [] A6221 A6221 from Md.rf) rfl) hV6221 (by omega) (by omega) (by first | (rw [show (I6221 4) = (I6207 4) from (hI6221 4 rfl)] <;> omega) | omega) (by first | (rw [show (I6221 6) = (I6207 6) from (hI6221 6 rfl)] <;> omega) | omega) (by omega) (by omega) (by omega))
              · skip
                refine g_aload_n hk dX12_tellQuery_65 rfl ?_
                refine g_iconst (v := 3) hk dX12_tellQuery_66 (by decide) ?_
                refine g_iload_n hk dX12_tellQuery_67 rfl ?_
                have k10760 : (3 : Int32).toInt = 3 := rfl
                refine g_callV (n := 2) hk (j134_X12_wrong l D zt r g I6221 A6221 L6221 3 (I 4) hV6221 (by decide) (by decide) (by omega) (by omega)) (SP.same _) (fun _ h => h) (gi_V (List.mem_cons_of_mem _ (List.mem_append_left _ (List.mem_of_getElem? (i := 19) rfl))) (List.mem_cons_of_mem _ (List.mem_append_left _ (List.mem_of_getElem? (i := 20) rfl))) (List.mem_cons_of_mem _ (List.mem_append_left _ (List.mem_of_getElem? (i := 21) rfl))) (List.mem_cons_of_mem _ (List.mem_append_left _ (List.mem_of_getElem? (i := 7) rfl))) (gi_sub (fun w h => (List.mem_cons_of_mem _ (List.mem_append_right _ (List.mem_append_right _ (List.mem_append_right _ (List.mem_append_right _ (List.mem_append_right _ (List.mem_append_left _ h)))))))) zg_j134_X12_wrong)) rfl rfl rfl (by decide +kernel) ⟨Nat.le_of_ble_eq_true rfl, Nat.le_of_ble_eq_true rfl⟩ 0 rfl rfl rfl rfl (Nat.le_of_ble_eq_true rfl) ⟨Nat.le_of_ble_eq_true rfl, Nat.le_of_ble_eq_true rfl⟩ dX12_tellQuery_68 (fun v ty' w' hp hk' => ?_)
                obtain ⟨I10762, A10762, L10762, hI10762, hA10762, hV10762, r10763, r10764, r10765, rfl, rfl⟩ := hp
                rw [show (I6221 6) = (I6207 6) from (hI6221 6 rfl), show (I10762 6) = (I6207 6) from ((hI10762 6 rfl).trans (hI6221 6 rfl))] at r10763
                have f10766 := IvM_f8 hV10762
                rw [show (I10762 6) = (I6207 6) from ((hI10762 6 rfl).trans (hI6221 6 rfl))] at r10765
                show GW κ 4 0 0 (wM r g I10762 A10762 L10762) 71 [(3, .int x6217), (2, .int (I 4)), (1, .int y6203), (0, .ref (r 0))] []
                obtain ⟨y10767, ey10767⟩ : ∃ y : Int32, y = x6217 + Int32.ofInt 1 := ⟨_, rfl⟩
                have hy10767 : y10767.toInt = x6217.toInt + 1 := i32_add ey10767 rfl (by decide) (by omega) (by omega)
                refine g_iinc (v := y10767) (lv' := [(3, .int y10767), (2, .int (I 4)), (1, .int y6203), (0, .ref (r 0))]) hk 0 dX12_tellQuery_71 rfl ey10767.symm (by decide) rfl ?_
                refine g_goto (tgt := 34) hk dX12_tellQuery_74 (by decide) ?_
                exact g_lv (List.forall_mem_cons.mpr ⟨List.mem_of_getElem? (i := 0) rfl, (List.forall_mem_cons.mpr ⟨List.mem_of_getElem? (i := 1) rfl, (List.forall_mem_cons.mpr ⟨List.mem_of_getElem? (i := 2) rfl, (List.forall_mem_cons.mpr ⟨List.mem_of_getElem? (i := 3) rfl, (fun _ h => absurd h List.not_mem_nil)⟩)⟩)⟩)⟩) (ih9828 y10767 I10762 A10762 L10762 (show Md [8, 9, 13] I6207 I10762 from Md.tr hI6221 (show Md [8, 9, 13] I6221 I10762 from (Md.tr Md.rf hI10762 rfl)) rfl) (show Md [] A6207 A10762 from Md.tr hA6221 (show Md [] A6221 A10762 from (Md.tr Md.rf hA10762 rfl)) rfl) hV10762 (by omega) (by omega) (by first | (rw [show (I10762 4) = (I6207 4) from ((hI10762 4 rfl).trans (hI6221 4 rfl))] <;> omega) | omega) (by first | (rw [show (I10762 6) = (I6207 6) from ((hI10762 6 rfl).trans (hI6221 6 rfl))] <;> omega) | omega) (by omega) (by omega) (by omega))
      have k10768 : (0 : Int32).toInt = 0 := rfl
      obtain ⟨n10769, n10769a, n10769b⟩ : ∃ n : Nat, 6 - (0 : Int32).toInt < (n : Int) ∧ 0 < n := ⟨((6 - (0 : Int32).toInt : Int)).toNat + 1, by omega, by omega⟩
      exact lp9825 n10769 0 I6207 A6207 L6207 Md.rf Md.rf hV6207 (by omega) (by omega) (by omega) (by omega) (by first | (rw [show (I6207 8) = (I 8) from (hI6207 8 rfl)] <;> omega) | omega) n10769a n10769b
    exfalso; omega
  by_cases c10770 : (I 16).toInt = 1
  · have ec10770 : (I 16) = 1 := Int32.toInt_inj.mp c10770
    rw [ec10770]
    show GW κ 4 0 0 (wM r g (upd I 11 0) A L) 10 [(0, .ref (r 0))] [.int 1, .int 5]
    refine g_imul hk dX12_tellQuery_10 ?_
    refine g_norm (v := 5) (by decide) ?_
    refine g_aload_n hk dX12_tellQuery_11 rfl ?_
    refine gM_r0_28 hk hin12 (List.mem_cons_of_mem _ (List.mem_append_left _ (List.mem_of_getElem? (i := 2) rfl))) dX12_tellQuery_12 ?_
    refine g_aload_n hk dX12_tellQuery_15 rfl ?_
    refine gM_i16 (v := (I 16)) hk hin12 (List.mem_cons_of_mem _ (List.mem_append_left _ (List.mem_of_getElem? (i := 1) rfl))) dX12_tellQuery_16 rfl ?_
    by_cases c10771 : (I 16).toInt = 1
    · have ec10771 : (I 16) = 1 := Int32.toInt_inj.mp c10771
      rw [ec10771]
      show GW κ 4 0 0 (wM r g (upd I 11 0) A L) 19 [(0, .ref (r 0))] [.int 1, .ref (r 11), .int 5]
      refine lM_10 (v := (A 10 1)) hk (vp_in_iff.mpr ⟨by decide, by decide⟩) rfl dX12_tellQuery_19 ?_
      have f10772 := IvM_s10_1 hIv
      refine g_iadd hk dX12_tellQuery_20 ?_
      refine g_topi (fun y10773 ey10773 => ?_)
      have hy10773 : y10773.toInt = 5 + (A 10 1).toInt := i32_add ey10773 rfl rfl (by omega) (by omega)
      refine g_istore_n (lv' := [(1, .int y10773), (0, .ref (r 0))]) hk dX12_tellQuery_21 (by decide) rfl ?_
      refine g_aload_n hk dX12_tellQuery_22 rfl ?_
      refine gM_i4 (v := (I 4)) hk hin12 (List.mem_cons_of_mem _ (List.mem_append_left _ (List.mem_of_getElem? (i := 3) rfl))) dX12_tellQuery_23 rfl ?_
      have f10774 := IvM_f4 hIv
      refine g_istore_n (lv' := [(2, .int (I 4)), (1, .int y10773), (0, .ref (r 0))]) hk dX12_tellQuery_26 (by decide) rfl ?_
      refine g_aload_n hk dX12_tellQuery_27 rfl ?_
      refine g_iconst (v := 1) hk dX12_tellQuery_28 (by decide) ?_
      have k10775 : (1 : Int32).toInt = 1 := rfl
      refine g_callV (n := 1) hk (j131_X12_must l D zt r g (upd I 11 0) A L 1 ⟨(IvM_f1 (I := I) (A := A) hIv), (IvM_f2 (I := I) (A := A) hIv), (IvM_f3 (I := I) (A := A) hIv), (IvM_f4 (I := I) (A := A) hIv), (IvM_f6 (I := I) (A := A) hIv), (IvM_f8 (I := I) (A := A) hIv), (IvM_f15 (I := I) (A := A) hIv), (IvM_f16 (I := I) (A := A) hIv), (IvM_f17 (I := I) (A := A) hIv), (IvM_f18 (I := I) (A := A) hIv), (IvM_f22 (I := I) (A := A) hIv), (IvM_f23 (I := I) (A := A) hIv), (IvM_f24 (I := I) (A := A) hIv), (IvM_a11 (I := I) (A := A) hIv), (IvM_a26 (I := I) (A := A) hIv), (IvM_s8_0 (I := I) (A := A) hIv), (IvM_s8_1 (I := I) (A := A) hIv), (IvM_s10_0 (I := I) (A := A) hIv), (IvM_s10_1 (I := I) (A := A) hIv), (IvM_s17_0 (I := I) (A := A) hIv), (IvM_s17_164 (I := I) (A := A) hIv), (IvM_lv (I := I) (A := A) hIv), (IvM_sd (I := I) (A := A) hIv), (IvM_nq (I := I) (A := A) hIv), (IvM_hr (I := I) (A := A) hIv), (IvM_hh (I := I) (A := A) hIv), trivial⟩) (SP.same _) (fun _ h => h) (gi_V (List.mem_cons_of_mem _ (List.mem_append_left _ (List.mem_of_getElem? (i := 4) rfl))) (List.mem_cons_of_mem _ (List.mem_append_left _ (List.mem_of_getElem? (i := 5) rfl))) (List.mem_cons_of_mem _ (List.mem_append_left _ (List.mem_of_getElem? (i := 6) rfl))) (List.mem_cons_of_mem _ (List.mem_append_left _ (List.mem_of_getElem? (i := 7) rfl))) (gi_sub (fun w h => (List.mem_cons_of_mem _ (List.mem_append_right _ (List.mem_append_right _ (List.mem_append_left _ h))))) zg_j131_X12_must)) rfl rfl rfl (by decide +kernel) ⟨Nat.le_of_ble_eq_true rfl, Nat.le_of_ble_eq_true rfl⟩ 0 rfl rfl rfl rfl (Nat.le_of_ble_eq_true rfl) ⟨Nat.le_of_ble_eq_true rfl, Nat.le_of_ble_eq_true rfl⟩ dX12_tellQuery_29 (fun v ty' w' hp hk' => ?_)
      obtain ⟨I10777, A10777, L10777, hI10777, hA10777, hV10777, r10778, r10779, r10780, r10781, r10782, rfl, rfl⟩ := hp
      have f10783 := IvM_f4 hV10777
      rw [show ((upd I 11 0) 4) = (I 4) from rfl] at r10778
      have f10784 := IvM_f6 hIv
      have f10785 := IvM_f6 hV10777
      rw [show ((upd I 11 0) 6) = (I 6) from rfl] at r10779
      have f10786 := IvM_f8 hIv
      rw [show ((upd I 11 0) 8) = (I 8) from rfl, show (I10777 8) = (I 8) from (hI10777 8 rfl)] at r10780
      rw [show ((upd I 11 0) 4) = (I 4) from rfl] at r10781
      rw [show ((upd I 11 0) 6) = (I 6) from rfl, show (A 2 ((upd I 11 0) 4).toNatClampNeg) = (A 2 (I 4).toNatClampNeg) from rfl] at r10782
      show GW κ 4 0 0 (wM r g I10777 A10777 L10777) 32 [(2, .int (I 4)), (1, .int y10773), (0, .ref (r 0))] []
      refine g_iconst (v := 0) hk dX12_tellQuery_32 (by decide) ?_
      refine g_istore_n (lv' := [(3, .int 0), (2, .int (I 4)), (1, .int y10773), (0, .ref (r 0))]) hk dX12_tellQuery_33 (by decide) rfl ?_
      have f14387 := IvM_f4 hIv
      have f14388 := IvM_f6 hIv
      have f14389 := IvM_f8 hIv
      have lp14395 : ∀ (n14396 : Nat) (x10787 : Int32) (I10791 : Nat → Int32) (A10791 : Nat → Nat → Int32) (L10791 : Nat → Nat → Int64), (Md [8, 9, 13] I10777 I10791) → (Md [] A10777 A10791) → (IvM I10791 A10791) → (0 ≤ x10787.toInt) → (x10787.toInt ≤ 5) → ((I 4).toInt ≤ (I10777 4).toInt) → ((I 6).toInt ≤ (I10777 6).toInt) → ((I 8).toInt ≤ 9 * (I10791 8).toInt) → (6 - x10787.toInt < (n14396 : Int)) → (0 < n14396) → GW κ 4 0 0 (wM r g I10791 A10791 L10791) 34 [(3, .int x10787), (2, .int (I 4)), (1, .int y10773), (0, .ref (r 0))] [] := by
        intro n14396
        induction n14396 with
        | zero =>
          intro x10787 I10791 A10791 L10791 hI10791 hA10791 hV10791 h14390 h14391 h14392 h14393 h14394 m14397 m14397z
          exact absurd m14397z (Nat.lt_irrefl 0)
        | succ n14396 ih14398 =>
          intro x10787 I10791 A10791 L10791 hI10791 hA10791 hV10791 h14390 h14391 h14392 h14393 h14394 m14397 m14397z
          have f14399 := IvM_f8 hV10791
          refine g_iload_n hk dX12_tellQuery_34 rfl ?_
          refine g_aload_n hk dX12_tellQuery_35 rfl ?_
          refine gM_i17 (v := (I 17)) hk hin12 (List.mem_cons_of_mem _ (List.mem_append_left _ (List.mem_of_getElem? (i := 8) rfl))) dX12_tellQuery_36 ((hI10791 17 rfl).trans (hI10777 17 rfl)) ?_
          have f14400 := IvM_f17 hIv
          refine g_icmp_ge (tgt := 77) (a := x10787.toInt) (b := (I 17).toInt) hk dX12_tellQuery_39 (by decide) rfl rfl (fun c14401 => ?_) (fun c14401 => ?_)
          · skip
            refine g_aload_n hk dX12_tellQuery_77 rfl ?_
            refine gM_r0_29 hk hin12 (List.mem_cons_of_mem _ (List.mem_append_left _ (List.mem_of_getElem? (i := 9) rfl))) dX12_tellQuery_78 ?_
            refine g_iload_n hk dX12_tellQuery_81 rfl ?_
            refine g_iconst (v := 0) hk dX12_tellQuery_82 (by decide) ?_
            have k14402 : (0 : Int32).toInt = 0 := rfl
            refine sM_11 (j := y10773.toNatClampNeg) hk (vp_in_iff.mpr ⟨by omega, by omega⟩) rfl dX12_tellQuery_83 ?_
            have hA14403 : ∀ j, 0 ≤ ((up3 A10791 11 (y10773.toNatClampNeg) 0) 11 j).toInt ∧ ((up3 A10791 11 (y10773.toNatClampNeg) 0) 11 j).toInt ≤ 16 := ai_st ((IvM_a11 hV10791)) ⟨by omega, by omega⟩
            have f14687 := IvM_f4 hIv
            have f14688 := IvM_f6 hIv
            have f14689 := IvM_f8 hIv
            have lp14693 : ∀ (n14694 : Nat) (I14408 : Nat → Int32) (A14408 : Nat → Nat → Int32) (L14408 : Nat → Nat → Int64), (Md [4, 6, 7, 8, 9, 11, 12, 13] I10791 I14408) → (Md [11, 12] (up3 A10791 11 (y10773.toNatClampNeg) 0) A14408) → (IvM I14408 A14408) → ((I 4).toInt ≤ (I14408 4).toInt) → ((I 6).toInt ≤ (I14408 6).toInt) → ((I 8).toInt ≤ 9 * (I14408 8).toInt) → (401 - (I14408 4).toInt < (n14694 : Int)) → (0 < n14694) → GW κ 4 0 0 (wM r g I14408 A14408 L14408) 84 [(3, .int x10787), (2, .int (I 4)), (1, .int y10773), (0, .ref (r 0))] [] := by
              intro n14694
              induction n14694 with
              | zero =>
                intro I14408 A14408 L14408 hI14408 hA14408 hV14408 h14690 h14691 h14692 m14695 m14695z
                exact absurd m14695z (Nat.lt_irrefl 0)
              | succ n14694 ih14696 =>
                intro I14408 A14408 L14408 hI14408 hA14408 hV14408 h14690 h14691 h14692 m14695 m14695z
                have f14697 := IvM_f4 hV14408
                have f14698 := IvM_f6 hV14408
                have f14699 := IvM_f8 hV14408
                refine g_aload_n hk dX12_tellQuery_84 rfl ?_
                refine g_callV (n := 0) hk (j130_X12_isReading l D zt r g I14408 A14408 L14408  hV14408) (SP.same _) (fun _ h => h) (gi_V (List.mem_cons_of_mem _ (List.mem_append_left _ (List.mem_of_getElem? (i := 10) rfl))) (List.mem_cons_of_mem _ (List.mem_append_left _ (List.mem_of_getElem? (i := 11) rfl))) (List.mem_cons_of_mem _ (List.mem_append_left _ (List.mem_of_getElem? (i := 12) rfl))) (List.mem_cons_of_mem _ (List.mem_append_left _ (List.mem_of_getElem? (i := 7) rfl))) (gi_sub (fun w h => (List.mem_cons_of_mem _ (List.mem_append_right _ (List.mem_append_right _ (List.mem_append_right _ (List.mem_append_left _ h)))))) zg_j130_X12_isReading)) rfl rfl rfl (by decide +kernel) ⟨Nat.le_of_ble_eq_true rfl, Nat.le_of_ble_eq_true rfl⟩ 0 rfl rfl rfl rfl (Nat.le_of_ble_eq_true rfl) ⟨Nat.le_of_ble_eq_true rfl, Nat.le_of_ble_eq_true rfl⟩ dX12_tellQuery_85 (fun v ty' w' hp hk' => ?_)
                rcases hp with ⟨rfl, rfl⟩ | ⟨rfl, rfl⟩
                · skip
                  show GW κ 4 0 0 (wM r g I14408 A14408 L14408) 88 [(3, .int x10787), (2, .int (I 4)), (1, .int y10773), (0, .ref (r 0))] [.int 0]
                  refine g_if_eq (tgt := 166) (a := 0) hk dX12_tellQuery_88 (by decide) rfl (fun _ => ?_) (fun z9 => absurd (show (0 : Int) = (0 : Int) from by decide) z9)
                  refine g_aload_n hk dX12_tellQuery_166 rfl ?_
                  refine g_iconst (v := 4) hk dX12_tellQuery_167 (by decide) ?_
                  have k14702 : (4 : Int32).toInt = 4 := rfl
                  refine g_callV (n := 1) hk (j125_X12_is l D zt r g I14408 A14408 L14408 4 hV14408) (SP.same _) (fun _ h => h) (gi_V (List.mem_cons_of_mem _ (List.mem_append_left _ (List.mem_of_getElem? (i := 13) rfl))) (List.mem_cons_of_mem _ (List.mem_append_left _ (List.mem_of_getElem? (i := 14) rfl))) (List.mem_cons_of_mem _ (List.mem_append_left _ (List.mem_of_getElem? (i := 15) rfl))) (List.mem_cons_of_mem _ (List.mem_append_left _ (List.mem_of_getElem? (i := 7) rfl))) (gi_sub (fun w h => (List.mem_cons_of_mem _ (List.mem_append_right _ (List.mem_append_right _ (List.mem_append_right _ (List.mem_append_right _ (List.mem_append_left _ h))))))) zg_j125_X12_is)) rfl rfl rfl (by decide +kernel) ⟨Nat.le_of_ble_eq_true rfl, Nat.le_of_ble_eq_true rfl⟩ 0 rfl rfl rfl rfl (Nat.le_of_ble_eq_true rfl) ⟨Nat.le_of_ble_eq_true rfl, Nat.le_of_ble_eq_true rfl⟩ dX12_tellQuery_168 (fun v ty' w' hp hk' => ?_)
                  rcases hp with ⟨c14703, rfl, rfl⟩ | ⟨c14705, rfl, rfl⟩
                  · skip
                    rw [show (A14408 2 (I14408 4).toNatClampNeg) = (A 2 (I14408 4).toNatClampNeg) from ((congrFun (hA14408 2 rfl) _).trans ((congrFun (hA10791 2 rfl) _).trans (congrFun (hA10777 2 rfl) _)))] at c14703
                    show GW κ 4 0 0 (wM r g I14408 A14408 L14408) 171 [(3, .int x10787), (2, .int (I 4)), (1, .int y10773), (0, .ref (r 0))] [.int 0]
                    refine g_if_eq (tgt := 194) (a := 0) hk dX12_tellQuery_171 (by decide) rfl (fun _ => ?_) (fun z9 => absurd (show (0 : Int) = (0 : Int) from by decide) z9)
                    refine g_aload_n hk dX12_tellQuery_194 rfl ?_
                    refine g_iconst (v := 4) hk dX12_tellQuery_195 (by decide) ?_
                    refine g_callV (n := 1) hk (j131_X12_must l D zt r g I14408 A14408 L14408 4 hV14408) (SP.same _) (fun _ h => h) (gi_V (List.mem_cons_of_mem _ (List.mem_append_left _ (List.mem_of_getElem? (i := 4) rfl))) (List.mem_cons_of_mem _ (List.mem_append_left _ (List.mem_of_getElem? (i := 5) rfl))) (List.mem_cons_of_mem _ (List.mem_append_left _ (List.mem_of_getElem? (i := 6) rfl))) (List.mem_cons_of_mem _ (List.mem_append_left _ (List.mem_of_getElem? (i := 7) rfl))) (gi_sub (fun w h => (List.mem_cons_of_mem _ (List.mem_append_right _ (List.mem_append_right _ (List.mem_append_left _ h))))) zg_j131_X12_must)) rfl rfl rfl (by decide +kernel) ⟨Nat.le_of_ble_eq_true rfl, Nat.le_of_ble_eq_true rfl⟩ 0 rfl rfl rfl rfl (Nat.le_of_ble_eq_true rfl) ⟨Nat.le_of_ble_eq_true rfl, Nat.le_of_ble_eq_true rfl⟩ dX12_tellQuery_196 (fun v ty' w' hp hk' => ?_)
                    obtain ⟨I14708, A14708, L14708, hI14708, hA14708, hV14708, r14709, r14710, r14711, r14712, r14713, rfl, rfl⟩ := hp
                    have f14714 := IvM_f4 hV14708
                    have f14715 := IvM_f6 hV14708
                    rw [show (I14708 8) = (I14408 8) from (hI14708 8 rfl)] at r14711
                    rw [show (A14408 2 (I14408 4).toNatClampNeg) = (A 2 (I14408 4).toNatClampNeg) from ((congrFun (hA14408 2 rfl) _).trans ((congrFun (hA10791 2 rfl) _).trans (congrFun (hA10777 2 rfl) _)))] at r14713
                    show GW κ 4 0 0 (wM r g I14708 A14708 L14708) 199 [(3, .int x10787), (2, .int (I 4)), (1, .int y10773), (0, .ref (r 0))] []
                    refine g_aload_n hk dX12_tellQuery_199 rfl ?_
                    refine gM_i6 (v := (I14708 6)) hk hin12 (List.mem_cons_of_mem _ (List.mem_append_left _ (List.mem_of_getElem? (i := 16) rfl))) dX12_tellQuery_200 rfl ?_
                    refine g_if_le (tgt := 207) (a := (I14708 6).toInt) hk dX12_tellQuery_203 (by decide) rfl (fun c14716 => ?_) (fun c14716 => ?_)
                    · skip
                      refine g_aload_n hk dX12_tellQuery_207 rfl ?_
                      refine g_bipush (v := (-2)) hk dX12_tellQuery_208 (by decide) ?_
                      refine pM_i11 hk hin12 (List.mem_cons_of_mem _ (List.mem_append_left _ (List.mem_of_getElem? (i := 0) rfl))) dX12_tellQuery_210 ?_
                      refine g_aload_n hk dX12_tellQuery_213 rfl ?_
                      refine gM_r0_25 hk hin12 (List.mem_cons_of_mem _ (List.mem_append_left _ (List.mem_of_getElem? (i := 17) rfl))) dX12_tellQuery_214 ?_
                      refine g_aload_n hk dX12_tellQuery_217 rfl ?_
                      refine gM_i17 (v := (I 17)) hk hin12 (List.mem_cons_of_mem _ (List.mem_append_left _ (List.mem_of_getElem? (i := 8) rfl))) dX12_tellQuery_218 ((hI14708 17 rfl).trans ((hI14408 17 rfl).trans ((hI10791 17 rfl).trans (hI10777 17 rfl)))) ?_
                      have g14717 : (I14708 16).toInt = (I 16).toInt := by rw [show (I14708 16) = (I 16) from ((hI14708 16 rfl).trans ((hI14408 16 rfl).trans ((hI10791 16 rfl).trans (hI10777 16 rfl))))]
                      have g14718 : (I14708 17).toInt = (I 17).toInt := by rw [show (I14708 17) = (I 17) from ((hI14708 17 rfl).trans ((hI14408 17 rfl).trans ((hI10791 17 rfl).trans (hI10777 17 rfl))))]
                      have g14719 : (A14708 10 0).toInt = (A 10 0).toInt := by rw [show (A14708 10 0) = (A 10 0) from ((congrFun (hA14708 10 rfl) _).trans ((congrFun (hA14408 10 rfl) _).trans ((congrFun (hA10791 10 rfl) _).trans (congrFun (hA10777 10 rfl) _))))]
                      have g14720 : (A14708 10 1).toInt = (A 10 1).toInt := by rw [show (A14708 10 1) = (A 10 1) from ((congrFun (hA14708 10 rfl) _).trans ((congrFun (hA14408 10 rfl) _).trans ((congrFun (hA10791 10 rfl) _).trans (congrFun (hA10777 10 rfl) _))))]
                      have g14721 := (IvM_nq (I := I14708) (A := A14708) hV14708).2 (by omega)
                      refine g_aload_n hk dX12_tellQuery_221 rfl ?_
                      refine gM_r0_8 hk hin12 (List.mem_cons_of_mem _ (List.mem_append_left _ (List.mem_of_getElem? (i := 18) rfl))) dX12_tellQuery_222 ?_
                      refine g_iload_n hk dX12_tellQuery_225 rfl ?_
                      refine lM_5 hk (vp_in_iff.mpr ⟨by omega, by omega⟩) rfl dX12_tellQuery_226 ?_
                      refine g_topl (fun y14722 ey14722 => ?_)
                      refine sM_7 (j := (I 17).toNatClampNeg) hk (vp_in_iff.mpr ⟨by omega, by omega⟩) rfl dX12_tellQuery_227 ?_
                      refine g_aload_n hk dX12_tellQuery_228 rfl ?_
                      refine g_dup hk dX12_tellQuery_229 rfl ?_
                      refine gM_i17 (v := (I 17)) hk hin12 (List.mem_cons_of_mem _ (List.mem_append_left _ (List.mem_of_getElem? (i := 8) rfl))) dX12_tellQuery_230 ((hI14708 17 rfl).trans ((hI14408 17 rfl).trans ((hI10791 17 rfl).trans (hI10777 17 rfl)))) ?_
                      refine g_iconst (v := 1) hk dX12_tellQuery_233 (by decide) ?_
                      refine g_iadd hk dX12_tellQuery_234 ?_
                      refine g_topi (fun y14723 ey14723 => ?_)
                      have hy14723 : y14723.toInt = (I 17).toInt + 1 := i32_add ey14723 rfl rfl (by omega) (by omega)
                      refine pM_i17 hk hin12 (List.mem_cons_of_mem _ (List.mem_append_left _ (List.mem_of_getElem? (i := 8) rfl))) dX12_tellQuery_235 ?_
                      refine g_aload_n hk dX12_tellQuery_238 rfl ?_
                      refine gM_r0_28 hk hin12 (List.mem_cons_of_mem _ (List.mem_append_left _ (List.mem_of_getElem? (i := 2) rfl))) dX12_tellQuery_239 ?_
                      refine g_aload_n hk dX12_tellQuery_242 rfl ?_
                      refine gM_i16 (v := (I 16)) hk hin12 (List.mem_cons_of_mem _ (List.mem_append_left _ (List.mem_of_getElem? (i := 1) rfl))) dX12_tellQuery_243 ((hI14708 16 rfl).trans ((hI14408 16 rfl).trans ((hI10791 16 rfl).trans (hI10777 16 rfl)))) ?_
                      by_cases c14724 : (I 16).toInt = 1
                      · have ec14724 : (I 16) = 1 := Int32.toInt_inj.mp c14724
                        rw [ec14724]
                        show GW κ 4 0 0 (wM r g (upd (upd I14708 11 (-2)) 17 y14723) A14708 (up3L L14708 7 ((I 17).toNatClampNeg) y14722)) 246 [(3, .int x10787), (2, .int (I 4)), (1, .int y10773), (0, .ref (r 0))] [.int 1, .ref (r 11)]
                        refine g_dup2 hk dX12_tellQuery_246 rfl rfl ?_
                        refine lM_10 (v := (A 10 1)) hk (vp_in_iff.mpr ⟨by decide, by decide⟩) ((congrFun (hA14708 10 rfl) _).trans ((congrFun (hA14408 10 rfl) _).trans ((congrFun (hA10791 10 rfl) _).trans (congrFun (hA10777 10 rfl) _)))) dX12_tellQuery_247 ?_
                        refine g_iconst (v := 1) hk dX12_tellQuery_248 (by decide) ?_
                        refine g_iadd hk dX12_tellQuery_249 ?_
                        refine g_topi (fun y14725 ey14725 => ?_)
                        have hy14725 : y14725.toInt = (A 10 1).toInt + 1 := i32_add ey14725 rfl rfl (by omega) (by omega)
                        refine sM_10 (j := 1) hk (vp_in_iff.mpr ⟨by decide, by decide⟩) (by decide) dX12_tellQuery_250 ?_
                        have f14726 := IvM_s10_0 hV14708
                        have f14727 := IvM_s10_1 hV14708
                        have g14728 : (I14708 15).toInt = (I 15).toInt := by rw [show (I14708 15) = (I 15) from ((hI14708 15 rfl).trans ((hI14408 15 rfl).trans ((hI10791 15 rfl).trans (hI10777 15 rfl))))]
                        have g14729 := IvM_s10_0 (I := I14708) (A := A14708) hV14708
                        have g14730 := IvM_s10_1 (I := I14708) (A := A14708) hV14708
                        have g14731 : (I14708 8).toInt = (I14408 8).toInt := by rw [show (I14708 8) = (I14408 8) from (hI14708 8 rfl)]
                        have q14732 := cl_int (y := y10773) (by omega)
                        have g14733 : (A14708 11 y10773.toNatClampNeg).toInt = (A14408 11 y10773.toNatClampNeg).toInt := by rw [show (A14708 11 y10773.toNatClampNeg) = (A14408 11 y10773.toNatClampNeg) from (congrFun (hA14708 11 rfl) _)]
                        have u14734 : (I14408 6).toInt ≠ 0 ∨ (A 2 (I14408 4).toNatClampNeg).toInt ≠ (4 : Int32).toInt := c14703
                        have u14735 : 0 < (I14708 6).toInt ∨ ((I14408 6).toInt = 0 ∧ (A 2 (I14408 4).toNatClampNeg).toInt = (4 : Int32).toInt) := r14713
                        exact g_vret hk hR ⟨(upd (upd I14708 11 (-2)) 17 y14723), (up3 A14708 10 1 y14725), (up3L L14708 7 ((I 17).toNatClampNeg) y14722), (show Md [4, 6, 7, 8, 9, 11, 12, 13, 17] I (upd (upd I14708 11 (-2)) 17 y14723) from (Md.up (Md.up (Md.tr (Md.tr (Md.tr (Md.tr (Md.up Md.rf rfl) hI10777 rfl) hI10791 rfl) hI14408 rfl) hI14708 rfl) rfl) rfl)), (show Md [10, 11, 12] A (up3 A14708 10 1 y14725) from (Md.up3 (Md.tr (Md.tr (Md.up3 (Md.tr (Md.tr Md.rf hA10777 rfl) hA10791 rfl) rfl) hA14408 rfl) hA14708 rfl) rfl)), ⟨(IvM_f1 (I := I14708) (A := A14708) hV14708), (IvM_f2 (I := I14708) (A := A14708) hV14708), (IvM_f3 (I := I14708) (A := A14708) hV14708), (IvM_f4 (I := I14708) (A := A14708) hV14708), (IvM_f6 (I := I14708) (A := A14708) hV14708), (IvM_f8 (I := I14708) (A := A14708) hV14708), (IvM_f15 (I := I14708) (A := A14708) hV14708), (IvM_f16 (I := I14708) (A := A14708) hV14708), (show 0 ≤ y14723.toInt ∧ y14723.toInt ≤ 5 from ⟨by omega, by omega⟩), (IvM_f18 (I := I14708) (A := A14708) hV14708), (IvM_f22 (I := I14708) (A := A14708) hV14708), (IvM_f23 (I := I14708) (A := A14708) hV14708), (IvM_f24 (I := I14708) (A := A14708) hV14708), (IvM_a11 (I := I14708) (A := A14708) hV14708), (IvM_a26 (I := I14708) (A := A14708) hV14708), (IvM_s8_0 (I := I14708) (A := A14708) hV14708), (IvM_s8_1 (I := I14708) (A := A14708) hV14708), (show 0 ≤ ((up3 A14708 10 1 y14725) 10 0).toInt ∧ ((up3 A14708 10 1 y14725) 10 0).toInt ≤ 5 from by rw [show (up3 A14708 10 1 y14725) 10 0 = (A14708 10 0) from rfl]; exact (IvM_s10_0 (I := I14708) (A := A14708) hV14708)), (show 0 ≤ ((up3 A14708 10 1 y14725) 10 1).toInt ∧ ((up3 A14708 10 1 y14725) 10 1).toInt ≤ 5 from by rw [show (up3 A14708 10 1 y14725) 10 1 = y14725 from rfl]; exact ⟨by omega, by omega⟩), (IvM_s17_0 (I := I14708) (A := A14708) hV14708), (IvM_s17_164 (I := I14708) (A := A14708) hV14708), ⟨fun e => by have e : (I14708 15).toInt = 0 := e; first | exact (IvM_lv (I := I14708) (A := A14708) hV14708).1 e | (exfalso; omega), fun e => by have e : (I14708 15).toInt = 1 := e; first | exact (IvM_lv (I := I14708) (A := A14708) hV14708).2 e | (exfalso; omega)⟩, (by first | (exfalso; omega) | (by_cases g8 : (I14708 8).toInt ≠ 0; exact Or.inr (Or.inl g8); rcases (IvM_sd (I := I14708) (A := A14708) hV14708) with h9 | h9 | h9; exact absurd h9 (by omega); exact absurd h9 g8; exact Or.inr (Or.inr ⟨fun e => by have e : (I14708 16).toInt = 0 := e; first | exact ghf_add (n := (A14708 10 0)) (f := (A14708 11)) (n2 := y14725) (p := y10773.toNatClampNeg) (h9.1 e) (by omega) (by omega) (by omega) | (exfalso; omega), fun e => by have e : (I14708 16).toInt = 1 := e; first | exact ghf_add (n := (A14708 10 1)) (f := (A14708 11)) (n2 := y14725) (p := y10773.toNatClampNeg) (h9.2 e) (by omega) (by omega) (by omega) | (exfalso; omega)⟩))), ⟨fun e => by have e : (I14708 16).toInt = 0 := e; first | (exfalso; omega) | (show y14723.toInt = (A14708 10 0).toInt; omega), fun e => by have e : (I14708 16).toInt = 1 := e; first | (exfalso; omega) | (show y14723.toInt = y14725.toInt; omega)⟩, (IvM_hr (I := I14708) (A := A14708) hV14708), (IvM_hh (I := I14708) (A := A14708) hV14708), trivial⟩, (by rw [show ((upd (upd I14708 11 (-2)) 17 y14723) 4) = (I14708 4) from rfl] <;> omega), (by rw [show ((upd (upd I14708 11 (-2)) 17 y14723) 6) = (I14708 6) from rfl] <;> omega), (by rw [show ((upd (upd I14708 11 (-2)) 17 y14723) 8) = (I14408 8) from (hI14708 8 rfl)] <;> omega), rfl, rfl⟩ dX12_tellQuery_251
                      exfalso; omega
                    · skip
                      exact g_vret hk hR ⟨I14708, A14708, L14708, (show Md [4, 6, 7, 8, 9, 11, 12, 13, 17] I I14708 from (Md.tr (Md.tr (Md.tr (Md.tr (Md.up Md.rf rfl) hI10777 rfl) hI10791 rfl) hI14408 rfl) hI14708 rfl)), (show Md [10, 11, 12] A A14708 from (Md.tr (Md.tr (Md.up3 (Md.tr (Md.tr Md.rf hA10777 rfl) hA10791 rfl) rfl) hA14408 rfl) hA14708 rfl)), hV14708, (by omega), (by omega), (by rw [show (I14708 8) = (I14408 8) from (hI14708 8 rfl)] <;> omega), rfl, rfl⟩ dX12_tellQuery_206
                  · skip
                    rw [show (A14408 2 (I14408 4).toNatClampNeg) = (A 2 (I14408 4).toNatClampNeg) from ((congrFun (hA14408 2 rfl) _).trans ((congrFun (hA10791 2 rfl) _).trans (congrFun (hA10777 2 rfl) _)))] at c14705
                    show GW κ 4 0 0 (wM r g I14408 A14408 L14408) 171 [(3, .int x10787), (2, .int (I 4)), (1, .int y10773), (0, .ref (r 0))] [.int 1]
                    refine g_if_eq (tgt := 194) (a := 1) hk dX12_tellQuery_171 (by decide) rfl (fun z9 => absurd z9 (show ¬ ((1 : Int) = (0 : Int)) from by decide)) (fun _ => ?_)
                    refine g_aload_n hk dX12_tellQuery_174 rfl ?_
                    refine gM_r0_29 hk hin12 (List.mem_cons_of_mem _ (List.mem_append_left _ (List.mem_of_getElem? (i := 9) rfl))) dX12_tellQuery_175 ?_
                    refine g_iload_n hk dX12_tellQuery_178 rfl ?_
                    refine lM_11 (v := (A14408 11 y10773.toNatClampNeg)) hk (vp_in_iff.mpr ⟨by omega, by omega⟩) rfl dX12_tellQuery_179 ?_
                    have f14736 := IvM_a11 hV14408 (y10773.toNatClampNeg)
                    refine g_iconst (v := 2) hk dX12_tellQuery_180 (by decide) ?_
                    refine g_icmp_ge (tgt := 194) (a := (A14408 11 y10773.toNatClampNeg).toInt) (b := 2) hk dX12_tellQuery_181 (by decide) rfl rfl (fun c14737 => ?_) (fun c14737 => ?_)
                    · skip
                      refine g_aload_n hk dX12_tellQuery_194 rfl ?_
                      refine g_iconst (v := 4) hk dX12_tellQuery_195 (by decide) ?_
                      refine g_callV (n := 1) hk (j131_X12_must l D zt r g I14408 A14408 L14408 4 hV14408) (SP.same _) (fun _ h => h) (gi_V (List.mem_cons_of_mem _ (List.mem_append_left _ (List.mem_of_getElem? (i := 4) rfl))) (List.mem_cons_of_mem _ (List.mem_append_left _ (List.mem_of_getElem? (i := 5) rfl))) (List.mem_cons_of_mem _ (List.mem_append_left _ (List.mem_of_getElem? (i := 6) rfl))) (List.mem_cons_of_mem _ (List.mem_append_left _ (List.mem_of_getElem? (i := 7) rfl))) (gi_sub (fun w h => (List.mem_cons_of_mem _ (List.mem_append_right _ (List.mem_append_right _ (List.mem_append_left _ h))))) zg_j131_X12_must)) rfl rfl rfl (by decide +kernel) ⟨Nat.le_of_ble_eq_true rfl, Nat.le_of_ble_eq_true rfl⟩ 0 rfl rfl rfl rfl (Nat.le_of_ble_eq_true rfl) ⟨Nat.le_of_ble_eq_true rfl, Nat.le_of_ble_eq_true rfl⟩ dX12_tellQuery_196 (fun v ty' w' hp hk' => ?_)
                      obtain ⟨I14739, A14739, L14739, hI14739, hA14739, hV14739, r14740, r14741, r14742, r14743, r14744, rfl, rfl⟩ := hp
                      have f14745 := IvM_f4 hV14739
                      have f14746 := IvM_f6 hV14739
                      rw [show (I14739 8) = (I14408 8) from (hI14739 8 rfl)] at r14742
                      rw [show (A14408 2 (I14408 4).toNatClampNeg) = (A 2 (I14408 4).toNatClampNeg) from ((congrFun (hA14408 2 rfl) _).trans ((congrFun (hA10791 2 rfl) _).trans (congrFun (hA10777 2 rfl) _)))] at r14744
                      show GW κ 4 0 0 (wM r g I14739 A14739 L14739) 199 [(3, .int x10787), (2, .int (I 4)), (1, .int y10773), (0, .ref (r 0))] []
                      refine g_aload_n hk dX12_tellQuery_199 rfl ?_
                      refine gM_i6 (v := (I14739 6)) hk hin12 (List.mem_cons_of_mem _ (List.mem_append_left _ (List.mem_of_getElem? (i := 16) rfl))) dX12_tellQuery_200 rfl ?_
                      refine g_if_le (tgt := 207) (a := (I14739 6).toInt) hk dX12_tellQuery_203 (by decide) rfl (fun c14747 => ?_) (fun c14747 => ?_)
                      · skip
                        refine g_aload_n hk dX12_tellQuery_207 rfl ?_
                        refine g_bipush (v := (-2)) hk dX12_tellQuery_208 (by decide) ?_
                        refine pM_i11 hk hin12 (List.mem_cons_of_mem _ (List.mem_append_left _ (List.mem_of_getElem? (i := 0) rfl))) dX12_tellQuery_210 ?_
                        refine g_aload_n hk dX12_tellQuery_213 rfl ?_
                        refine gM_r0_25 hk hin12 (List.mem_cons_of_mem _ (List.mem_append_left _ (List.mem_of_getElem? (i := 17) rfl))) dX12_tellQuery_214 ?_
                        refine g_aload_n hk dX12_tellQuery_217 rfl ?_
                        refine gM_i17 (v := (I 17)) hk hin12 (List.mem_cons_of_mem _ (List.mem_append_left _ (List.mem_of_getElem? (i := 8) rfl))) dX12_tellQuery_218 ((hI14739 17 rfl).trans ((hI14408 17 rfl).trans ((hI10791 17 rfl).trans (hI10777 17 rfl)))) ?_
                        have g14748 : (I14739 16).toInt = (I 16).toInt := by rw [show (I14739 16) = (I 16) from ((hI14739 16 rfl).trans ((hI14408 16 rfl).trans ((hI10791 16 rfl).trans (hI10777 16 rfl))))]
                        have g14749 : (I14739 17).toInt = (I 17).toInt := by rw [show (I14739 17) = (I 17) from ((hI14739 17 rfl).trans ((hI14408 17 rfl).trans ((hI10791 17 rfl).trans (hI10777 17 rfl))))]
                        have g14750 : (A14739 10 0).toInt = (A 10 0).toInt := by rw [show (A14739 10 0) = (A 10 0) from ((congrFun (hA14739 10 rfl) _).trans ((congrFun (hA14408 10 rfl) _).trans ((congrFun (hA10791 10 rfl) _).trans (congrFun (hA10777 10 rfl) _))))]
                        have g14751 : (A14739 10 1).toInt = (A 10 1).toInt := by rw [show (A14739 10 1) = (A 10 1) from ((congrFun (hA14739 10 rfl) _).trans ((congrFun (hA14408 10 rfl) _).trans ((congrFun (hA10791 10 rfl) _).trans (congrFun (hA10777 10 rfl) _))))]
                        have g14752 := (IvM_nq (I := I14739) (A := A14739) hV14739).2 (by omega)
                        refine g_aload_n hk dX12_tellQuery_221 rfl ?_
                        refine gM_r0_8 hk hin12 (List.mem_cons_of_mem _ (List.mem_append_left _ (List.mem_of_getElem? (i := 18) rfl))) dX12_tellQuery_222 ?_
                        refine g_iload_n hk dX12_tellQuery_225 rfl ?_
                        refine lM_5 hk (vp_in_iff.mpr ⟨by omega, by omega⟩) rfl dX12_tellQuery_226 ?_
                        refine g_topl (fun y14753 ey14753 => ?_)
                        refine sM_7 (j := (I 17).toNatClampNeg) hk (vp_in_iff.mpr ⟨by omega, by omega⟩) rfl dX12_tellQuery_227 ?_
                        refine g_aload_n hk dX12_tellQuery_228 rfl ?_
                        refine g_dup hk dX12_tellQuery_229 rfl ?_
                        refine gM_i17 (v := (I 17)) hk hin12 (List.mem_cons_of_mem _ (List.mem_append_left _ (List.mem_of_getElem? (i := 8) rfl))) dX12_tellQuery_230 ((hI14739 17 rfl).trans ((hI14408 17 rfl).trans ((hI10791 17 rfl).trans (hI10777 17 rfl)))) ?_
                        refine g_iconst (v := 1) hk dX12_tellQuery_233 (by decide) ?_
                        refine g_iadd hk dX12_tellQuery_234 ?_
                        refine g_topi (fun y14754 ey14754 => ?_)
                        have hy14754 : y14754.toInt = (I 17).toInt + 1 := i32_add ey14754 rfl rfl (by omega) (by omega)
                        refine pM_i17 hk hin12 (List.mem_cons_of_mem _ (List.mem_append_left _ (List.mem_of_getElem? (i := 8) rfl))) dX12_tellQuery_235 ?_
                        refine g_aload_n hk dX12_tellQuery_238 rfl ?_
                        refine gM_r0_28 hk hin12 (List.mem_cons_of_mem _ (List.mem_append_left _ (List.mem_of_getElem? (i := 2) rfl))) dX12_tellQuery_239 ?_
                        refine g_aload_n hk dX12_tellQuery_242 rfl ?_
                        refine gM_i16 (v := (I 16)) hk hin12 (List.mem_cons_of_mem _ (List.mem_append_left _ (List.mem_of_getElem? (i := 1) rfl))) dX12_tellQuery_243 ((hI14739 16 rfl).trans ((hI14408 16 rfl).trans ((hI10791 16 rfl).trans (hI10777 16 rfl)))) ?_
                        by_cases c14755 : (I 16).toInt = 1
                        · have ec14755 : (I 16) = 1 := Int32.toInt_inj.mp c14755
                          rw [ec14755]
                          show GW κ 4 0 0 (wM r g (upd (upd I14739 11 (-2)) 17 y14754) A14739 (up3L L14739 7 ((I 17).toNatClampNeg) y14753)) 246 [(3, .int x10787), (2, .int (I 4)), (1, .int y10773), (0, .ref (r 0))] [.int 1, .ref (r 11)]
                          refine g_dup2 hk dX12_tellQuery_246 rfl rfl ?_
                          refine lM_10 (v := (A 10 1)) hk (vp_in_iff.mpr ⟨by decide, by decide⟩) ((congrFun (hA14739 10 rfl) _).trans ((congrFun (hA14408 10 rfl) _).trans ((congrFun (hA10791 10 rfl) _).trans (congrFun (hA10777 10 rfl) _)))) dX12_tellQuery_247 ?_
                          refine g_iconst (v := 1) hk dX12_tellQuery_248 (by decide) ?_
                          refine g_iadd hk dX12_tellQuery_249 ?_
                          refine g_topi (fun y14756 ey14756 => ?_)
                          have hy14756 : y14756.toInt = (A 10 1).toInt + 1 := i32_add ey14756 rfl rfl (by omega) (by omega)
                          refine sM_10 (j := 1) hk (vp_in_iff.mpr ⟨by decide, by decide⟩) (by decide) dX12_tellQuery_250 ?_
                          have f14757 := IvM_s10_0 hV14739
                          have f14758 := IvM_s10_1 hV14739
                          have g14759 : (I14739 15).toInt = (I 15).toInt := by rw [show (I14739 15) = (I 15) from ((hI14739 15 rfl).trans ((hI14408 15 rfl).trans ((hI10791 15 rfl).trans (hI10777 15 rfl))))]
                          have g14760 := IvM_s10_0 (I := I14739) (A := A14739) hV14739
                          have g14761 := IvM_s10_1 (I := I14739) (A := A14739) hV14739
                          have g14762 : (I14739 8).toInt = (I14408 8).toInt := by rw [show (I14739 8) = (I14408 8) from (hI14739 8 rfl)]
                          have q14763 := cl_int (y := y10773) (by omega)
                          have g14764 : (A14739 11 y10773.toNatClampNeg).toInt = (A14408 11 y10773.toNatClampNeg).toInt := by rw [show (A14739 11 y10773.toNatClampNeg) = (A14408 11 y10773.toNatClampNeg) from (congrFun (hA14739 11 rfl) _)]
                          have u14765 : 0 < (I10777 6).toInt ∨ ((I 6).toInt = 0 ∧ (A 2 (I 4).toNatClampNeg).toInt = (1 : Int32).toInt) := r10782
                          have u14766 : 0 < (I14739 6).toInt ∨ ((I14408 6).toInt = 0 ∧ (A 2 (I14408 4).toNatClampNeg).toInt = (4 : Int32).toInt) := r14744
                          exact g_vret hk hR ⟨(upd (upd I14739 11 (-2)) 17 y14754), (up3 A14739 10 1 y14756), (up3L L14739 7 ((I 17).toNatClampNeg) y14753), (show Md [4, 6, 7, 8, 9, 11, 12, 13, 17] I (upd (upd I14739 11 (-2)) 17 y14754) from (Md.up (Md.up (Md.tr (Md.tr (Md.tr (Md.tr (Md.up Md.rf rfl) hI10777 rfl) hI10791 rfl) hI14408 rfl) hI14739 rfl) rfl) rfl)), (show Md [10, 11, 12] A (up3 A14739 10 1 y14756) from (Md.up3 (Md.tr (Md.tr (Md.up3 (Md.tr (Md.tr Md.rf hA10777 rfl) hA10791 rfl) rfl) hA14408 rfl) hA14739 rfl) rfl)), ⟨(IvM_f1 (I := I14739) (A := A14739) hV14739), (IvM_f2 (I := I14739) (A := A14739) hV14739), (IvM_f3 (I := I14739) (A := A14739) hV14739), (IvM_f4 (I := I14739) (A := A14739) hV14739), (IvM_f6 (I := I14739) (A := A14739) hV14739), (IvM_f8 (I := I14739) (A := A14739) hV14739), (IvM_f15 (I := I14739) (A := A14739) hV14739), (IvM_f16 (I := I14739) (A := A14739) hV14739), (show 0 ≤ y14754.toInt ∧ y14754.toInt ≤ 5 from ⟨by omega, by omega⟩), (IvM_f18 (I := I14739) (A := A14739) hV14739), (IvM_f22 (I := I14739) (A := A14739) hV14739), (IvM_f23 (I := I14739) (A := A14739) hV14739), (IvM_f24 (I := I14739) (A := A14739) hV14739), (IvM_a11 (I := I14739) (A := A14739) hV14739), (IvM_a26 (I := I14739) (A := A14739) hV14739), (IvM_s8_0 (I := I14739) (A := A14739) hV14739), (IvM_s8_1 (I := I14739) (A := A14739) hV14739), (show 0 ≤ ((up3 A14739 10 1 y14756) 10 0).toInt ∧ ((up3 A14739 10 1 y14756) 10 0).toInt ≤ 5 from by rw [show (up3 A14739 10 1 y14756) 10 0 = (A14739 10 0) from rfl]; exact (IvM_s10_0 (I := I14739) (A := A14739) hV14739)), (show 0 ≤ ((up3 A14739 10 1 y14756) 10 1).toInt ∧ ((up3 A14739 10 1 y14756) 10 1).toInt ≤ 5 from by rw [show (up3 A14739 10 1 y14756) 10 1 = y14756 from rfl]; exact ⟨by omega, by omega⟩), (IvM_s17_0 (I := I14739) (A := A14739) hV14739), (IvM_s17_164 (I := I14739) (A := A14739) hV14739), ⟨fun e => by have e : (I14739 15).toInt = 0 := e; first | exact (IvM_lv (I := I14739) (A := A14739) hV14739).1 e | (exfalso; omega), fun e => by have e : (I14739 15).toInt = 1 := e; first | exact (IvM_lv (I := I14739) (A := A14739) hV14739).2 e | (exfalso; omega)⟩, (by first | (exfalso; omega) | (by_cases g8 : (I14739 8).toInt ≠ 0; exact Or.inr (Or.inl g8); rcases (IvM_sd (I := I14739) (A := A14739) hV14739) with h9 | h9 | h9; exact absurd h9 (by omega); exact absurd h9 g8; exact Or.inr (Or.inr ⟨fun e => by have e : (I14739 16).toInt = 0 := e; first | exact ghf_add (n := (A14739 10 0)) (f := (A14739 11)) (n2 := y14756) (p := y10773.toNatClampNeg) (h9.1 e) (by omega) (by omega) (by omega) | (exfalso; omega), fun e => by have e : (I14739 16).toInt = 1 := e; first | exact ghf_add (n := (A14739 10 1)) (f := (A14739 11)) (n2 := y14756) (p := y10773.toNatClampNeg) (h9.2 e) (by omega) (by omega) (by omega) | (exfalso; omega)⟩))), ⟨fun e => by have e : (I14739 16).toInt = 0 := e; first | (exfalso; omega) | (show y14754.toInt = (A14739 10 0).toInt; omega), fun e => by have e : (I14739 16).toInt = 1 := e; first | (exfalso; omega) | (show y14754.toInt = y14756.toInt; omega)⟩, (IvM_hr (I := I14739) (A := A14739) hV14739), (IvM_hh (I := I14739) (A := A14739) hV14739), trivial⟩, (by rw [show ((upd (upd I14739 11 (-2)) 17 y14754) 4) = (I14739 4) from rfl] <;> omega), (by rw [show ((upd (upd I14739 11 (-2)) 17 y14754) 6) = (I14739 6) from rfl] <;> omega), (by rw [show ((upd (upd I14739 11 (-2)) 17 y14754) 8) = (I14408 8) from (hI14739 8 rfl)] <;> omega), rfl, rfl⟩ dX12_tellQuery_251
                        exfalso; omega
                      · skip
                        exact g_vret hk hR ⟨I14739, A14739, L14739, (show Md [4, 6, 7, 8, 9, 11, 12, 13, 17] I I14739 from (Md.tr (Md.tr (Md.tr (Md.tr (Md.up Md.rf rfl) hI10777 rfl) hI10791 rfl) hI14408 rfl) hI14739 rfl)), (show Md [10, 11, 12] A A14739 from (Md.tr (Md.tr (Md.up3 (Md.tr (Md.tr Md.rf hA10777 rfl) hA10791 rfl) rfl) hA14408 rfl) hA14739 rfl)), hV14739, (by omega), (by omega), (by rw [show (I14739 8) = (I14408 8) from (hI14739 8 rfl)] <;> omega), rfl, rfl⟩ dX12_tellQuery_206
                    · skip
                      refine g_aload_n hk dX12_tellQuery_184 rfl ?_
                      refine g_bipush (v := 6) hk dX12_tellQuery_185 (by decide) ?_
                      refine g_aload_n hk dX12_tellQuery_187 rfl ?_
                      refine gM_i4 (v := (I14408 4)) hk hin12 (List.mem_cons_of_mem _ (List.mem_append_left _ (List.mem_of_getElem? (i := 3) rfl))) dX12_tellQuery_188 rfl ?_
                      have k14767 : (6 : Int32).toInt = 6 := rfl
                      refine g_callV (n := 2) hk (j134_X12_wrong l D zt r g I14408 A14408 L14408 6 (I14408 4) hV14408 (by decide) (by decide) (by omega) (by omega)) (SP.same _) (fun _ h => h) (gi_V (List.mem_cons_of_mem _ (List.mem_append_left _ (List.mem_of_getElem? (i := 19) rfl))) (List.mem_cons_of_mem _ (List.mem_append_left _ (List.mem_of_getElem? (i := 20) rfl))) (List.mem_cons_of_mem _ (List.mem_append_left _ (List.mem_of_getElem? (i := 21) rfl))) (List.mem_cons_of_mem _ (List.mem_append_left _ (List.mem_of_getElem? (i := 7) rfl))) (gi_sub (fun w h => (List.mem_cons_of_mem _ (List.mem_append_right _ (List.mem_append_right _ (List.mem_append_right _ (List.mem_append_right _ (List.mem_append_right _ (List.mem_append_left _ h)))))))) zg_j134_X12_wrong)) rfl rfl rfl (by decide +kernel) ⟨Nat.le_of_ble_eq_true rfl, Nat.le_of_ble_eq_true rfl⟩ 0 rfl rfl rfl rfl (Nat.le_of_ble_eq_true rfl) ⟨Nat.le_of_ble_eq_true rfl, Nat.le_of_ble_eq_true rfl⟩ dX12_tellQuery_191 (fun v ty' w' hp hk' => ?_)
                      obtain ⟨I14769, A14769, L14769, hI14769, hA14769, hV14769, r14770, r14771, r14772, rfl, rfl⟩ := hp
                      rw [show (I14769 6) = (I14408 6) from (hI14769 6 rfl)] at r14770
                      have f14773 := IvM_f8 hV14769
                      rw [show (I14769 6) = (I14408 6) from (hI14769 6 rfl)] at r14772
                      show GW κ 4 0 0 (wM r g I14769 A14769 L14769) 194 [(3, .int x10787), (2, .int (I 4)), (1, .int y10773), (0, .ref (r 0))] []
                      refine g_aload_n hk dX12_tellQuery_194 rfl ?_
                      refine g_iconst (v := 4) hk dX12_tellQuery_195 (by decide) ?_
                      refine g_callV (n := 1) hk (j131_X12_must l D zt r g I14769 A14769 L14769 4 hV14769) (SP.same _) (fun _ h => h) (gi_V (List.mem_cons_of_mem _ (List.mem_append_left _ (List.mem_of_getElem? (i := 4) rfl))) (List.mem_cons_of_mem _ (List.mem_append_left _ (List.mem_of_getElem? (i := 5) rfl))) (List.mem_cons_of_mem _ (List.mem_append_left _ (List.mem_of_getElem? (i := 6) rfl))) (List.mem_cons_of_mem _ (List.mem_append_left _ (List.mem_of_getElem? (i := 7) rfl))) (gi_sub (fun w h => (List.mem_cons_of_mem _ (List.mem_append_right _ (List.mem_append_right _ (List.mem_append_left _ h))))) zg_j131_X12_must)) rfl rfl rfl (by decide +kernel) ⟨Nat.le_of_ble_eq_true rfl, Nat.le_of_ble_eq_true rfl⟩ 0 rfl rfl rfl rfl (Nat.le_of_ble_eq_true rfl) ⟨Nat.le_of_ble_eq_true rfl, Nat.le_of_ble_eq_true rfl⟩ dX12_tellQuery_196 (fun v ty' w' hp hk' => ?_)
                      obtain ⟨I14775, A14775, L14775, hI14775, hA14775, hV14775, r14776, r14777, r14778, r14779, r14780, rfl, rfl⟩ := hp
                      have f14781 := IvM_f4 hV14775
                      rw [show (I14769 4) = (I14408 4) from (hI14769 4 rfl)] at r14776
                      have f14782 := IvM_f6 hV14775
                      rw [show (I14769 6) = (I14408 6) from (hI14769 6 rfl)] at r14777
                      rw [show (I14775 8) = (I14769 8) from (hI14775 8 rfl)] at r14778
                      rw [show (I14769 4) = (I14408 4) from (hI14769 4 rfl)] at r14779
                      rw [show (I14769 6) = (I14408 6) from (hI14769 6 rfl), show (A14769 2 (I14769 4).toNatClampNeg) = (A 2 (I14408 4).toNatClampNeg) from (by rw [show I14769 4 = (I14408 4) from (hI14769 4 rfl)]; exact ((congrFun (hA14769 2 rfl) _).trans ((congrFun (hA14408 2 rfl) _).trans ((congrFun (hA10791 2 rfl) _).trans (congrFun (hA10777 2 rfl) _)))))] at r14780
                      show GW κ 4 0 0 (wM r g I14775 A14775 L14775) 199 [(3, .int x10787), (2, .int (I 4)), (1, .int y10773), (0, .ref (r 0))] []
                      refine g_aload_n hk dX12_tellQuery_199 rfl ?_
                      refine gM_i6 (v := (I14775 6)) hk hin12 (List.mem_cons_of_mem _ (List.mem_append_left _ (List.mem_of_getElem? (i := 16) rfl))) dX12_tellQuery_200 rfl ?_
                      refine g_if_le (tgt := 207) (a := (I14775 6).toInt) hk dX12_tellQuery_203 (by decide) rfl (fun c14783 => ?_) (fun c14783 => ?_)
                      · skip
                        refine g_aload_n hk dX12_tellQuery_207 rfl ?_
                        refine g_bipush (v := (-2)) hk dX12_tellQuery_208 (by decide) ?_
                        refine pM_i11 hk hin12 (List.mem_cons_of_mem _ (List.mem_append_left _ (List.mem_of_getElem? (i := 0) rfl))) dX12_tellQuery_210 ?_
                        refine g_aload_n hk dX12_tellQuery_213 rfl ?_
                        refine gM_r0_25 hk hin12 (List.mem_cons_of_mem _ (List.mem_append_left _ (List.mem_of_getElem? (i := 17) rfl))) dX12_tellQuery_214 ?_
                        refine g_aload_n hk dX12_tellQuery_217 rfl ?_
                        refine gM_i17 (v := (I 17)) hk hin12 (List.mem_cons_of_mem _ (List.mem_append_left _ (List.mem_of_getElem? (i := 8) rfl))) dX12_tellQuery_218 ((hI14775 17 rfl).trans ((hI14769 17 rfl).trans ((hI14408 17 rfl).trans ((hI10791 17 rfl).trans (hI10777 17 rfl))))) ?_
                        have g14784 : (I14775 16).toInt = (I 16).toInt := by rw [show (I14775 16) = (I 16) from ((hI14775 16 rfl).trans ((hI14769 16 rfl).trans ((hI14408 16 rfl).trans ((hI10791 16 rfl).trans (hI10777 16 rfl)))))]
                        have g14785 : (I14775 17).toInt = (I 17).toInt := by rw [show (I14775 17) = (I 17) from ((hI14775 17 rfl).trans ((hI14769 17 rfl).trans ((hI14408 17 rfl).trans ((hI10791 17 rfl).trans (hI10777 17 rfl)))))]
                        have g14786 : (A14775 10 0).toInt = (A 10 0).toInt := by rw [show (A14775 10 0) = (A 10 0) from ((congrFun (hA14775 10 rfl) _).trans ((congrFun (hA14769 10 rfl) _).trans ((congrFun (hA14408 10 rfl) _).trans ((congrFun (hA10791 10 rfl) _).trans (congrFun (hA10777 10 rfl) _)))))]
                        have g14787 : (A14775 10 1).toInt = (A 10 1).toInt := by rw [show (A14775 10 1) = (A 10 1) from ((congrFun (hA14775 10 rfl) _).trans ((congrFun (hA14769 10 rfl) _).trans ((congrFun (hA14408 10 rfl) _).trans ((congrFun (hA10791 10 rfl) _).trans (congrFun (hA10777 10 rfl) _)))))]
                        have g14788 := (IvM_nq (I := I14775) (A := A14775) hV14775).2 (by omega)
                        refine g_aload_n hk dX12_tellQuery_221 rfl ?_
                        refine gM_r0_8 hk hin12 (List.mem_cons_of_mem _ (List.mem_append_left _ (List.mem_of_getElem? (i := 18) rfl))) dX12_tellQuery_222 ?_
                        refine g_iload_n hk dX12_tellQuery_225 rfl ?_
                        refine lM_5 hk (vp_in_iff.mpr ⟨by omega, by omega⟩) rfl dX12_tellQuery_226 ?_
                        refine g_topl (fun y14789 ey14789 => ?_)
                        refine sM_7 (j := (I 17).toNatClampNeg) hk (vp_in_iff.mpr ⟨by omega, by omega⟩) rfl dX12_tellQuery_227 ?_
                        refine g_aload_n hk dX12_tellQuery_228 rfl ?_
                        refine g_dup hk dX12_tellQuery_229 rfl ?_
                        refine gM_i17 (v := (I 17)) hk hin12 (List.mem_cons_of_mem _ (List.mem_append_left _ (List.mem_of_getElem? (i := 8) rfl))) dX12_tellQuery_230 ((hI14775 17 rfl).trans ((hI14769 17 rfl).trans ((hI14408 17 rfl).trans ((hI10791 17 rfl).trans (hI10777 17 rfl))))) ?_
                        refine g_iconst (v := 1) hk dX12_tellQuery_233 (by decide) ?_
                        refine g_iadd hk dX12_tellQuery_234 ?_
                        refine g_topi (fun y14790 ey14790 => ?_)
                        have hy14790 : y14790.toInt = (I 17).toInt + 1 := i32_add ey14790 rfl rfl (by omega) (by omega)
                        refine pM_i17 hk hin12 (List.mem_cons_of_mem _ (List.mem_append_left _ (List.mem_of_getElem? (i := 8) rfl))) dX12_tellQuery_235 ?_
                        refine g_aload_n hk dX12_tellQuery_238 rfl ?_
                        refine gM_r0_28 hk hin12 (List.mem_cons_of_mem _ (List.mem_append_left _ (List.mem_of_getElem? (i := 2) rfl))) dX12_tellQuery_239 ?_
                        refine g_aload_n hk dX12_tellQuery_242 rfl ?_
                        refine gM_i16 (v := (I 16)) hk hin12 (List.mem_cons_of_mem _ (List.mem_append_left _ (List.mem_of_getElem? (i := 1) rfl))) dX12_tellQuery_243 ((hI14775 16 rfl).trans ((hI14769 16 rfl).trans ((hI14408 16 rfl).trans ((hI10791 16 rfl).trans (hI10777 16 rfl))))) ?_
                        by_cases c14791 : (I 16).toInt = 1
                        · have ec14791 : (I 16) = 1 := Int32.toInt_inj.mp c14791
                          rw [ec14791]
                          show GW κ 4 0 0 (wM r g (upd (upd I14775 11 (-2)) 17 y14790) A14775 (up3L L14775 7 ((I 17).toNatClampNeg) y14789)) 246 [(3, .int x10787), (2, .int (I 4)), (1, .int y10773), (0, .ref (r 0))] [.int 1, .ref (r 11)]
                          refine g_dup2 hk dX12_tellQuery_246 rfl rfl ?_
                          refine lM_10 (v := (A 10 1)) hk (vp_in_iff.mpr ⟨by decide, by decide⟩) ((congrFun (hA14775 10 rfl) _).trans ((congrFun (hA14769 10 rfl) _).trans ((congrFun (hA14408 10 rfl) _).trans ((congrFun (hA10791 10 rfl) _).trans (congrFun (hA10777 10 rfl) _))))) dX12_tellQuery_247 ?_
                          refine g_iconst (v := 1) hk dX12_tellQuery_248 (by decide) ?_
                          refine g_iadd hk dX12_tellQuery_249 ?_
                          refine g_topi (fun y14792 ey14792 => ?_)
                          have hy14792 : y14792.toInt = (A 10 1).toInt + 1 := i32_add ey14792 rfl rfl (by omega) (by omega)
                          refine sM_10 (j := 1) hk (vp_in_iff.mpr ⟨by decide, by decide⟩) (by decide) dX12_tellQuery_250 ?_
                          have f14793 := IvM_s10_0 hV14775
                          have f14794 := IvM_s10_1 hV14775
                          have g14795 : (I14775 15).toInt = (I 15).toInt := by rw [show (I14775 15) = (I 15) from ((hI14775 15 rfl).trans ((hI14769 15 rfl).trans ((hI14408 15 rfl).trans ((hI10791 15 rfl).trans (hI10777 15 rfl)))))]
                          have g14796 := IvM_s10_0 (I := I14775) (A := A14775) hV14775
                          have g14797 := IvM_s10_1 (I := I14775) (A := A14775) hV14775
                          have g14798 : (I14775 8).toInt = (I14769 8).toInt := by rw [show (I14775 8) = (I14769 8) from (hI14775 8 rfl)]
                          have q14799 := cl_int (y := y10773) (by omega)
                          have g14800 : (A14775 11 y10773.toNatClampNeg).toInt = (A14408 11 y10773.toNatClampNeg).toInt := by rw [show (A14775 11 y10773.toNatClampNeg) = (A14408 11 y10773.toNatClampNeg) from ((congrFun (hA14775 11 rfl) _).trans (congrFun (hA14769 11 rfl) _))]
                          have u14801 : 0 < (I10777 6).toInt ∨ ((I 6).toInt = 0 ∧ (A 2 (I 4).toNatClampNeg).toInt = (1 : Int32).toInt) := r10782
                          have u14802 : 0 < (I14775 6).toInt ∨ ((I14408 6).toInt = 0 ∧ (A 2 (I14408 4).toNatClampNeg).toInt = (4 : Int32).toInt) := r14780
                          exact g_vret hk hR ⟨(upd (upd I14775 11 (-2)) 17 y14790), (up3 A14775 10 1 y14792), (up3L L14775 7 ((I 17).toNatClampNeg) y14789), (show Md [4, 6, 7, 8, 9, 11, 12, 13, 17] I (upd (upd I14775 11 (-2)) 17 y14790) from (Md.up (Md.up (Md.tr (Md.tr (Md.tr (Md.tr (Md.tr (Md.up Md.rf rfl) hI10777 rfl) hI10791 rfl) hI14408 rfl) hI14769 rfl) hI14775 rfl) rfl) rfl)), (show Md [10, 11, 12] A (up3 A14775 10 1 y14792) from (Md.up3 (Md.tr (Md.tr (Md.tr (Md.up3 (Md.tr (Md.tr Md.rf hA10777 rfl) hA10791 rfl) rfl) hA14408 rfl) hA14769 rfl) hA14775 rfl) rfl)), ⟨(IvM_f1 (I := I14775) (A := A14775) hV14775), (IvM_f2 (I := I14775) (A := A14775) hV14775), (IvM_f3 (I := I14775) (A := A14775) hV14775), (IvM_f4 (I := I14775) (A := A14775) hV14775), (IvM_f6 (I := I14775) (A := A14775) hV14775), (IvM_f8 (I := I14775) (A := A14775) hV14775), (IvM_f15 (I := I14775) (A := A14775) hV14775), (IvM_f16 (I := I14775) (A := A14775) hV14775), (show 0 ≤ y14790.toInt ∧ y14790.toInt ≤ 5 from ⟨by omega, by omega⟩), (IvM_f18 (I := I14775) (A := A14775) hV14775), (IvM_f22 (I := I14775) (A := A14775) hV14775), (IvM_f23 (I := I14775) (A := A14775) hV14775), (IvM_f24 (I := I14775) (A := A14775) hV14775), (IvM_a11 (I := I14775) (A := A14775) hV14775), (IvM_a26 (I := I14775) (A := A14775) hV14775), (IvM_s8_0 (I := I14775) (A := A14775) hV14775), (IvM_s8_1 (I := I14775) (A := A14775) hV14775), (show 0 ≤ ((up3 A14775 10 1 y14792) 10 0).toInt ∧ ((up3 A14775 10 1 y14792) 10 0).toInt ≤ 5 from by rw [show (up3 A14775 10 1 y14792) 10 0 = (A14775 10 0) from rfl]; exact (IvM_s10_0 (I := I14775) (A := A14775) hV14775)), (show 0 ≤ ((up3 A14775 10 1 y14792) 10 1).toInt ∧ ((up3 A14775 10 1 y14792) 10 1).toInt ≤ 5 from by rw [show (up3 A14775 10 1 y14792) 10 1 = y14792 from rfl]; exact ⟨by omega, by omega⟩), (IvM_s17_0 (I := I14775) (A := A14775) hV14775), (IvM_s17_164 (I := I14775) (A := A14775) hV14775), ⟨fun e => by have e : (I14775 15).toInt = 0 := e; first | exact (IvM_lv (I := I14775) (A := A14775) hV14775).1 e | (exfalso; omega), fun e => by have e : (I14775 15).toInt = 1 := e; first | exact (IvM_lv (I := I14775) (A := A14775) hV14775).2 e | (exfalso; omega)⟩, (by first | (exfalso; omega) | (by_cases g8 : (I14775 8).toInt ≠ 0; exact Or.inr (Or.inl g8); rcases (IvM_sd (I := I14775) (A := A14775) hV14775) with h9 | h9 | h9; exact absurd h9 (by omega); exact absurd h9 g8; exact Or.inr (Or.inr ⟨fun e => by have e : (I14775 16).toInt = 0 := e; first | exact ghf_add (n := (A14775 10 0)) (f := (A14775 11)) (n2 := y14792) (p := y10773.toNatClampNeg) (h9.1 e) (by omega) (by omega) (by omega) | (exfalso; omega), fun e => by have e : (I14775 16).toInt = 1 := e; first | exact ghf_add (n := (A14775 10 1)) (f := (A14775 11)) (n2 := y14792) (p := y10773.toNatClampNeg) (h9.2 e) (by omega) (by omega) (by omega) | (exfalso; omega)⟩))), ⟨fun e => by have e : (I14775 16).toInt = 0 := e; first | (exfalso; omega) | (show y14790.toInt = (A14775 10 0).toInt; omega), fun e => by have e : (I14775 16).toInt = 1 := e; first | (exfalso; omega) | (show y14790.toInt = y14792.toInt; omega)⟩, (IvM_hr (I := I14775) (A := A14775) hV14775), (IvM_hh (I := I14775) (A := A14775) hV14775), trivial⟩, (by rw [show ((upd (upd I14775 11 (-2)) 17 y14790) 4) = (I14775 4) from rfl] <;> omega), (by rw [show ((upd (upd I14775 11 (-2)) 17 y14790) 6) = (I14775 6) from rfl] <;> omega), (by rw [show ((upd (upd I14775 11 (-2)) 17 y14790) 8) = (I14769 8) from (hI14775 8 rfl)] <;> omega), rfl, rfl⟩ dX12_tellQuery_251
                        exfalso; omega
                      · skip
                        exact g_vret hk hR ⟨I14775, A14775, L14775, (show Md [4, 6, 7, 8, 9, 11, 12, 13, 17] I I14775 from (Md.tr (Md.tr (Md.tr (Md.tr (Md.tr (Md.up Md.rf rfl) hI10777 rfl) hI10791 rfl) hI14408 rfl) hI14769 rfl) hI14775 rfl)), (show Md [10, 11, 12] A A14775 from (Md.tr (Md.tr (Md.tr (Md.up3 (Md.tr (Md.tr Md.rf hA10777 rfl) hA10791 rfl) rfl) hA14408 rfl) hA14769 rfl) hA14775 rfl)), hV14775, (by omega), (by omega), (by rw [show (I14775 8) = (I14769 8) from (hI14775 8 rfl)] <;> omega), rfl, rfl⟩ dX12_tellQuery_206
                · skip
                  show GW κ 4 0 0 (wM r g I14408 A14408 L14408) 88 [(3, .int x10787), (2, .int (I 4)), (1, .int y10773), (0, .ref (r 0))] [.int 1]
                  refine g_if_eq (tgt := 166) (a := 1) hk dX12_tellQuery_88 (by decide) rfl (fun z9 => absurd z9 (show ¬ ((1 : Int) = (0 : Int)) from by decide)) (fun _ => ?_)
                  refine g_aload_n hk dX12_tellQuery_91 rfl ?_
                  refine gM_r0_29 hk hin12 (List.mem_cons_of_mem _ (List.mem_append_left _ (List.mem_of_getElem? (i := 9) rfl))) dX12_tellQuery_92 ?_
                  refine g_iload_n hk dX12_tellQuery_95 rfl ?_
                  refine lM_11 (v := (A14408 11 y10773.toNatClampNeg)) hk (vp_in_iff.mpr ⟨by omega, by omega⟩) rfl dX12_tellQuery_96 ?_
                  have f14803 := IvM_a11 hV14408 (y10773.toNatClampNeg)
                  refine g_bipush (v := 16) hk dX12_tellQuery_97 (by decide) ?_
                  refine g_icmp_ne (tgt := 107) (a := (A14408 11 y10773.toNatClampNeg).toInt) (b := 16) hk dX12_tellQuery_99 (by decide) rfl rfl (fun c14804 => ?_) (fun c14804 => ?_)
                  · skip
                    refine g_aload_n hk dX12_tellQuery_107 rfl ?_
                    refine gM_i6 (v := (I14408 6)) hk hin12 (List.mem_cons_of_mem _ (List.mem_append_left _ (List.mem_of_getElem? (i := 16) rfl))) dX12_tellQuery_108 rfl ?_
                    refine g_if_le (tgt := 115) (a := (I14408 6).toInt) hk dX12_tellQuery_111 (by decide) rfl (fun c14805 => ?_) (fun c14805 => ?_)
                    · skip
                      refine g_aload_n hk dX12_tellQuery_115 rfl ?_
                      refine gM_r0_30 hk hin12 (List.mem_cons_of_mem _ (List.mem_append_left _ (List.mem_of_getElem? (i := 22) rfl))) dX12_tellQuery_116 ?_
                      refine g_bipush (v := 16) hk dX12_tellQuery_119 (by decide) ?_
                      refine g_iload_n hk dX12_tellQuery_121 rfl ?_
                      refine g_imul hk dX12_tellQuery_122 ?_
                      refine g_topi (fun y14806 ey14806 => ?_)
                      have hy14806 : y14806.toInt = 16 * y10773.toInt := i32_mul ey14806 rfl rfl (by omega) (by omega)
                      refine g_aload_n hk dX12_tellQuery_123 rfl ?_
                      refine gM_r0_29 hk hin12 (List.mem_cons_of_mem _ (List.mem_append_left _ (List.mem_of_getElem? (i := 9) rfl))) dX12_tellQuery_124 ?_
                      refine g_iload_n hk dX12_tellQuery_127 rfl ?_
                      refine lM_11 (v := (A14408 11 y10773.toNatClampNeg)) hk (vp_in_iff.mpr ⟨by omega, by omega⟩) rfl dX12_tellQuery_128 ?_
                      refine g_iadd hk dX12_tellQuery_129 ?_
                      refine g_topi (fun y14807 ey14807 => ?_)
                      have hy14807 : y14807.toInt = y14806.toInt + (A14408 11 y10773.toNatClampNeg).toInt := i32_add ey14807 rfl rfl (by omega) (by omega)
                      refine g_aload_n hk dX12_tellQuery_130 rfl ?_
                      refine g_callV (n := 0) hk (j132_X12_readingTold l D zt r g I14408 A14408 L14408  hV14408) (SP.same _) (fun _ h => h) (gi_V (List.mem_cons_of_mem _ (List.mem_append_left _ (List.mem_of_getElem? (i := 23) rfl))) (List.mem_cons_of_mem _ (List.mem_append_left _ (List.mem_of_getElem? (i := 24) rfl))) (List.mem_cons_of_mem _ (List.mem_append_left _ (List.mem_of_getElem? (i := 25) rfl))) (List.mem_cons_of_mem _ (List.mem_append_left _ (List.mem_of_getElem? (i := 7) rfl))) (gi_sub (fun w h => (List.mem_cons_of_mem _ (List.mem_append_right _ (List.mem_append_right _ (List.mem_append_right _ (List.mem_append_right _ (List.mem_append_right _ (List.mem_append_right _ (List.mem_append_left _ h))))))))) zg_j132_X12_readingTold)) rfl rfl rfl (by decide +kernel) ⟨Nat.le_of_ble_eq_true rfl, Nat.le_of_ble_eq_true rfl⟩ 0 rfl rfl rfl rfl (Nat.le_of_ble_eq_true rfl) ⟨Nat.le_of_ble_eq_true rfl, Nat.le_of_ble_eq_true rfl⟩ dX12_tellQuery_131 (fun v ty' w' hp hk' => ?_)
                      obtain ⟨I14809, A14809, L14809, hI14809, hA14809, hV14809, y14808, r14810, r14811, r14812, r14813, rfl, rfl⟩ := hp
                      have f14814 := IvM_f4 hV14809
                      have f14815 := IvM_f6 hV14809
                      have f14816 := IvM_f8 hV14809
                      show GW κ 4 0 0 (wM r g I14809 A14809 L14809) 134 [(3, .int x10787), (2, .int (I 4)), (1, .int y10773), (0, .ref (r 0))] [.int y14808, .int y14807, .ref (r 13)]
                      refine sM_12 (j := y14807.toNatClampNeg) hk (vp_in_iff.mpr ⟨by omega, by omega⟩) rfl dX12_tellQuery_134 ?_
                      refine g_aload_n hk dX12_tellQuery_135 rfl ?_
                      refine gM_i6 (v := (I14809 6)) hk hin12 (List.mem_cons_of_mem _ (List.mem_append_left _ (List.mem_of_getElem? (i := 16) rfl))) dX12_tellQuery_136 rfl ?_
                      refine g_if_le (tgt := 143) (a := (I14809 6).toInt) hk dX12_tellQuery_139 (by decide) rfl (fun c14817 => ?_) (fun c14817 => ?_)
                      · skip
                        refine g_aload_n hk dX12_tellQuery_143 rfl ?_
                        refine gM_r0_29 hk hin12 (List.mem_cons_of_mem _ (List.mem_append_left _ (List.mem_of_getElem? (i := 9) rfl))) dX12_tellQuery_144 ?_
                        refine g_iload_n hk dX12_tellQuery_147 rfl ?_
                        refine g_dup2 hk dX12_tellQuery_148 rfl rfl ?_
                        refine lM_11 (v := (A14408 11 y10773.toNatClampNeg)) hk (vp_in_iff.mpr ⟨by omega, by omega⟩) (congrFun (hA14809 11 rfl) _) dX12_tellQuery_149 ?_
                        refine g_iconst (v := 1) hk dX12_tellQuery_150 (by decide) ?_
                        refine g_iadd hk dX12_tellQuery_151 ?_
                        refine g_topi (fun y14818 ey14818 => ?_)
                        have hy14818 : y14818.toInt = (A14408 11 y10773.toNatClampNeg).toInt + 1 := i32_add ey14818 rfl rfl (by omega) (by omega)
                        refine sM_11 (j := y10773.toNatClampNeg) hk (vp_in_iff.mpr ⟨by omega, by omega⟩) rfl dX12_tellQuery_152 ?_
                        have hA14819 : ∀ j, 0 ≤ ((up3 (up3 A14809 12 (y14807.toNatClampNeg) y14808) 11 (y10773.toNatClampNeg) y14818) 11 j).toInt ∧ ((up3 (up3 A14809 12 (y14807.toNatClampNeg) y14808) 11 (y10773.toNatClampNeg) y14818) 11 j).toInt ≤ 16 := ai_st ((IvM_a11 hV14809)) ⟨by omega, by omega⟩
                        refine g_aload_n hk dX12_tellQuery_153 rfl ?_
                        refine g_dup hk dX12_tellQuery_154 rfl ?_
                        refine gM_i11 (v := (I14408 11)) hk hin12 (List.mem_cons_of_mem _ (List.mem_append_left _ (List.mem_of_getElem? (i := 0) rfl))) dX12_tellQuery_155 (hI14809 11 rfl) ?_
                        refine g_iconst (v := 1) hk dX12_tellQuery_158 (by decide) ?_
                        have b14820l := Int32.le_toInt (I14408 11)
                        have b14820h := Int32.toInt_lt (I14408 11)
                        refine g_iadd hk dX12_tellQuery_159 ?_
                        refine g_topi (fun y14821 ey14821 => ?_)
                        refine pM_i11 hk hin12 (List.mem_cons_of_mem _ (List.mem_append_left _ (List.mem_of_getElem? (i := 0) rfl))) dX12_tellQuery_160 ?_
                        refine g_goto (tgt := 84) hk dX12_tellQuery_163 (by decide) ?_
                        have g14822 : (I14809 15).toInt = (I 15).toInt := by rw [show (I14809 15) = (I 15) from ((hI14809 15 rfl).trans ((hI14408 15 rfl).trans ((hI10791 15 rfl).trans (hI10777 15 rfl))))]
                        have g14823 : (I14809 16).toInt = (I 16).toInt := by rw [show (I14809 16) = (I 16) from ((hI14809 16 rfl).trans ((hI14408 16 rfl).trans ((hI10791 16 rfl).trans (hI10777 16 rfl))))]
                        have g14824 := IvM_s10_0 (I := I14809) (A := A14809) hV14809
                        have g14825 := IvM_s10_1 (I := I14809) (A := A14809) hV14809
                        have q14826 := cl_int (y := y10773) (by omega)
                        have g14827 : (A14809 10 0).toInt = (A 10 0).toInt := by rw [show (A14809 10 0) = (A 10 0) from ((congrFun (hA14809 10 rfl) _).trans ((congrFun (hA14408 10 rfl) _).trans ((congrFun (hA10791 10 rfl) _).trans (congrFun (hA10777 10 rfl) _))))]
                        have g14828 : (A14809 10 1).toInt = (A 10 1).toInt := by rw [show (A14809 10 1) = (A 10 1) from ((congrFun (hA14809 10 rfl) _).trans ((congrFun (hA14408 10 rfl) _).trans ((congrFun (hA10791 10 rfl) _).trans (congrFun (hA10777 10 rfl) _))))]
                        have q14829 := cl_int (y := y10773) (by omega)
                        exact g_lv (List.forall_mem_cons.mpr ⟨List.mem_of_getElem? (i := 0) rfl, (List.forall_mem_cons.mpr ⟨List.mem_of_getElem? (i := 1) rfl, (List.forall_mem_cons.mpr ⟨List.mem_of_getElem? (i := 2) rfl, (List.forall_mem_cons.mpr ⟨List.mem_of_getElem? (i := 3) rfl, (fun _ h => absurd h List.not_mem_nil)⟩)⟩)⟩)⟩) (ih14696 (upd I14809 11 y14821) (up3 (up3 A14809 12 (y14807.toNatClampNeg) y14808) 11 (y10773.toNatClampNeg) y14818) L14809 (show Md [4, 6, 7, 8, 9, 11, 12, 13] I10791 (upd I14809 11 y14821) from Md.tr hI14408 (show Md [4, 6, 7, 8, 9, 11, 12, 13] I14408 (upd I14809 11 y14821) from (Md.up (Md.tr Md.rf hI14809 rfl) rfl)) rfl) (show Md [11, 12] (up3 A10791 11 (y10773.toNatClampNeg) 0) (up3 (up3 A14809 12 (y14807.toNatClampNeg) y14808) 11 (y10773.toNatClampNeg) y14818) from Md.tr hA14408 (show Md [11, 12] A14408 (up3 (up3 A14809 12 (y14807.toNatClampNeg) y14808) 11 (y10773.toNatClampNeg) y14818) from (Md.up3 (Md.up3 (Md.tr Md.rf hA14809 rfl) rfl) rfl)) rfl) ⟨(IvM_f1 (I := I14809) (A := A14809) hV14809), (IvM_f2 (I := I14809) (A := A14809) hV14809), (IvM_f3 (I := I14809) (A := A14809) hV14809), (IvM_f4 (I := I14809) (A := A14809) hV14809), (IvM_f6 (I := I14809) (A := A14809) hV14809), (IvM_f8 (I := I14809) (A := A14809) hV14809), (IvM_f15 (I := I14809) (A := A14809) hV14809), (IvM_f16 (I := I14809) (A := A14809) hV14809), (IvM_f17 (I := I14809) (A := A14809) hV14809), (IvM_f18 (I := I14809) (A := A14809) hV14809), (IvM_f22 (I := I14809) (A := A14809) hV14809), (IvM_f23 (I := I14809) (A := A14809) hV14809), (IvM_f24 (I := I14809) (A := A14809) hV14809), hA14819, (IvM_a26 (I := I14809) (A := A14809) hV14809), (IvM_s8_0 (I := I14809) (A := A14809) hV14809), (IvM_s8_1 (I := I14809) (A := A14809) hV14809), (IvM_s10_0 (I := I14809) (A := A14809) hV14809), (IvM_s10_1 (I := I14809) (A := A14809) hV14809), (IvM_s17_0 (I := I14809) (A := A14809) hV14809), (IvM_s17_164 (I := I14809) (A := A14809) hV14809), ⟨fun e => by have e : (I14809 15).toInt = 0 := e; first | exact ghf_upd (n := (A14809 10 0)) ((IvM_lv (I := I14809) (A := A14809) hV14809).1 e) (fun q hq => by omega) | (exfalso; omega), fun e => by have e : (I14809 15).toInt = 1 := e; first | exact ghf_upd (n := (A14809 10 1)) ((IvM_lv (I := I14809) (A := A14809) hV14809).2 e) (fun q hq => by omega) | (exfalso; omega)⟩, (by rcases (IvM_sd (I := I14809) (A := A14809) hV14809) with h9 | h9 | h9; exact Or.inl h9; exact Or.inr (Or.inl h9); exact Or.inr (Or.inr ⟨fun e => by have e : (I14809 16).toInt = 0 := e; first | exact ghf_upd (n := (A14809 10 0)) (h9.1 e) (fun q hq => by omega) | (exfalso; omega), fun e => by have e : (I14809 16).toInt = 1 := e; first | exact ghf_upd (n := (A14809 10 1)) (h9.2 e) (fun q hq => by omega) | (exfalso; omega)⟩)), (IvM_nq (I := I14809) (A := A14809) hV14809), (IvM_hr (I := I14809) (A := A14809) hV14809), (IvM_hh (I := I14809) (A := A14809) hV14809), trivial⟩ (by first | (rw [show ((upd I14809 11 y14821) 4) = (I14809 4) from rfl] <;> omega) | omega) (by first | (rw [show ((upd I14809 11 y14821) 6) = (I14809 6) from rfl] <;> omega) | omega) (by first | (rw [show ((upd I14809 11 y14821) 8) = (I14809 8) from rfl] <;> omega) | omega) (by first | (rw [show ((upd I14809 11 y14821) 4) = (I14809 4) from rfl] <;> omega) | omega) (by omega))
                      · skip
                        exact g_vret hk hR ⟨I14809, (up3 A14809 12 (y14807.toNatClampNeg) y14808), L14809, (show Md [4, 6, 7, 8, 9, 11, 12, 13, 17] I I14809 from (Md.tr (Md.tr (Md.tr (Md.tr (Md.up Md.rf rfl) hI10777 rfl) hI10791 rfl) hI14408 rfl) hI14809 rfl)), (show Md [10, 11, 12] A (up3 A14809 12 (y14807.toNatClampNeg) y14808) from (Md.up3 (Md.tr (Md.tr (Md.up3 (Md.tr (Md.tr Md.rf hA10777 rfl) hA10791 rfl) rfl) hA14408 rfl) hA14809 rfl) rfl)), ⟨(IvM_f1 (I := I14809) (A := A14809) hV14809), (IvM_f2 (I := I14809) (A := A14809) hV14809), (IvM_f3 (I := I14809) (A := A14809) hV14809), (IvM_f4 (I := I14809) (A := A14809) hV14809), (IvM_f6 (I := I14809) (A := A14809) hV14809), (IvM_f8 (I := I14809) (A := A14809) hV14809), (IvM_f15 (I := I14809) (A := A14809) hV14809), (IvM_f16 (I := I14809) (A := A14809) hV14809), (IvM_f17 (I := I14809) (A := A14809) hV14809), (IvM_f18 (I := I14809) (A := A14809) hV14809), (IvM_f22 (I := I14809) (A := A14809) hV14809), (IvM_f23 (I := I14809) (A := A14809) hV14809), (IvM_f24 (I := I14809) (A := A14809) hV14809), (IvM_a11 (I := I14809) (A := A14809) hV14809), (IvM_a26 (I := I14809) (A := A14809) hV14809), (IvM_s8_0 (I := I14809) (A := A14809) hV14809), (IvM_s8_1 (I := I14809) (A := A14809) hV14809), (IvM_s10_0 (I := I14809) (A := A14809) hV14809), (IvM_s10_1 (I := I14809) (A := A14809) hV14809), (IvM_s17_0 (I := I14809) (A := A14809) hV14809), (IvM_s17_164 (I := I14809) (A := A14809) hV14809), (IvM_lv (I := I14809) (A := A14809) hV14809), (IvM_sd (I := I14809) (A := A14809) hV14809), (IvM_nq (I := I14809) (A := A14809) hV14809), (IvM_hr (I := I14809) (A := A14809) hV14809), (IvM_hh (I := I14809) (A := A14809) hV14809), trivial⟩, (by omega), (by omega), (by omega), rfl, rfl⟩ dX12_tellQuery_142
                    · skip
                      exact g_vret hk hR ⟨I14408, A14408, L14408, (show Md [4, 6, 7, 8, 9, 11, 12, 13, 17] I I14408 from (Md.tr (Md.tr (Md.tr (Md.up Md.rf rfl) hI10777 rfl) hI10791 rfl) hI14408 rfl)), (show Md [10, 11, 12] A A14408 from (Md.tr (Md.up3 (Md.tr (Md.tr Md.rf hA10777 rfl) hA10791 rfl) rfl) hA14408 rfl)), hV14408, (by omega), (by omega), (by omega), rfl, rfl⟩ dX12_tellQuery_114
                  · skip
                    refine g_aload_n hk dX12_tellQuery_102 rfl ?_
                    refine g_iconst (v := 2) hk dX12_tellQuery_103 (by decide) ?_
                    have k14830 : (2 : Int32).toInt = 2 := rfl
                    refine g_callV (n := 1) hk (j128_X12_fail l D zt r g I14408 A14408 L14408 2 hV14408 (by decide) (by decide)) (SP.same _) (fun _ h => h) (gi_V (List.mem_cons_of_mem _ (List.mem_append_left _ (List.mem_of_getElem? (i := 26) rfl))) (List.mem_cons_of_mem _ (List.mem_append_left _ (List.mem_of_getElem? (i := 27) rfl))) (List.mem_cons_of_mem _ (List.mem_append_left _ (List.mem_of_getElem? (i := 28) rfl))) (List.mem_cons_of_mem _ (List.mem_append_left _ (List.mem_of_getElem? (i := 7) rfl))) (gi_sub (fun w h => (List.mem_cons_of_mem _ (List.mem_append_right _ (List.mem_append_right _ (List.mem_append_right _ (List.mem_append_right _ (List.mem_append_right _ (List.mem_append_right _ (List.mem_append_right _ (List.mem_append_left _ h)))))))))) zg_j128_X12_fail)) rfl rfl rfl (by decide +kernel) ⟨Nat.le_of_ble_eq_true rfl, Nat.le_of_ble_eq_true rfl⟩ 0 rfl rfl rfl rfl (Nat.le_of_ble_eq_true rfl) ⟨Nat.le_of_ble_eq_true rfl, Nat.le_of_ble_eq_true rfl⟩ dX12_tellQuery_104 (fun v ty' w' hp hk' => ?_)
                    obtain ⟨I14832, A14832, L14832, hI14832, hA14832, hV14832, r14833, r14834, r14835, rfl, rfl⟩ := hp
                    have f14836 := IvM_f6 hV14832
                    rw [show (I14832 8) = (I14408 8) from (hI14832 8 rfl)] at r14834
                    show GW κ 4 0 0 (wM r g I14832 A14832 L14832) 107 [(3, .int x10787), (2, .int (I 4)), (1, .int y10773), (0, .ref (r 0))] []
                    refine g_aload_n hk dX12_tellQuery_107 rfl ?_
                    refine gM_i6 (v := (I14832 6)) hk hin12 (List.mem_cons_of_mem _ (List.mem_append_left _ (List.mem_of_getElem? (i := 16) rfl))) dX12_tellQuery_108 rfl ?_
                    refine g_if_le (tgt := 115) (a := (I14832 6).toInt) hk dX12_tellQuery_111 (by decide) rfl (fun c14837 => ?_) (fun c14837 => ?_)
                    · skip
                      refine g_aload_n hk dX12_tellQuery_115 rfl ?_
                      refine gM_r0_30 hk hin12 (List.mem_cons_of_mem _ (List.mem_append_left _ (List.mem_of_getElem? (i := 22) rfl))) dX12_tellQuery_116 ?_
                      refine g_bipush (v := 16) hk dX12_tellQuery_119 (by decide) ?_
                      refine g_iload_n hk dX12_tellQuery_121 rfl ?_
                      refine g_imul hk dX12_tellQuery_122 ?_
                      refine g_topi (fun y14838 ey14838 => ?_)
                      have hy14838 : y14838.toInt = 16 * y10773.toInt := i32_mul ey14838 rfl rfl (by omega) (by omega)
                      refine g_aload_n hk dX12_tellQuery_123 rfl ?_
                      refine gM_r0_29 hk hin12 (List.mem_cons_of_mem _ (List.mem_append_left _ (List.mem_of_getElem? (i := 9) rfl))) dX12_tellQuery_124 ?_
                      refine g_iload_n hk dX12_tellQuery_127 rfl ?_
                      refine lM_11 (v := (A14408 11 y10773.toNatClampNeg)) hk (vp_in_iff.mpr ⟨by omega, by omega⟩) (congrFun (hA14832 11 rfl) _) dX12_tellQuery_128 ?_
                      refine g_iadd hk dX12_tellQuery_129 ?_
                      refine g_topi (fun y14839 ey14839 => ?_)
                      have hy14839 : y14839.toInt = y14838.toInt + (A14408 11 y10773.toNatClampNeg).toInt := i32_add ey14839 rfl rfl (by omega) (by omega)
                      refine g_aload_n hk dX12_tellQuery_130 rfl ?_
                      refine g_callV (n := 0) hk (j132_X12_readingTold l D zt r g I14832 A14832 L14832  hV14832) (SP.same _) (fun _ h => h) (gi_V (List.mem_cons_of_mem _ (List.mem_append_left _ (List.mem_of_getElem? (i := 23) rfl))) (List.mem_cons_of_mem _ (List.mem_append_left _ (List.mem_of_getElem? (i := 24) rfl))) (List.mem_cons_of_mem _ (List.mem_append_left _ (List.mem_of_getElem? (i := 25) rfl))) (List.mem_cons_of_mem _ (List.mem_append_left _ (List.mem_of_getElem? (i := 7) rfl))) (gi_sub (fun w h => (List.mem_cons_of_mem _ (List.mem_append_right _ (List.mem_append_right _ (List.mem_append_right _ (List.mem_append_right _ (List.mem_append_right _ (List.mem_append_right _ (List.mem_append_left _ h))))))))) zg_j132_X12_readingTold)) rfl rfl rfl (by decide +kernel) ⟨Nat.le_of_ble_eq_true rfl, Nat.le_of_ble_eq_true rfl⟩ 0 rfl rfl rfl rfl (Nat.le_of_ble_eq_true rfl) ⟨Nat.le_of_ble_eq_true rfl, Nat.le_of_ble_eq_true rfl⟩ dX12_tellQuery_131 (fun v ty' w' hp hk' => ?_)
                      obtain ⟨I14841, A14841, L14841, hI14841, hA14841, hV14841, y14840, r14842, r14843, r14844, r14845, rfl, rfl⟩ := hp
                      have f14846 := IvM_f4 hV14841
                      rw [show (I14832 4) = (I14408 4) from (hI14832 4 rfl)] at r14842
                      have f14847 := IvM_f6 hV14841
                      have f14848 := IvM_f8 hV14841
                      rw [show (I14832 8) = (I14408 8) from (hI14832 8 rfl)] at r14844
                      rw [show (I14832 4) = (I14408 4) from (hI14832 4 rfl)] at r14845
                      show GW κ 4 0 0 (wM r g I14841 A14841 L14841) 134 [(3, .int x10787), (2, .int (I 4)), (1, .int y10773), (0, .ref (r 0))] [.int y14840, .int y14839, .ref (r 13)]
                      refine sM_12 (j := y14839.toNatClampNeg) hk (vp_in_iff.mpr ⟨by omega, by omega⟩) rfl dX12_tellQuery_134 ?_
                      refine g_aload_n hk dX12_tellQuery_135 rfl ?_
                      refine gM_i6 (v := (I14841 6)) hk hin12 (List.mem_cons_of_mem _ (List.mem_append_left _ (List.mem_of_getElem? (i := 16) rfl))) dX12_tellQuery_136 rfl ?_
                      refine g_if_le (tgt := 143) (a := (I14841 6).toInt) hk dX12_tellQuery_139 (by decide) rfl (fun c14849 => ?_) (fun c14849 => ?_)
                      · skip
                        refine g_aload_n hk dX12_tellQuery_143 rfl ?_
                        refine gM_r0_29 hk hin12 (List.mem_cons_of_mem _ (List.mem_append_left _ (List.mem_of_getElem? (i := 9) rfl))) dX12_tellQuery_144 ?_
                        refine g_iload_n hk dX12_tellQuery_147 rfl ?_
                        refine g_dup2 hk dX12_tellQuery_148 rfl rfl ?_
                        refine lM_11 (v := (A14408 11 y10773.toNatClampNeg)) hk (vp_in_iff.mpr ⟨by omega, by omega⟩) ((congrFun (hA14841 11 rfl) _).trans (congrFun (hA14832 11 rfl) _)) dX12_tellQuery_149 ?_
                        refine g_iconst (v := 1) hk dX12_tellQuery_150 (by decide) ?_
                        refine g_iadd hk dX12_tellQuery_151 ?_
                        refine g_topi (fun y14850 ey14850 => ?_)
                        have hy14850 : y14850.toInt = (A14408 11 y10773.toNatClampNeg).toInt + 1 := i32_add ey14850 rfl rfl (by omega) (by omega)
                        refine sM_11 (j := y10773.toNatClampNeg) hk (vp_in_iff.mpr ⟨by omega, by omega⟩) rfl dX12_tellQuery_152 ?_
                        have hA14851 : ∀ j, 0 ≤ ((up3 (up3 A14841 12 (y14839.toNatClampNeg) y14840) 11 (y10773.toNatClampNeg) y14850) 11 j).toInt ∧ ((up3 (up3 A14841 12 (y14839.toNatClampNeg) y14840) 11 (y10773.toNatClampNeg) y14850) 11 j).toInt ≤ 16 := ai_st ((IvM_a11 hV14841)) ⟨by omega, by omega⟩
                        refine g_aload_n hk dX12_tellQuery_153 rfl ?_
                        refine g_dup hk dX12_tellQuery_154 rfl ?_
                        refine gM_i11 (v := (I14408 11)) hk hin12 (List.mem_cons_of_mem _ (List.mem_append_left _ (List.mem_of_getElem? (i := 0) rfl))) dX12_tellQuery_155 ((hI14841 11 rfl).trans (hI14832 11 rfl)) ?_
                        refine g_iconst (v := 1) hk dX12_tellQuery_158 (by decide) ?_
                        have b14852l := Int32.le_toInt (I14408 11)
                        have b14852h := Int32.toInt_lt (I14408 11)
                        refine g_iadd hk dX12_tellQuery_159 ?_
                        refine g_topi (fun y14853 ey14853 => ?_)
                        refine pM_i11 hk hin12 (List.mem_cons_of_mem _ (List.mem_append_left _ (List.mem_of_getElem? (i := 0) rfl))) dX12_tellQuery_160 ?_
                        refine g_goto (tgt := 84) hk dX12_tellQuery_163 (by decide) ?_
                        have g14854 : (I14841 15).toInt = (I 15).toInt := by rw [show (I14841 15) = (I 15) from ((hI14841 15 rfl).trans ((hI14832 15 rfl).trans ((hI14408 15 rfl).trans ((hI10791 15 rfl).trans (hI10777 15 rfl)))))]
                        have g14855 : (I14841 16).toInt = (I 16).toInt := by rw [show (I14841 16) = (I 16) from ((hI14841 16 rfl).trans ((hI14832 16 rfl).trans ((hI14408 16 rfl).trans ((hI10791 16 rfl).trans (hI10777 16 rfl)))))]
                        have g14856 := IvM_s10_0 (I := I14841) (A := A14841) hV14841
                        have g14857 := IvM_s10_1 (I := I14841) (A := A14841) hV14841
                        have q14858 := cl_int (y := y10773) (by omega)
                        have g14859 : (A14841 10 0).toInt = (A 10 0).toInt := by rw [show (A14841 10 0) = (A 10 0) from ((congrFun (hA14841 10 rfl) _).trans ((congrFun (hA14832 10 rfl) _).trans ((congrFun (hA14408 10 rfl) _).trans ((congrFun (hA10791 10 rfl) _).trans (congrFun (hA10777 10 rfl) _)))))]
                        have g14860 : (A14841 10 1).toInt = (A 10 1).toInt := by rw [show (A14841 10 1) = (A 10 1) from ((congrFun (hA14841 10 rfl) _).trans ((congrFun (hA14832 10 rfl) _).trans ((congrFun (hA14408 10 rfl) _).trans ((congrFun (hA10791 10 rfl) _).trans (congrFun (hA10777 10 rfl) _)))))]
                        have q14861 := cl_int (y := y10773) (by omega)
                        exact g_lv (List.forall_mem_cons.mpr ⟨List.mem_of_getElem? (i := 0) rfl, (List.forall_mem_cons.mpr ⟨List.mem_of_getElem? (i := 1) rfl, (List.forall_mem_cons.mpr ⟨List.mem_of_getElem? (i := 2) rfl, (List.forall_mem_cons.mpr ⟨List.mem_of_getElem? (i := 3) rfl, (fun _ h => absurd h List.not_mem_nil)⟩)⟩)⟩)⟩) (ih14696 (upd I14841 11 y14853) (up3 (up3 A14841 12 (y14839.toNatClampNeg) y14840) 11 (y10773.toNatClampNeg) y14850) L14841 (show Md [4, 6, 7, 8, 9, 11, 12, 13] I10791 (upd I14841 11 y14853) from Md.tr hI14408 (show Md [4, 6, 7, 8, 9, 11, 12, 13] I14408 (upd I14841 11 y14853) from (Md.up (Md.tr (Md.tr Md.rf hI14832 rfl) hI14841 rfl) rfl)) rfl) (show Md [11, 12] (up3 A10791 11 (y10773.toNatClampNeg) 0) (up3 (up3 A14841 12 (y14839.toNatClampNeg) y14840) 11 (y10773.toNatClampNeg) y14850) from Md.tr hA14408 (show Md [11, 12] A14408 (up3 (up3 A14841 12 (y14839.toNatClampNeg) y14840) 11 (y10773.toNatClampNeg) y14850) from (Md.up3 (Md.up3 (Md.tr (Md.tr Md.rf hA14832 rfl) hA14841 rfl) rfl) rfl)) rfl) ⟨(IvM_f1 (I := I14841) (A := A14841) hV14841), (IvM_f2 (I := I14841) (A := A14841) hV14841), (IvM_f3 (I := I14841) (A := A14841) hV14841), (IvM_f4 (I := I14841) (A := A14841) hV14841), (IvM_f6 (I := I14841) (A := A14841) hV14841), (IvM_f8 (I := I14841) (A := A14841) hV14841), (IvM_f15 (I := I14841) (A := A14841) hV14841), (IvM_f16 (I := I14841) (A := A14841) hV14841), (IvM_f17 (I := I14841) (A := A14841) hV14841), (IvM_f18 (I := I14841) (A := A14841) hV14841), (IvM_f22 (I := I14841) (A := A14841) hV14841), (IvM_f23 (I := I14841) (A := A14841) hV14841), (IvM_f24 (I := I14841) (A := A14841) hV14841), hA14851, (IvM_a26 (I := I14841) (A := A14841) hV14841), (IvM_s8_0 (I := I14841) (A := A14841) hV14841), (IvM_s8_1 (I := I14841) (A := A14841) hV14841), (IvM_s10_0 (I := I14841) (A := A14841) hV14841), (IvM_s10_1 (I := I14841) (A := A14841) hV14841), (IvM_s17_0 (I := I14841) (A := A14841) hV14841), (IvM_s17_164 (I := I14841) (A := A14841) hV14841), ⟨fun e => by have e : (I14841 15).toInt = 0 := e; first | exact ghf_upd (n := (A14841 10 0)) ((IvM_lv (I := I14841) (A := A14841) hV14841).1 e) (fun q hq => by omega) | (exfalso; omega), fun e => by have e : (I14841 15).toInt = 1 := e; first | exact ghf_upd (n := (A14841 10 1)) ((IvM_lv (I := I14841) (A := A14841) hV14841).2 e) (fun q hq => by omega) | (exfalso; omega)⟩, (by rcases (IvM_sd (I := I14841) (A := A14841) hV14841) with h9 | h9 | h9; exact Or.inl h9; exact Or.inr (Or.inl h9); exact Or.inr (Or.inr ⟨fun e => by have e : (I14841 16).toInt = 0 := e; first | exact ghf_upd (n := (A14841 10 0)) (h9.1 e) (fun q hq => by omega) | (exfalso; omega), fun e => by have e : (I14841 16).toInt = 1 := e; first | exact ghf_upd (n := (A14841 10 1)) (h9.2 e) (fun q hq => by omega) | (exfalso; omega)⟩)), (IvM_nq (I := I14841) (A := A14841) hV14841), (IvM_hr (I := I14841) (A := A14841) hV14841), (IvM_hh (I := I14841) (A := A14841) hV14841), trivial⟩ (by first | (rw [show ((upd I14841 11 y14853) 4) = (I14841 4) from rfl] <;> omega) | omega) (by first | (rw [show ((upd I14841 11 y14853) 6) = (I14841 6) from rfl] <;> omega) | omega) (by first | (rw [show ((upd I14841 11 y14853) 8) = (I14841 8) from rfl] <;> omega) | omega) (by first | (rw [show ((upd I14841 11 y14853) 4) = (I14841 4) from rfl] <;> omega) | omega) (by omega))
                      · skip
                        exact g_vret hk hR ⟨I14841, (up3 A14841 12 (y14839.toNatClampNeg) y14840), L14841, (show Md [4, 6, 7, 8, 9, 11, 12, 13, 17] I I14841 from (Md.tr (Md.tr (Md.tr (Md.tr (Md.tr (Md.up Md.rf rfl) hI10777 rfl) hI10791 rfl) hI14408 rfl) hI14832 rfl) hI14841 rfl)), (show Md [10, 11, 12] A (up3 A14841 12 (y14839.toNatClampNeg) y14840) from (Md.up3 (Md.tr (Md.tr (Md.tr (Md.up3 (Md.tr (Md.tr Md.rf hA10777 rfl) hA10791 rfl) rfl) hA14408 rfl) hA14832 rfl) hA14841 rfl) rfl)), ⟨(IvM_f1 (I := I14841) (A := A14841) hV14841), (IvM_f2 (I := I14841) (A := A14841) hV14841), (IvM_f3 (I := I14841) (A := A14841) hV14841), (IvM_f4 (I := I14841) (A := A14841) hV14841), (IvM_f6 (I := I14841) (A := A14841) hV14841), (IvM_f8 (I := I14841) (A := A14841) hV14841), (IvM_f15 (I := I14841) (A := A14841) hV14841), (IvM_f16 (I := I14841) (A := A14841) hV14841), (IvM_f17 (I := I14841) (A := A14841) hV14841), (IvM_f18 (I := I14841) (A := A14841) hV14841), (IvM_f22 (I := I14841) (A := A14841) hV14841), (IvM_f23 (I := I14841) (A := A14841) hV14841), (IvM_f24 (I := I14841) (A := A14841) hV14841), (IvM_a11 (I := I14841) (A := A14841) hV14841), (IvM_a26 (I := I14841) (A := A14841) hV14841), (IvM_s8_0 (I := I14841) (A := A14841) hV14841), (IvM_s8_1 (I := I14841) (A := A14841) hV14841), (IvM_s10_0 (I := I14841) (A := A14841) hV14841), (IvM_s10_1 (I := I14841) (A := A14841) hV14841), (IvM_s17_0 (I := I14841) (A := A14841) hV14841), (IvM_s17_164 (I := I14841) (A := A14841) hV14841), (IvM_lv (I := I14841) (A := A14841) hV14841), (IvM_sd (I := I14841) (A := A14841) hV14841), (IvM_nq (I := I14841) (A := A14841) hV14841), (IvM_hr (I := I14841) (A := A14841) hV14841), (IvM_hh (I := I14841) (A := A14841) hV14841), trivial⟩, (by omega), (by omega), (by omega), rfl, rfl⟩ dX12_tellQuery_142
                    · skip
                      exact g_vret hk hR ⟨I14832, A14832, L14832, (show Md [4, 6, 7, 8, 9, 11, 12, 13, 17] I I14832 from (Md.tr (Md.tr (Md.tr (Md.tr (Md.up Md.rf rfl) hI10777 rfl) hI10791 rfl) hI14408 rfl) hI14832 rfl)), (show Md [10, 11, 12] A A14832 from (Md.tr (Md.tr (Md.up3 (Md.tr (Md.tr Md.rf hA10777 rfl) hA10791 rfl) rfl) hA14408 rfl) hA14832 rfl)), hV14832, (by rw [show (I14832 4) = (I14408 4) from (hI14832 4 rfl)] <;> omega), (by omega), (by rw [show (I14832 8) = (I14408 8) from (hI14832 8 rfl)] <;> omega), rfl, rfl⟩ dX12_tellQuery_114
            obtain ⟨n14862, n14862a, n14862b⟩ : ∃ n : Nat, 401 - (I10777 4).toInt < (n : Int) ∧ 0 < n := ⟨((401 - (I10777 4).toInt : Int)).toNat + 1, by omega, by omega⟩
            have g14863 : (I10791 15).toInt = (I 15).toInt := by rw [show (I10791 15) = (I 15) from ((hI10791 15 rfl).trans (hI10777 15 rfl))]
            have g14864 : (I10791 16).toInt = (I 16).toInt := by rw [show (I10791 16) = (I 16) from ((hI10791 16 rfl).trans (hI10777 16 rfl))]
            have g14865 := IvM_s10_0 (I := I10791) (A := A10791) hV10791
            have g14866 := IvM_s10_1 (I := I10791) (A := A10791) hV10791
            have q14867 := cl_int (y := y10773) (by omega)
            have g14868 : (A10791 10 0).toInt = (A 10 0).toInt := by rw [show (A10791 10 0) = (A 10 0) from ((congrFun (hA10791 10 rfl) _).trans (congrFun (hA10777 10 rfl) _))]
            have g14869 : (A10791 10 1).toInt = (A 10 1).toInt := by rw [show (A10791 10 1) = (A 10 1) from ((congrFun (hA10791 10 rfl) _).trans (congrFun (hA10777 10 rfl) _))]
            have g14870 : (I10791 6).toInt = (I10777 6).toInt := by rw [show (I10791 6) = (I10777 6) from (hI10791 6 rfl)]
            have q14871 := cl_int (y := y10773) (by omega)
            exact lp14693 n14862 I10791 (up3 A10791 11 (y10773.toNatClampNeg) 0) L10791 Md.rf Md.rf ⟨(IvM_f1 (I := I10791) (A := A10791) hV10791), (IvM_f2 (I := I10791) (A := A10791) hV10791), (IvM_f3 (I := I10791) (A := A10791) hV10791), (IvM_f4 (I := I10791) (A := A10791) hV10791), (IvM_f6 (I := I10791) (A := A10791) hV10791), (IvM_f8 (I := I10791) (A := A10791) hV10791), (IvM_f15 (I := I10791) (A := A10791) hV10791), (IvM_f16 (I := I10791) (A := A10791) hV10791), (IvM_f17 (I := I10791) (A := A10791) hV10791), (IvM_f18 (I := I10791) (A := A10791) hV10791), (IvM_f22 (I := I10791) (A := A10791) hV10791), (IvM_f23 (I := I10791) (A := A10791) hV10791), (IvM_f24 (I := I10791) (A := A10791) hV10791), hA14403, (IvM_a26 (I := I10791) (A := A10791) hV10791), (IvM_s8_0 (I := I10791) (A := A10791) hV10791), (IvM_s8_1 (I := I10791) (A := A10791) hV10791), (IvM_s10_0 (I := I10791) (A := A10791) hV10791), (IvM_s10_1 (I := I10791) (A := A10791) hV10791), (IvM_s17_0 (I := I10791) (A := A10791) hV10791), (IvM_s17_164 (I := I10791) (A := A10791) hV10791), ⟨fun e => by have e : (I10791 15).toInt = 0 := e; first | exact ghf_upd (n := (A10791 10 0)) ((IvM_lv (I := I10791) (A := A10791) hV10791).1 e) (fun q hq => by omega) | (exfalso; omega), fun e => by have e : (I10791 15).toInt = 1 := e; first | exact ghf_upd (n := (A10791 10 1)) ((IvM_lv (I := I10791) (A := A10791) hV10791).2 e) (fun q hq => by omega) | (exfalso; omega)⟩, (by rcases (IvM_sd (I := I10791) (A := A10791) hV10791) with h9 | h9 | h9; exact Or.inl h9; exact Or.inr (Or.inl h9); exact Or.inr (Or.inr ⟨fun e => by have e : (I10791 16).toInt = 0 := e; first | exact ghf_upd (n := (A10791 10 0)) (h9.1 e) (fun q hq => by omega) | (exfalso; omega), fun e => by have e : (I10791 16).toInt = 1 := e; first | exact ghf_upd (n := (A10791 10 1)) (h9.2 e) (fun q hq => by omega) | (exfalso; omega)⟩)), (IvM_nq (I := I10791) (A := A10791) hV10791), (IvM_hr (I := I10791) (A := A10791) hV10791), (IvM_hh (I := I10791) (A := A10791) hV10791), trivial⟩ (by first | (rw [show (I10791 4) = (I10777 4) from (hI10791 4 rfl)] <;> omega) | omega) (by first | (rw [show (I10791 6) = (I10777 6) from (hI10791 6 rfl)] <;> omega) | omega) (by omega) (by first | exact n14862a | (rw [show (I10791 4) = (I10777 4) from (hI10791 4 rfl)] <;> exact n14862a)) n14862b
          · skip
            refine g_aload_n hk dX12_tellQuery_42 rfl ?_
            refine gM_i6 (v := (I10777 6)) hk hin12 (List.mem_cons_of_mem _ (List.mem_append_left _ (List.mem_of_getElem? (i := 16) rfl))) dX12_tellQuery_43 (hI10791 6 rfl) ?_
            refine g_if_ne (tgt := 77) (a := (I10777 6).toInt) hk dX12_tellQuery_46 (by decide) rfl (fun c14872 => ?_) (fun c14872 => ?_)
            · skip
              refine g_aload_n hk dX12_tellQuery_77 rfl ?_
              refine gM_r0_29 hk hin12 (List.mem_cons_of_mem _ (List.mem_append_left _ (List.mem_of_getElem? (i := 9) rfl))) dX12_tellQuery_78 ?_
              refine g_iload_n hk dX12_tellQuery_81 rfl ?_
              refine g_iconst (v := 0) hk dX12_tellQuery_82 (by decide) ?_
              have k14873 : (0 : Int32).toInt = 0 := rfl
              refine sM_11 (j := y10773.toNatClampNeg) hk (vp_in_iff.mpr ⟨by omega, by omega⟩) rfl dX12_tellQuery_83 ?_
              have hA14874 : ∀ j, 0 ≤ ((up3 A10791 11 (y10773.toNatClampNeg) 0) 11 j).toInt ∧ ((up3 A10791 11 (y10773.toNatClampNeg) 0) 11 j).toInt ≤ 16 := ai_st ((IvM_a11 hV10791)) ⟨by omega, by omega⟩
              have f15139 := IvM_f4 hIv
              have f15140 := IvM_f6 hIv
              have f15141 := IvM_f8 hIv
              have lp15145 : ∀ (n15146 : Nat) (I14879 : Nat → Int32) (A14879 : Nat → Nat → Int32) (L14879 : Nat → Nat → Int64), (Md [4, 6, 7, 8, 9, 11, 12, 13] I10791 I14879) → (Md [11, 12] (up3 A10791 11 (y10773.toNatClampNeg) 0) A14879) → (IvM I14879 A14879) → ((I 4).toInt ≤ (I14879 4).toInt) → ((I 6).toInt ≤ (I14879 6).toInt) → ((I 8).toInt ≤ 9 * (I14879 8).toInt) → (401 - (I14879 4).toInt < (n15146 : Int)) → (0 < n15146) → GW κ 4 0 0 (wM r g I14879 A14879 L14879) 84 [(3, .int x10787), (2, .int (I 4)), (1, .int y10773), (0, .ref (r 0))] [] := by
                intro n15146
                induction n15146 with
                | zero =>
                  intro I14879 A14879 L14879 hI14879 hA14879 hV14879 h15142 h15143 h15144 m15147 m15147z
                  exact absurd m15147z (Nat.lt_irrefl 0)
                | succ n15146 ih15148 =>
                  intro I14879 A14879 L14879 hI14879 hA14879 hV14879 h15142 h15143 h15144 m15147 m15147z
                  have f15149 := IvM_f4 hV14879
                  have f15150 := IvM_f6 hV14879
                  have f15151 := IvM_f8 hV14879
                  refine g_aload_n hk dX12_tellQuery_84 rfl ?_
                  refine g_callV (n := 0) hk (j130_X12_isReading l D zt r g I14879 A14879 L14879  hV14879) (SP.same _) (fun _ h => h) (gi_V (List.mem_cons_of_mem _ (List.mem_append_left _ (List.mem_of_getElem? (i := 10) rfl))) (List.mem_cons_of_mem _ (List.mem_append_left _ (List.mem_of_getElem? (i := 11) rfl))) (List.mem_cons_of_mem _ (List.mem_append_left _ (List.mem_of_getElem? (i := 12) rfl))) (List.mem_cons_of_mem _ (List.mem_append_left _ (List.mem_of_getElem? (i := 7) rfl))) (gi_sub (fun w h => (List.mem_cons_of_mem _ (List.mem_append_right _ (List.mem_append_right _ (List.mem_append_right _ (List.mem_append_left _ h)))))) zg_j130_X12_isReading)) rfl rfl rfl (by decide +kernel) ⟨Nat.le_of_ble_eq_true rfl, Nat.le_of_ble_eq_true rfl⟩ 0 rfl rfl rfl rfl (Nat.le_of_ble_eq_true rfl) ⟨Nat.le_of_ble_eq_true rfl, Nat.le_of_ble_eq_true rfl⟩ dX12_tellQuery_85 (fun v ty' w' hp hk' => ?_)
                  rcases hp with ⟨rfl, rfl⟩ | ⟨rfl, rfl⟩
                  · skip
                    show GW κ 4 0 0 (wM r g I14879 A14879 L14879) 88 [(3, .int x10787), (2, .int (I 4)), (1, .int y10773), (0, .ref (r 0))] [.int 0]
                    refine g_if_eq (tgt := 166) (a := 0) hk dX12_tellQuery_88 (by decide) rfl (fun _ => ?_) (fun z9 => absurd (show (0 : Int) = (0 : Int) from by decide) z9)
                    refine g_aload_n hk dX12_tellQuery_166 rfl ?_
                    refine g_iconst (v := 4) hk dX12_tellQuery_167 (by decide) ?_
                    have k15154 : (4 : Int32).toInt = 4 := rfl
                    refine g_callV (n := 1) hk (j125_X12_is l D zt r g I14879 A14879 L14879 4 hV14879) (SP.same _) (fun _ h => h) (gi_V (List.mem_cons_of_mem _ (List.mem_append_left _ (List.mem_of_getElem? (i := 13) rfl))) (List.mem_cons_of_mem _ (List.mem_append_left _ (List.mem_of_getElem? (i := 14) rfl))) (List.mem_cons_of_mem _ (List.mem_append_left _ (List.mem_of_getElem? (i := 15) rfl))) (List.mem_cons_of_mem _ (List.mem_append_left _ (List.mem_of_getElem? (i := 7) rfl))) (gi_sub (fun w h => (List.mem_cons_of_mem _ (List.mem_append_right _ (List.mem_append_right _ (List.mem_append_right _ (List.mem_append_right _ (List.mem_append_left _ h))))))) zg_j125_X12_is)) rfl rfl rfl (by decide +kernel) ⟨Nat.le_of_ble_eq_true rfl, Nat.le_of_ble_eq_true rfl⟩ 0 rfl rfl rfl rfl (Nat.le_of_ble_eq_true rfl) ⟨Nat.le_of_ble_eq_true rfl, Nat.le_of_ble_eq_true rfl⟩ dX12_tellQuery_168 (fun v ty' w' hp hk' => ?_)
                    rcases hp with ⟨c15155, rfl, rfl⟩ | ⟨c15157, rfl, rfl⟩
                    · skip
                      rw [show (A14879 2 (I14879 4).toNatClampNeg) = (A 2 (I14879 4).toNatClampNeg) from ((congrFun (hA14879 2 rfl) _).trans ((congrFun (hA10791 2 rfl) _).trans (congrFun (hA10777 2 rfl) _)))] at c15155
                      show GW κ 4 0 0 (wM r g I14879 A14879 L14879) 171 [(3, .int x10787), (2, .int (I 4)), (1, .int y10773), (0, .ref (r 0))] [.int 0]
                      refine g_if_eq (tgt := 194) (a := 0) hk dX12_tellQuery_171 (by decide) rfl (fun _ => ?_) (fun z9 => absurd (show (0 : Int) = (0 : Int) from by decide) z9)
                      refine g_aload_n hk dX12_tellQuery_194 rfl ?_
                      refine g_iconst (v := 4) hk dX12_tellQuery_195 (by decide) ?_
                      refine g_callV (n := 1) hk (j131_X12_must l D zt r g I14879 A14879 L14879 4 hV14879) (SP.same _) (fun _ h => h) (gi_V (List.mem_cons_of_mem _ (List.mem_append_left _ (List.mem_of_getElem? (i := 4) rfl))) (List.mem_cons_of_mem _ (List.mem_append_left _ (List.mem_of_getElem? (i := 5) rfl))) (List.mem_cons_of_mem _ (List.mem_append_left _ (List.mem_of_getElem? (i := 6) rfl))) (List.mem_cons_of_mem _ (List.mem_append_left _ (List.mem_of_getElem? (i := 7) rfl))) (gi_sub (fun w h => (List.mem_cons_of_mem _ (List.mem_append_right _ (List.mem_append_right _ (List.mem_append_left _ h))))) zg_j131_X12_must)) rfl rfl rfl (by decide +kernel) ⟨Nat.le_of_ble_eq_true rfl, Nat.le_of_ble_eq_true rfl⟩ 0 rfl rfl rfl rfl (Nat.le_of_ble_eq_true rfl) ⟨Nat.le_of_ble_eq_true rfl, Nat.le_of_ble_eq_true rfl⟩ dX12_tellQuery_196 (fun v ty' w' hp hk' => ?_)
                      obtain ⟨I15160, A15160, L15160, hI15160, hA15160, hV15160, r15161, r15162, r15163, r15164, r15165, rfl, rfl⟩ := hp
                      have f15166 := IvM_f4 hV15160
                      have f15167 := IvM_f6 hV15160
                      rw [show (I15160 8) = (I14879 8) from (hI15160 8 rfl)] at r15163
                      rw [show (A14879 2 (I14879 4).toNatClampNeg) = (A 2 (I14879 4).toNatClampNeg) from ((congrFun (hA14879 2 rfl) _).trans ((congrFun (hA10791 2 rfl) _).trans (congrFun (hA10777 2 rfl) _)))] at r15165
                      show GW κ 4 0 0 (wM r g I15160 A15160 L15160) 199 [(3, .int x10787), (2, .int (I 4)), (1, .int y10773), (0, .ref (r 0))] []
                      refine g_aload_n hk dX12_tellQuery_199 rfl ?_
                      refine gM_i6 (v := (I15160 6)) hk hin12 (List.mem_cons_of_mem _ (List.mem_append_left _ (List.mem_of_getElem? (i := 16) rfl))) dX12_tellQuery_200 rfl ?_
                      refine g_if_le (tgt := 207) (a := (I15160 6).toInt) hk dX12_tellQuery_203 (by decide) rfl (fun c15168 => ?_) (fun c15168 => ?_)
                      · skip
                        refine g_aload_n hk dX12_tellQuery_207 rfl ?_
                        refine g_bipush (v := (-2)) hk dX12_tellQuery_208 (by decide) ?_
                        refine pM_i11 hk hin12 (List.mem_cons_of_mem _ (List.mem_append_left _ (List.mem_of_getElem? (i := 0) rfl))) dX12_tellQuery_210 ?_
                        refine g_aload_n hk dX12_tellQuery_213 rfl ?_
                        refine gM_r0_25 hk hin12 (List.mem_cons_of_mem _ (List.mem_append_left _ (List.mem_of_getElem? (i := 17) rfl))) dX12_tellQuery_214 ?_
                        refine g_aload_n hk dX12_tellQuery_217 rfl ?_
                        refine gM_i17 (v := (I 17)) hk hin12 (List.mem_cons_of_mem _ (List.mem_append_left _ (List.mem_of_getElem? (i := 8) rfl))) dX12_tellQuery_218 ((hI15160 17 rfl).trans ((hI14879 17 rfl).trans ((hI10791 17 rfl).trans (hI10777 17 rfl)))) ?_
                        have g15169 : (I15160 16).toInt = (I 16).toInt := by rw [show (I15160 16) = (I 16) from ((hI15160 16 rfl).trans ((hI14879 16 rfl).trans ((hI10791 16 rfl).trans (hI10777 16 rfl))))]
                        have g15170 : (I15160 17).toInt = (I 17).toInt := by rw [show (I15160 17) = (I 17) from ((hI15160 17 rfl).trans ((hI14879 17 rfl).trans ((hI10791 17 rfl).trans (hI10777 17 rfl))))]
                        have g15171 : (A15160 10 0).toInt = (A 10 0).toInt := by rw [show (A15160 10 0) = (A 10 0) from ((congrFun (hA15160 10 rfl) _).trans ((congrFun (hA14879 10 rfl) _).trans ((congrFun (hA10791 10 rfl) _).trans (congrFun (hA10777 10 rfl) _))))]
                        have g15172 : (A15160 10 1).toInt = (A 10 1).toInt := by rw [show (A15160 10 1) = (A 10 1) from ((congrFun (hA15160 10 rfl) _).trans ((congrFun (hA14879 10 rfl) _).trans ((congrFun (hA10791 10 rfl) _).trans (congrFun (hA10777 10 rfl) _))))]
                        have g15173 := (IvM_nq (I := I15160) (A := A15160) hV15160).2 (by omega)
                        refine g_aload_n hk dX12_tellQuery_221 rfl ?_
                        refine gM_r0_8 hk hin12 (List.mem_cons_of_mem _ (List.mem_append_left _ (List.mem_of_getElem? (i := 18) rfl))) dX12_tellQuery_222 ?_
                        refine g_iload_n hk dX12_tellQuery_225 rfl ?_
                        refine lM_5 hk (vp_in_iff.mpr ⟨by omega, by omega⟩) rfl dX12_tellQuery_226 ?_
                        refine g_topl (fun y15174 ey15174 => ?_)
                        refine sM_7 (j := (I 17).toNatClampNeg) hk (vp_in_iff.mpr ⟨by omega, by omega⟩) rfl dX12_tellQuery_227 ?_
                        refine g_aload_n hk dX12_tellQuery_228 rfl ?_
                        refine g_dup hk dX12_tellQuery_229 rfl ?_
                        refine gM_i17 (v := (I 17)) hk hin12 (List.mem_cons_of_mem _ (List.mem_append_left _ (List.mem_of_getElem? (i := 8) rfl))) dX12_tellQuery_230 ((hI15160 17 rfl).trans ((hI14879 17 rfl).trans ((hI10791 17 rfl).trans (hI10777 17 rfl)))) ?_
                        refine g_iconst (v := 1) hk dX12_tellQuery_233 (by decide) ?_
                        refine g_iadd hk dX12_tellQuery_234 ?_
                        refine g_topi (fun y15175 ey15175 => ?_)
                        have hy15175 : y15175.toInt = (I 17).toInt + 1 := i32_add ey15175 rfl rfl (by omega) (by omega)
                        refine pM_i17 hk hin12 (List.mem_cons_of_mem _ (List.mem_append_left _ (List.mem_of_getElem? (i := 8) rfl))) dX12_tellQuery_235 ?_
                        refine g_aload_n hk dX12_tellQuery_238 rfl ?_
                        refine gM_r0_28 hk hin12 (List.mem_cons_of_mem _ (List.mem_append_left _ (List.mem_of_getElem? (i := 2) rfl))) dX12_tellQuery_239 ?_
                        refine g_aload_n hk dX12_tellQuery_242 rfl ?_
                        refine gM_i16 (v := (I 16)) hk hin12 (List.mem_cons_of_mem _ (List.mem_append_left _ (List.mem_of_getElem? (i := 1) rfl))) dX12_tellQuery_243 ((hI15160 16 rfl).trans ((hI14879 16 rfl).trans ((hI10791 16 rfl).trans (hI10777 16 rfl)))) ?_
                        by_cases c15176 : (I 16).toInt = 1
                        · have ec15176 : (I 16) = 1 := Int32.toInt_inj.mp c15176
                          rw [ec15176]
                          show GW κ 4 0 0 (wM r g (upd (upd I15160 11 (-2)) 17 y15175) A15160 (up3L L15160 7 ((I 17).toNatClampNeg) y15174)) 246 [(3, .int x10787), (2, .int (I 4)), (1, .int y10773), (0, .ref (r 0))] [.int 1, .ref (r 11)]
                          refine g_dup2 hk dX12_tellQuery_246 rfl rfl ?_
                          refine lM_10 (v := (A 10 1)) hk (vp_in_iff.mpr ⟨by decide, by decide⟩) ((congrFun (hA15160 10 rfl) _).trans ((congrFun (hA14879 10 rfl) _).trans ((congrFun (hA10791 10 rfl) _).trans (congrFun (hA10777 10 rfl) _)))) dX12_tellQuery_247 ?_
                          refine g_iconst (v := 1) hk dX12_tellQuery_248 (by decide) ?_
                          refine g_iadd hk dX12_tellQuery_249 ?_
                          refine g_topi (fun y15177 ey15177 => ?_)
                          have hy15177 : y15177.toInt = (A 10 1).toInt + 1 := i32_add ey15177 rfl rfl (by omega) (by omega)
                          refine sM_10 (j := 1) hk (vp_in_iff.mpr ⟨by decide, by decide⟩) (by decide) dX12_tellQuery_250 ?_
                          have f15178 := IvM_s10_0 hV15160
                          have f15179 := IvM_s10_1 hV15160
                          have g15180 : (I15160 15).toInt = (I 15).toInt := by rw [show (I15160 15) = (I 15) from ((hI15160 15 rfl).trans ((hI14879 15 rfl).trans ((hI10791 15 rfl).trans (hI10777 15 rfl))))]
                          have g15181 := IvM_s10_0 (I := I15160) (A := A15160) hV15160
                          have g15182 := IvM_s10_1 (I := I15160) (A := A15160) hV15160
                          have g15183 : (I15160 8).toInt = (I14879 8).toInt := by rw [show (I15160 8) = (I14879 8) from (hI15160 8 rfl)]
                          have q15184 := cl_int (y := y10773) (by omega)
                          have g15185 : (A15160 11 y10773.toNatClampNeg).toInt = (A14879 11 y10773.toNatClampNeg).toInt := by rw [show (A15160 11 y10773.toNatClampNeg) = (A14879 11 y10773.toNatClampNeg) from (congrFun (hA15160 11 rfl) _)]
                          have u15186 : (I14879 6).toInt ≠ 0 ∨ (A 2 (I14879 4).toNatClampNeg).toInt ≠ (4 : Int32).toInt := c15155
                          have u15187 : 0 < (I15160 6).toInt ∨ ((I14879 6).toInt = 0 ∧ (A 2 (I14879 4).toNatClampNeg).toInt = (4 : Int32).toInt) := r15165
                          exact g_vret hk hR ⟨(upd (upd I15160 11 (-2)) 17 y15175), (up3 A15160 10 1 y15177), (up3L L15160 7 ((I 17).toNatClampNeg) y15174), (show Md [4, 6, 7, 8, 9, 11, 12, 13, 17] I (upd (upd I15160 11 (-2)) 17 y15175) from (Md.up (Md.up (Md.tr (Md.tr (Md.tr (Md.tr (Md.up Md.rf rfl) hI10777 rfl) hI10791 rfl) hI14879 rfl) hI15160 rfl) rfl) rfl)), (show Md [10, 11, 12] A (up3 A15160 10 1 y15177) from (Md.up3 (Md.tr (Md.tr (Md.up3 (Md.tr (Md.tr Md.rf hA10777 rfl) hA10791 rfl) rfl) hA14879 rfl) hA15160 rfl) rfl)), ⟨(IvM_f1 (I := I15160) (A := A15160) hV15160), (IvM_f2 (I := I15160) (A := A15160) hV15160), (IvM_f3 (I := I15160) (A := A15160) hV15160), (IvM_f4 (I := I15160) (A := A15160) hV15160), (IvM_f6 (I := I15160) (A := A15160) hV15160), (IvM_f8 (I := I15160) (A := A15160) hV15160), (IvM_f15 (I := I15160) (A := A15160) hV15160), (IvM_f16 (I := I15160) (A := A15160) hV15160), (show 0 ≤ y15175.toInt ∧ y15175.toInt ≤ 5 from ⟨by omega, by omega⟩), (IvM_f18 (I := I15160) (A := A15160) hV15160), (IvM_f22 (I := I15160) (A := A15160) hV15160), (IvM_f23 (I := I15160) (A := A15160) hV15160), (IvM_f24 (I := I15160) (A := A15160) hV15160), (IvM_a11 (I := I15160) (A := A15160) hV15160), (IvM_a26 (I := I15160) (A := A15160) hV15160), (IvM_s8_0 (I := I15160) (A := A15160) hV15160), (IvM_s8_1 (I := I15160) (A := A15160) hV15160), (show 0 ≤ ((up3 A15160 10 1 y15177) 10 0).toInt ∧ ((up3 A15160 10 1 y15177) 10 0).toInt ≤ 5 from by rw [show (up3 A15160 10 1 y15177) 10 0 = (A15160 10 0) from rfl]; exact (IvM_s10_0 (I := I15160) (A := A15160) hV15160)), (show 0 ≤ ((up3 A15160 10 1 y15177) 10 1).toInt ∧ ((up3 A15160 10 1 y15177) 10 1).toInt ≤ 5 from by rw [show (up3 A15160 10 1 y15177) 10 1 = y15177 from rfl]; exact ⟨by omega, by omega⟩), (IvM_s17_0 (I := I15160) (A := A15160) hV15160), (IvM_s17_164 (I := I15160) (A := A15160) hV15160), ⟨fun e => by have e : (I15160 15).toInt = 0 := e; first | exact (IvM_lv (I := I15160) (A := A15160) hV15160).1 e | (exfalso; omega), fun e => by have e : (I15160 15).toInt = 1 := e; first | exact (IvM_lv (I := I15160) (A := A15160) hV15160).2 e | (exfalso; omega)⟩, (by first | (exfalso; omega) | (by_cases g8 : (I15160 8).toInt ≠ 0; exact Or.inr (Or.inl g8); rcases (IvM_sd (I := I15160) (A := A15160) hV15160) with h9 | h9 | h9; exact absurd h9 (by omega); exact absurd h9 g8; exact Or.inr (Or.inr ⟨fun e => by have e : (I15160 16).toInt = 0 := e; first | exact ghf_add (n := (A15160 10 0)) (f := (A15160 11)) (n2 := y15177) (p := y10773.toNatClampNeg) (h9.1 e) (by omega) (by omega) (by omega) | (exfalso; omega), fun e => by have e : (I15160 16).toInt = 1 := e; first | exact ghf_add (n := (A15160 10 1)) (f := (A15160 11)) (n2 := y15177) (p := y10773.toNatClampNeg) (h9.2 e) (by omega) (by omega) (by omega) | (exfalso; omega)⟩))), ⟨fun e => by have e : (I15160 16).toInt = 0 := e; first | (exfalso; omega) | (show y15175.toInt = (A15160 10 0).toInt; omega), fun e => by have e : (I15160 16).toInt = 1 := e; first | (exfalso; omega) | (show y15175.toInt = y15177.toInt; omega)⟩, (IvM_hr (I := I15160) (A := A15160) hV15160), (IvM_hh (I := I15160) (A := A15160) hV15160), trivial⟩, (by rw [show ((upd (upd I15160 11 (-2)) 17 y15175) 4) = (I15160 4) from rfl] <;> omega), (by rw [show ((upd (upd I15160 11 (-2)) 17 y15175) 6) = (I15160 6) from rfl] <;> omega), (by rw [show ((upd (upd I15160 11 (-2)) 17 y15175) 8) = (I14879 8) from (hI15160 8 rfl)] <;> omega), rfl, rfl⟩ dX12_tellQuery_251
                        exfalso; omega
                      · skip
                        exact g_vret hk hR ⟨I15160, A15160, L15160, (show Md [4, 6, 7, 8, 9, 11, 12, 13, 17] I I15160 from (Md.tr (Md.tr (Md.tr (Md.tr (Md.up Md.rf rfl) hI10777 rfl) hI10791 rfl) hI14879 rfl) hI15160 rfl)), (show Md [10, 11, 12] A A15160 from (Md.tr (Md.tr (Md.up3 (Md.tr (Md.tr Md.rf hA10777 rfl) hA10791 rfl) rfl) hA14879 rfl) hA15160 rfl)), hV15160, (by omega), (by omega), (by rw [show (I15160 8) = (I14879 8) from (hI15160 8 rfl)] <;> omega), rfl, rfl⟩ dX12_tellQuery_206
                    · skip
                      rw [show (A14879 2 (I14879 4).toNatClampNeg) = (A 2 (I14879 4).toNatClampNeg) from ((congrFun (hA14879 2 rfl) _).trans ((congrFun (hA10791 2 rfl) _).trans (congrFun (hA10777 2 rfl) _)))] at c15157
                      show GW κ 4 0 0 (wM r g I14879 A14879 L14879) 171 [(3, .int x10787), (2, .int (I 4)), (1, .int y10773), (0, .ref (r 0))] [.int 1]
                      refine g_if_eq (tgt := 194) (a := 1) hk dX12_tellQuery_171 (by decide) rfl (fun z9 => absurd z9 (show ¬ ((1 : Int) = (0 : Int)) from by decide)) (fun _ => ?_)
                      refine g_aload_n hk dX12_tellQuery_174 rfl ?_
                      refine gM_r0_29 hk hin12 (List.mem_cons_of_mem _ (List.mem_append_left _ (List.mem_of_getElem? (i := 9) rfl))) dX12_tellQuery_175 ?_
                      refine g_iload_n hk dX12_tellQuery_178 rfl ?_
                      refine lM_11 (v := (A14879 11 y10773.toNatClampNeg)) hk (vp_in_iff.mpr ⟨by omega, by omega⟩) rfl dX12_tellQuery_179 ?_
                      have f15188 := IvM_a11 hV14879 (y10773.toNatClampNeg)
                      refine g_iconst (v := 2) hk dX12_tellQuery_180 (by decide) ?_
                      refine g_icmp_ge (tgt := 194) (a := (A14879 11 y10773.toNatClampNeg).toInt) (b := 2) hk dX12_tellQuery_181 (by decide) rfl rfl (fun c15189 => ?_) (fun c15189 => ?_)
                      · skip
                        refine g_aload_n hk dX12_tellQuery_194 rfl ?_
                        refine g_iconst (v := 4) hk dX12_tellQuery_195 (by decide) ?_
                        refine g_callV (n := 1) hk (j131_X12_must l D zt r g I14879 A14879 L14879 4 hV14879) (SP.same _) (fun _ h => h) (gi_V (List.mem_cons_of_mem _ (List.mem_append_left _ (List.mem_of_getElem? (i := 4) rfl))) (List.mem_cons_of_mem _ (List.mem_append_left _ (List.mem_of_getElem? (i := 5) rfl))) (List.mem_cons_of_mem _ (List.mem_append_left _ (List.mem_of_getElem? (i := 6) rfl))) (List.mem_cons_of_mem _ (List.mem_append_left _ (List.mem_of_getElem? (i := 7) rfl))) (gi_sub (fun w h => (List.mem_cons_of_mem _ (List.mem_append_right _ (List.mem_append_right _ (List.mem_append_left _ h))))) zg_j131_X12_must)) rfl rfl rfl (by decide +kernel) ⟨Nat.le_of_ble_eq_true rfl, Nat.le_of_ble_eq_true rfl⟩ 0 rfl rfl rfl rfl (Nat.le_of_ble_eq_true rfl) ⟨Nat.le_of_ble_eq_true rfl, Nat.le_of_ble_eq_true rfl⟩ dX12_tellQuery_196 (fun v ty' w' hp hk' => ?_)
                        obtain ⟨I15191, A15191, L15191, hI15191, hA15191, hV15191, r15192, r15193, r15194, r15195, r15196, rfl, rfl⟩ := hp
                        have f15197 := IvM_f4 hV15191
                        have f15198 := IvM_f6 hV15191
                        rw [show (I15191 8) = (I14879 8) from (hI15191 8 rfl)] at r15194
                        rw [show (A14879 2 (I14879 4).toNatClampNeg) = (A 2 (I14879 4).toNatClampNeg) from ((congrFun (hA14879 2 rfl) _).trans ((congrFun (hA10791 2 rfl) _).trans (congrFun (hA10777 2 rfl) _)))] at r15196
                        show GW κ 4 0 0 (wM r g I15191 A15191 L15191) 199 [(3, .int x10787), (2, .int (I 4)), (1, .int y10773), (0, .ref (r 0))] []
                        refine g_aload_n hk dX12_tellQuery_199 rfl ?_
                        refine gM_i6 (v := (I15191 6)) hk hin12 (List.mem_cons_of_mem _ (List.mem_append_left _ (List.mem_of_getElem? (i := 16) rfl))) dX12_tellQuery_200 rfl ?_
                        refine g_if_le (tgt := 207) (a := (I15191 6).toInt) hk dX12_tellQuery_203 (by decide) rfl (fun c15199 => ?_) (fun c15199 => ?_)
                        · skip
                          refine g_aload_n hk dX12_tellQuery_207 rfl ?_
                          refine g_bipush (v := (-2)) hk dX12_tellQuery_208 (by decide) ?_
                          refine pM_i11 hk hin12 (List.mem_cons_of_mem _ (List.mem_append_left _ (List.mem_of_getElem? (i := 0) rfl))) dX12_tellQuery_210 ?_
                          refine g_aload_n hk dX12_tellQuery_213 rfl ?_
                          refine gM_r0_25 hk hin12 (List.mem_cons_of_mem _ (List.mem_append_left _ (List.mem_of_getElem? (i := 17) rfl))) dX12_tellQuery_214 ?_
                          refine g_aload_n hk dX12_tellQuery_217 rfl ?_
                          refine gM_i17 (v := (I 17)) hk hin12 (List.mem_cons_of_mem _ (List.mem_append_left _ (List.mem_of_getElem? (i := 8) rfl))) dX12_tellQuery_218 ((hI15191 17 rfl).trans ((hI14879 17 rfl).trans ((hI10791 17 rfl).trans (hI10777 17 rfl)))) ?_
                          have g15200 : (I15191 16).toInt = (I 16).toInt := by rw [show (I15191 16) = (I 16) from ((hI15191 16 rfl).trans ((hI14879 16 rfl).trans ((hI10791 16 rfl).trans (hI10777 16 rfl))))]
                          have g15201 : (I15191 17).toInt = (I 17).toInt := by rw [show (I15191 17) = (I 17) from ((hI15191 17 rfl).trans ((hI14879 17 rfl).trans ((hI10791 17 rfl).trans (hI10777 17 rfl))))]
                          have g15202 : (A15191 10 0).toInt = (A 10 0).toInt := by rw [show (A15191 10 0) = (A 10 0) from ((congrFun (hA15191 10 rfl) _).trans ((congrFun (hA14879 10 rfl) _).trans ((congrFun (hA10791 10 rfl) _).trans (congrFun (hA10777 10 rfl) _))))]
                          have g15203 : (A15191 10 1).toInt = (A 10 1).toInt := by rw [show (A15191 10 1) = (A 10 1) from ((congrFun (hA15191 10 rfl) _).trans ((congrFun (hA14879 10 rfl) _).trans ((congrFun (hA10791 10 rfl) _).trans (congrFun (hA10777 10 rfl) _))))]
                          have g15204 := (IvM_nq (I := I15191) (A := A15191) hV15191).2 (by omega)
                          refine g_aload_n hk dX12_tellQuery_221 rfl ?_
                          refine gM_r0_8 hk hin12 (List.mem_cons_of_mem _ (List.mem_append_left _ (List.mem_of_getElem? (i := 18) rfl))) dX12_tellQuery_222 ?_
                          refine g_iload_n hk dX12_tellQuery_225 rfl ?_
                          refine lM_5 hk (vp_in_iff.mpr ⟨by omega, by omega⟩) rfl dX12_tellQuery_226 ?_
                          refine g_topl (fun y15205 ey15205 => ?_)
                          refine sM_7 (j := (I 17).toNatClampNeg) hk (vp_in_iff.mpr ⟨by omega, by omega⟩) rfl dX12_tellQuery_227 ?_
                          refine g_aload_n hk dX12_tellQuery_228 rfl ?_
                          refine g_dup hk dX12_tellQuery_229 rfl ?_
                          refine gM_i17 (v := (I 17)) hk hin12 (List.mem_cons_of_mem _ (List.mem_append_left _ (List.mem_of_getElem? (i := 8) rfl))) dX12_tellQuery_230 ((hI15191 17 rfl).trans ((hI14879 17 rfl).trans ((hI10791 17 rfl).trans (hI10777 17 rfl)))) ?_
                          refine g_iconst (v := 1) hk dX12_tellQuery_233 (by decide) ?_
                          refine g_iadd hk dX12_tellQuery_234 ?_
                          refine g_topi (fun y15206 ey15206 => ?_)
                          have hy15206 : y15206.toInt = (I 17).toInt + 1 := i32_add ey15206 rfl rfl (by omega) (by omega)
                          refine pM_i17 hk hin12 (List.mem_cons_of_mem _ (List.mem_append_left _ (List.mem_of_getElem? (i := 8) rfl))) dX12_tellQuery_235 ?_
                          refine g_aload_n hk dX12_tellQuery_238 rfl ?_
                          refine gM_r0_28 hk hin12 (List.mem_cons_of_mem _ (List.mem_append_left _ (List.mem_of_getElem? (i := 2) rfl))) dX12_tellQuery_239 ?_
                          refine g_aload_n hk dX12_tellQuery_242 rfl ?_
                          refine gM_i16 (v := (I 16)) hk hin12 (List.mem_cons_of_mem _ (List.mem_append_left _ (List.mem_of_getElem? (i := 1) rfl))) dX12_tellQuery_243 ((hI15191 16 rfl).trans ((hI14879 16 rfl).trans ((hI10791 16 rfl).trans (hI10777 16 rfl)))) ?_
                          by_cases c15207 : (I 16).toInt = 1
                          · have ec15207 : (I 16) = 1 := Int32.toInt_inj.mp c15207
                            rw [ec15207]
                            show GW κ 4 0 0 (wM r g (upd (upd I15191 11 (-2)) 17 y15206) A15191 (up3L L15191 7 ((I 17).toNatClampNeg) y15205)) 246 [(3, .int x10787), (2, .int (I 4)), (1, .int y10773), (0, .ref (r 0))] [.int 1, .ref (r 11)]
                            refine g_dup2 hk dX12_tellQuery_246 rfl rfl ?_
                            refine lM_10 (v := (A 10 1)) hk (vp_in_iff.mpr ⟨by decide, by decide⟩) ((congrFun (hA15191 10 rfl) _).trans ((congrFun (hA14879 10 rfl) _).trans ((congrFun (hA10791 10 rfl) _).trans (congrFun (hA10777 10 rfl) _)))) dX12_tellQuery_247 ?_
                            refine g_iconst (v := 1) hk dX12_tellQuery_248 (by decide) ?_
                            refine g_iadd hk dX12_tellQuery_249 ?_
                            refine g_topi (fun y15208 ey15208 => ?_)
                            have hy15208 : y15208.toInt = (A 10 1).toInt + 1 := i32_add ey15208 rfl rfl (by omega) (by omega)
                            refine sM_10 (j := 1) hk (vp_in_iff.mpr ⟨by decide, by decide⟩) (by decide) dX12_tellQuery_250 ?_
                            have f15209 := IvM_s10_0 hV15191
                            have f15210 := IvM_s10_1 hV15191
                            have g15211 : (I15191 15).toInt = (I 15).toInt := by rw [show (I15191 15) = (I 15) from ((hI15191 15 rfl).trans ((hI14879 15 rfl).trans ((hI10791 15 rfl).trans (hI10777 15 rfl))))]
                            have g15212 := IvM_s10_0 (I := I15191) (A := A15191) hV15191
                            have g15213 := IvM_s10_1 (I := I15191) (A := A15191) hV15191
                            have g15214 : (I15191 8).toInt = (I14879 8).toInt := by rw [show (I15191 8) = (I14879 8) from (hI15191 8 rfl)]
                            have q15215 := cl_int (y := y10773) (by omega)
                            have g15216 : (A15191 11 y10773.toNatClampNeg).toInt = (A14879 11 y10773.toNatClampNeg).toInt := by rw [show (A15191 11 y10773.toNatClampNeg) = (A14879 11 y10773.toNatClampNeg) from (congrFun (hA15191 11 rfl) _)]
                            have u15217 : 0 < (I10777 6).toInt ∨ ((I 6).toInt = 0 ∧ (A 2 (I 4).toNatClampNeg).toInt = (1 : Int32).toInt) := r10782
                            have u15218 : 0 < (I15191 6).toInt ∨ ((I14879 6).toInt = 0 ∧ (A 2 (I14879 4).toNatClampNeg).toInt = (4 : Int32).toInt) := r15196
                            exact g_vret hk hR ⟨(upd (upd I15191 11 (-2)) 17 y15206), (up3 A15191 10 1 y15208), (up3L L15191 7 ((I 17).toNatClampNeg) y15205), (show Md [4, 6, 7, 8, 9, 11, 12, 13, 17] I (upd (upd I15191 11 (-2)) 17 y15206) from (Md.up (Md.up (Md.tr (Md.tr (Md.tr (Md.tr (Md.up Md.rf rfl) hI10777 rfl) hI10791 rfl) hI14879 rfl) hI15191 rfl) rfl) rfl)), (show Md [10, 11, 12] A (up3 A15191 10 1 y15208) from (Md.up3 (Md.tr (Md.tr (Md.up3 (Md.tr (Md.tr Md.rf hA10777 rfl) hA10791 rfl) rfl) hA14879 rfl) hA15191 rfl) rfl)), ⟨(IvM_f1 (I := I15191) (A := A15191) hV15191), (IvM_f2 (I := I15191) (A := A15191) hV15191), (IvM_f3 (I := I15191) (A := A15191) hV15191), (IvM_f4 (I := I15191) (A := A15191) hV15191), (IvM_f6 (I := I15191) (A := A15191) hV15191), (IvM_f8 (I := I15191) (A := A15191) hV15191), (IvM_f15 (I := I15191) (A := A15191) hV15191), (IvM_f16 (I := I15191) (A := A15191) hV15191), (show 0 ≤ y15206.toInt ∧ y15206.toInt ≤ 5 from ⟨by omega, by omega⟩), (IvM_f18 (I := I15191) (A := A15191) hV15191), (IvM_f22 (I := I15191) (A := A15191) hV15191), (IvM_f23 (I := I15191) (A := A15191) hV15191), (IvM_f24 (I := I15191) (A := A15191) hV15191), (IvM_a11 (I := I15191) (A := A15191) hV15191), (IvM_a26 (I := I15191) (A := A15191) hV15191), (IvM_s8_0 (I := I15191) (A := A15191) hV15191), (IvM_s8_1 (I := I15191) (A := A15191) hV15191), (show 0 ≤ ((up3 A15191 10 1 y15208) 10 0).toInt ∧ ((up3 A15191 10 1 y15208) 10 0).toInt ≤ 5 from by rw [show (up3 A15191 10 1 y15208) 10 0 = (A15191 10 0) from rfl]; exact (IvM_s10_0 (I := I15191) (A := A15191) hV15191)), (show 0 ≤ ((up3 A15191 10 1 y15208) 10 1).toInt ∧ ((up3 A15191 10 1 y15208) 10 1).toInt ≤ 5 from by rw [show (up3 A15191 10 1 y15208) 10 1 = y15208 from rfl]; exact ⟨by omega, by omega⟩), (IvM_s17_0 (I := I15191) (A := A15191) hV15191), (IvM_s17_164 (I := I15191) (A := A15191) hV15191), ⟨fun e => by have e : (I15191 15).toInt = 0 := e; first | exact (IvM_lv (I := I15191) (A := A15191) hV15191).1 e | (exfalso; omega), fun e => by have e : (I15191 15).toInt = 1 := e; first | exact (IvM_lv (I := I15191) (A := A15191) hV15191).2 e | (exfalso; omega)⟩, (by first | (exfalso; omega) | (by_cases g8 : (I15191 8).toInt ≠ 0; exact Or.inr (Or.inl g8); rcases (IvM_sd (I := I15191) (A := A15191) hV15191) with h9 | h9 | h9; exact absurd h9 (by omega); exact absurd h9 g8; exact Or.inr (Or.inr ⟨fun e => by have e : (I15191 16).toInt = 0 := e; first | exact ghf_add (n := (A15191 10 0)) (f := (A15191 11)) (n2 := y15208) (p := y10773.toNatClampNeg) (h9.1 e) (by omega) (by omega) (by omega) | (exfalso; omega), fun e => by have e : (I15191 16).toInt = 1 := e; first | exact ghf_add (n := (A15191 10 1)) (f := (A15191 11)) (n2 := y15208) (p := y10773.toNatClampNeg) (h9.2 e) (by omega) (by omega) (by omega) | (exfalso; omega)⟩))), ⟨fun e => by have e : (I15191 16).toInt = 0 := e; first | (exfalso; omega) | (show y15206.toInt = (A15191 10 0).toInt; omega), fun e => by have e : (I15191 16).toInt = 1 := e; first | (exfalso; omega) | (show y15206.toInt = y15208.toInt; omega)⟩, (IvM_hr (I := I15191) (A := A15191) hV15191), (IvM_hh (I := I15191) (A := A15191) hV15191), trivial⟩, (by rw [show ((upd (upd I15191 11 (-2)) 17 y15206) 4) = (I15191 4) from rfl] <;> omega), (by rw [show ((upd (upd I15191 11 (-2)) 17 y15206) 6) = (I15191 6) from rfl] <;> omega), (by rw [show ((upd (upd I15191 11 (-2)) 17 y15206) 8) = (I14879 8) from (hI15191 8 rfl)] <;> omega), rfl, rfl⟩ dX12_tellQuery_251
                          exfalso; omega
                        · skip
                          exact g_vret hk hR ⟨I15191, A15191, L15191, (show Md [4, 6, 7, 8, 9, 11, 12, 13, 17] I I15191 from (Md.tr (Md.tr (Md.tr (Md.tr (Md.up Md.rf rfl) hI10777 rfl) hI10791 rfl) hI14879 rfl) hI15191 rfl)), (show Md [10, 11, 12] A A15191 from (Md.tr (Md.tr (Md.up3 (Md.tr (Md.tr Md.rf hA10777 rfl) hA10791 rfl) rfl) hA14879 rfl) hA15191 rfl)), hV15191, (by omega), (by omega), (by rw [show (I15191 8) = (I14879 8) from (hI15191 8 rfl)] <;> omega), rfl, rfl⟩ dX12_tellQuery_206
                      · skip
                        refine g_aload_n hk dX12_tellQuery_184 rfl ?_
                        refine g_bipush (v := 6) hk dX12_tellQuery_185 (by decide) ?_
                        refine g_aload_n hk dX12_tellQuery_187 rfl ?_
                        refine gM_i4 (v := (I14879 4)) hk hin12 (List.mem_cons_of_mem _ (List.mem_append_left _ (List.mem_of_getElem? (i := 3) rfl))) dX12_tellQuery_188 rfl ?_
                        have k15219 : (6 : Int32).toInt = 6 := rfl
                        refine g_callV (n := 2) hk (j134_X12_wrong l D zt r g I14879 A14879 L14879 6 (I14879 4) hV14879 (by decide) (by decide) (by omega) (by omega)) (SP.same _) (fun _ h => h) (gi_V (List.mem_cons_of_mem _ (List.mem_append_left _ (List.mem_of_getElem? (i := 19) rfl))) (List.mem_cons_of_mem _ (List.mem_append_left _ (List.mem_of_getElem? (i := 20) rfl))) (List.mem_cons_of_mem _ (List.mem_append_left _ (List.mem_of_getElem? (i := 21) rfl))) (List.mem_cons_of_mem _ (List.mem_append_left _ (List.mem_of_getElem? (i := 7) rfl))) (gi_sub (fun w h => (List.mem_cons_of_mem _ (List.mem_append_right _ (List.mem_append_right _ (List.mem_append_right _ (List.mem_append_right _ (List.mem_append_right _ (List.mem_append_left _ h)))))))) zg_j134_X12_wrong)) rfl rfl rfl (by decide +kernel) ⟨Nat.le_of_ble_eq_true rfl, Nat.le_of_ble_eq_true rfl⟩ 0 rfl rfl rfl rfl (Nat.le_of_ble_eq_true rfl) ⟨Nat.le_of_ble_eq_true rfl, Nat.le_of_ble_eq_true rfl⟩ dX12_tellQuery_191 (fun v ty' w' hp hk' => ?_)
                        obtain ⟨I15221, A15221, L15221, hI15221, hA15221, hV15221, r15222, r15223, r15224, rfl, rfl⟩ := hp
                        rw [show (I15221 6) = (I14879 6) from (hI15221 6 rfl)] at r15222
                        have f15225 := IvM_f8 hV15221
                        rw [show (I15221 6) = (I14879 6) from (hI15221 6 rfl)] at r15224
                        show GW κ 4 0 0 (wM r g I15221 A15221 L15221) 194 [(3, .int x10787), (2, .int (I 4)), (1, .int y10773), (0, .ref (r 0))] []
                        refine g_aload_n hk dX12_tellQuery_194 rfl ?_
                        refine g_iconst (v := 4) hk dX12_tellQuery_195 (by decide) ?_
                        refine g_callV (n := 1) hk (j131_X12_must l D zt r g I15221 A15221 L15221 4 hV15221) (SP.same _) (fun _ h => h) (gi_V (List.mem_cons_of_mem _ (List.mem_append_left _ (List.mem_of_getElem? (i := 4) rfl))) (List.mem_cons_of_mem _ (List.mem_append_left _ (List.mem_of_getElem? (i := 5) rfl))) (List.mem_cons_of_mem _ (List.mem_append_left _ (List.mem_of_getElem? (i := 6) rfl))) (List.mem_cons_of_mem _ (List.mem_append_left _ (List.mem_of_getElem? (i := 7) rfl))) (gi_sub (fun w h => (List.mem_cons_of_mem _ (List.mem_append_right _ (List.mem_append_right _ (List.mem_append_left _ h))))) zg_j131_X12_must)) rfl rfl rfl (by decide +kernel) ⟨Nat.le_of_ble_eq_true rfl, Nat.le_of_ble_eq_true rfl⟩ 0 rfl rfl rfl rfl (Nat.le_of_ble_eq_true rfl) ⟨Nat.le_of_ble_eq_true rfl, Nat.le_of_ble_eq_true rfl⟩ dX12_tellQuery_196 (fun v ty' w' hp hk' => ?_)
                        obtain ⟨I15227, A15227, L15227, hI15227, hA15227, hV15227, r15228, r15229, r15230, r15231, r15232, rfl, rfl⟩ := hp
                        have f15233 := IvM_f4 hV15227
                        rw [show (I15221 4) = (I14879 4) from (hI15221 4 rfl)] at r15228
                        have f15234 := IvM_f6 hV15227
                        rw [show (I15221 6) = (I14879 6) from (hI15221 6 rfl)] at r15229
                        rw [show (I15227 8) = (I15221 8) from (hI15227 8 rfl)] at r15230
                        rw [show (I15221 4) = (I14879 4) from (hI15221 4 rfl)] at r15231
                        rw [show (I15221 6) = (I14879 6) from (hI15221 6 rfl), show (A15221 2 (I15221 4).toNatClampNeg) = (A 2 (I14879 4).toNatClampNeg) from (by rw [show I15221 4 = (I14879 4) from (hI15221 4 rfl)]; exact ((congrFun (hA15221 2 rfl) _).trans ((congrFun (hA14879 2 rfl) _).trans ((congrFun (hA10791 2 rfl) _).trans (congrFun (hA10777 2 rfl) _)))))] at r15232
                        show GW κ 4 0 0 (wM r g I15227 A15227 L15227) 199 [(3, .int x10787), (2, .int (I 4)), (1, .int y10773), (0, .ref (r 0))] []
                        refine g_aload_n hk dX12_tellQuery_199 rfl ?_
                        refine gM_i6 (v := (I15227 6)) hk hin12 (List.mem_cons_of_mem _ (List.mem_append_left _ (List.mem_of_getElem? (i := 16) rfl))) dX12_tellQuery_200 rfl ?_
                        refine g_if_le (tgt := 207) (a := (I15227 6).toInt) hk dX12_tellQuery_203 (by decide) rfl (fun c15235 => ?_) (fun c15235 => ?_)
                        · skip
                          refine g_aload_n hk dX12_tellQuery_207 rfl ?_
                          refine g_bipush (v := (-2)) hk dX12_tellQuery_208 (by decide) ?_
                          refine pM_i11 hk hin12 (List.mem_cons_of_mem _ (List.mem_append_left _ (List.mem_of_getElem? (i := 0) rfl))) dX12_tellQuery_210 ?_
                          refine g_aload_n hk dX12_tellQuery_213 rfl ?_
                          refine gM_r0_25 hk hin12 (List.mem_cons_of_mem _ (List.mem_append_left _ (List.mem_of_getElem? (i := 17) rfl))) dX12_tellQuery_214 ?_
                          refine g_aload_n hk dX12_tellQuery_217 rfl ?_
                          refine gM_i17 (v := (I 17)) hk hin12 (List.mem_cons_of_mem _ (List.mem_append_left _ (List.mem_of_getElem? (i := 8) rfl))) dX12_tellQuery_218 ((hI15227 17 rfl).trans ((hI15221 17 rfl).trans ((hI14879 17 rfl).trans ((hI10791 17 rfl).trans (hI10777 17 rfl))))) ?_
                          have g15236 : (I15227 16).toInt = (I 16).toInt := by rw [show (I15227 16) = (I 16) from ((hI15227 16 rfl).trans ((hI15221 16 rfl).trans ((hI14879 16 rfl).trans ((hI10791 16 rfl).trans (hI10777 16 rfl)))))]
                          have g15237 : (I15227 17).toInt = (I 17).toInt := by rw [show (I15227 17) = (I 17) from ((hI15227 17 rfl).trans ((hI15221 17 rfl).trans ((hI14879 17 rfl).trans ((hI10791 17 rfl).trans (hI10777 17 rfl)))))]
                          have g15238 : (A15227 10 0).toInt = (A 10 0).toInt := by rw [show (A15227 10 0) = (A 10 0) from ((congrFun (hA15227 10 rfl) _).trans ((congrFun (hA15221 10 rfl) _).trans ((congrFun (hA14879 10 rfl) _).trans ((congrFun (hA10791 10 rfl) _).trans (congrFun (hA10777 10 rfl) _)))))]
                          have g15239 : (A15227 10 1).toInt = (A 10 1).toInt := by rw [show (A15227 10 1) = (A 10 1) from ((congrFun (hA15227 10 rfl) _).trans ((congrFun (hA15221 10 rfl) _).trans ((congrFun (hA14879 10 rfl) _).trans ((congrFun (hA10791 10 rfl) _).trans (congrFun (hA10777 10 rfl) _)))))]
                          have g15240 := (IvM_nq (I := I15227) (A := A15227) hV15227).2 (by omega)
                          refine g_aload_n hk dX12_tellQuery_221 rfl ?_
                          refine gM_r0_8 hk hin12 (List.mem_cons_of_mem _ (List.mem_append_left _ (List.mem_of_getElem? (i := 18) rfl))) dX12_tellQuery_222 ?_
                          refine g_iload_n hk dX12_tellQuery_225 rfl ?_
                          refine lM_5 hk (vp_in_iff.mpr ⟨by omega, by omega⟩) rfl dX12_tellQuery_226 ?_
                          refine g_topl (fun y15241 ey15241 => ?_)
                          refine sM_7 (j := (I 17).toNatClampNeg) hk (vp_in_iff.mpr ⟨by omega, by omega⟩) rfl dX12_tellQuery_227 ?_
                          refine g_aload_n hk dX12_tellQuery_228 rfl ?_
                          refine g_dup hk dX12_tellQuery_229 rfl ?_
                          refine gM_i17 (v := (I 17)) hk hin12 (List.mem_cons_of_mem _ (List.mem_append_left _ (List.mem_of_getElem? (i := 8) rfl))) dX12_tellQuery_230 ((hI15227 17 rfl).trans ((hI15221 17 rfl).trans ((hI14879 17 rfl).trans ((hI10791 17 rfl).trans (hI10777 17 rfl))))) ?_
                          refine g_iconst (v := 1) hk dX12_tellQuery_233 (by decide) ?_
                          refine g_iadd hk dX12_tellQuery_234 ?_
                          refine g_topi (fun y15242 ey15242 => ?_)
                          have hy15242 : y15242.toInt = (I 17).toInt + 1 := i32_add ey15242 rfl rfl (by omega) (by omega)
                          refine pM_i17 hk hin12 (List.mem_cons_of_mem _ (List.mem_append_left _ (List.mem_of_getElem? (i := 8) rfl))) dX12_tellQuery_235 ?_
                          refine g_aload_n hk dX12_tellQuery_238 rfl ?_
                          refine gM_r0_28 hk hin12 (List.mem_cons_of_mem _ (List.mem_append_left _ (List.mem_of_getElem? (i := 2) rfl))) dX12_tellQuery_239 ?_
                          refine g_aload_n hk dX12_tellQuery_242 rfl ?_
                          refine gM_i16 (v := (I 16)) hk hin12 (List.mem_cons_of_mem _ (List.mem_append_left _ (List.mem_of_getElem? (i := 1) rfl))) dX12_tellQuery_243 ((hI15227 16 rfl).trans ((hI15221 16 rfl).trans ((hI14879 16 rfl).trans ((hI10791 16 rfl).trans (hI10777 16 rfl))))) ?_
                          by_cases c15243 : (I 16).toInt = 1
                          · have ec15243 : (I 16) = 1 := Int32.toInt_inj.mp c15243
                            rw [ec15243]
                            show GW κ 4 0 0 (wM r g (upd (upd I15227 11 (-2)) 17 y15242) A15227 (up3L L15227 7 ((I 17).toNatClampNeg) y15241)) 246 [(3, .int x10787), (2, .int (I 4)), (1, .int y10773), (0, .ref (r 0))] [.int 1, .ref (r 11)]
                            refine g_dup2 hk dX12_tellQuery_246 rfl rfl ?_
                            refine lM_10 (v := (A 10 1)) hk (vp_in_iff.mpr ⟨by decide, by decide⟩) ((congrFun (hA15227 10 rfl) _).trans ((congrFun (hA15221 10 rfl) _).trans ((congrFun (hA14879 10 rfl) _).trans ((congrFun (hA10791 10 rfl) _).trans (congrFun (hA10777 10 rfl) _))))) dX12_tellQuery_247 ?_
                            refine g_iconst (v := 1) hk dX12_tellQuery_248 (by decide) ?_
                            refine g_iadd hk dX12_tellQuery_249 ?_
                            refine g_topi (fun y15244 ey15244 => ?_)
                            have hy15244 : y15244.toInt = (A 10 1).toInt + 1 := i32_add ey15244 rfl rfl (by omega) (by omega)
                            refine sM_10 (j := 1) hk (vp_in_iff.mpr ⟨by decide, by decide⟩) (by decide) dX12_tellQuery_250 ?_
                            have f15245 := IvM_s10_0 hV15227
                            have f15246 := IvM_s10_1 hV15227
                            have g15247 : (I15227 15).toInt = (I 15).toInt := by rw [show (I15227 15) = (I 15) from ((hI15227 15 rfl).trans ((hI15221 15 rfl).trans ((hI14879 15 rfl).trans ((hI10791 15 rfl).trans (hI10777 15 rfl)))))]
                            have g15248 := IvM_s10_0 (I := I15227) (A := A15227) hV15227
                            have g15249 := IvM_s10_1 (I := I15227) (A := A15227) hV15227
                            have g15250 : (I15227 8).toInt = (I15221 8).toInt := by rw [show (I15227 8) = (I15221 8) from (hI15227 8 rfl)]
                            have q15251 := cl_int (y := y10773) (by omega)
                            have g15252 : (A15227 11 y10773.toNatClampNeg).toInt = (A14879 11 y10773.toNatClampNeg).toInt := by rw [show (A15227 11 y10773.toNatClampNeg) = (A14879 11 y10773.toNatClampNeg) from ((congrFun (hA15227 11 rfl) _).trans (congrFun (hA15221 11 rfl) _))]
                            have u15253 : 0 < (I10777 6).toInt ∨ ((I 6).toInt = 0 ∧ (A 2 (I 4).toNatClampNeg).toInt = (1 : Int32).toInt) := r10782
                            have u15254 : 0 < (I15227 6).toInt ∨ ((I14879 6).toInt = 0 ∧ (A 2 (I14879 4).toNatClampNeg).toInt = (4 : Int32).toInt) := r15232
                            exact g_vret hk hR ⟨(upd (upd I15227 11 (-2)) 17 y15242), (up3 A15227 10 1 y15244), (up3L L15227 7 ((I 17).toNatClampNeg) y15241), (show Md [4, 6, 7, 8, 9, 11, 12, 13, 17] I (upd (upd I15227 11 (-2)) 17 y15242) from (Md.up (Md.up (Md.tr (Md.tr (Md.tr (Md.tr (Md.tr (Md.up Md.rf rfl) hI10777 rfl) hI10791 rfl) hI14879 rfl) hI15221 rfl) hI15227 rfl) rfl) rfl)), (show Md [10, 11, 12] A (up3 A15227 10 1 y15244) from (Md.up3 (Md.tr (Md.tr (Md.tr (Md.up3 (Md.tr (Md.tr Md.rf hA10777 rfl) hA10791 rfl) rfl) hA14879 rfl) hA15221 rfl) hA15227 rfl) rfl)), ⟨(IvM_f1 (I := I15227) (A := A15227) hV15227), (IvM_f2 (I := I15227) (A := A15227) hV15227), (IvM_f3 (I := I15227) (A := A15227) hV15227), (IvM_f4 (I := I15227) (A := A15227) hV15227), (IvM_f6 (I := I15227) (A := A15227) hV15227), (IvM_f8 (I := I15227) (A := A15227) hV15227), (IvM_f15 (I := I15227) (A := A15227) hV15227), (IvM_f16 (I := I15227) (A := A15227) hV15227), (show 0 ≤ y15242.toInt ∧ y15242.toInt ≤ 5 from ⟨by omega, by omega⟩), (IvM_f18 (I := I15227) (A := A15227) hV15227), (IvM_f22 (I := I15227) (A := A15227) hV15227), (IvM_f23 (I := I15227) (A := A15227) hV15227), (IvM_f24 (I := I15227) (A := A15227) hV15227), (IvM_a11 (I := I15227) (A := A15227) hV15227), (IvM_a26 (I := I15227) (A := A15227) hV15227), (IvM_s8_0 (I := I15227) (A := A15227) hV15227), (IvM_s8_1 (I := I15227) (A := A15227) hV15227), (show 0 ≤ ((up3 A15227 10 1 y15244) 10 0).toInt ∧ ((up3 A15227 10 1 y15244) 10 0).toInt ≤ 5 from by rw [show (up3 A15227 10 1 y15244) 10 0 = (A15227 10 0) from rfl]; exact (IvM_s10_0 (I := I15227) (A := A15227) hV15227)), (show 0 ≤ ((up3 A15227 10 1 y15244) 10 1).toInt ∧ ((up3 A15227 10 1 y15244) 10 1).toInt ≤ 5 from by rw [show (up3 A15227 10 1 y15244) 10 1 = y15244 from rfl]; exact ⟨by omega, by omega⟩), (IvM_s17_0 (I := I15227) (A := A15227) hV15227), (IvM_s17_164 (I := I15227) (A := A15227) hV15227), ⟨fun e => by have e : (I15227 15).toInt = 0 := e; first | exact (IvM_lv (I := I15227) (A := A15227) hV15227).1 e | (exfalso; omega), fun e => by have e : (I15227 15).toInt = 1 := e; first | exact (IvM_lv (I := I15227) (A := A15227) hV15227).2 e | (exfalso; omega)⟩, (by first | (exfalso; omega) | (by_cases g8 : (I15227 8).toInt ≠ 0; exact Or.inr (Or.inl g8); rcases (IvM_sd (I := I15227) (A := A15227) hV15227) with h9 | h9 | h9; exact absurd h9 (by omega); exact absurd h9 g8; exact Or.inr (Or.inr ⟨fun e => by have e : (I15227 16).toInt = 0 := e; first | exact ghf_add (n := (A15227 10 0)) (f := (A15227 11)) (n2 := y15244) (p := y10773.toNatClampNeg) (h9.1 e) (by omega) (by omega) (by omega) | (exfalso; omega), fun e => by have e : (I15227 16).toInt = 1 := e; first | exact ghf_add (n := (A15227 10 1)) (f := (A15227 11)) (n2 := y15244) (p := y10773.toNatClampNeg) (h9.2 e) (by omega) (by omega) (by omega) | (exfalso; omega)⟩))), ⟨fun e => by have e : (I15227 16).toInt = 0 := e; first | (exfalso; omega) | (show y15242.toInt = (A15227 10 0).toInt; omega), fun e => by have e : (I15227 16).toInt = 1 := e; first | (exfalso; omega) | (show y15242.toInt = y15244.toInt; omega)⟩, (IvM_hr (I := I15227) (A := A15227) hV15227), (IvM_hh (I := I15227) (A := A15227) hV15227), trivial⟩, (by rw [show ((upd (upd I15227 11 (-2)) 17 y15242) 4) = (I15227 4) from rfl] <;> omega), (by rw [show ((upd (upd I15227 11 (-2)) 17 y15242) 6) = (I15227 6) from rfl] <;> omega), (by rw [show ((upd (upd I15227 11 (-2)) 17 y15242) 8) = (I15221 8) from (hI15227 8 rfl)] <;> omega), rfl, rfl⟩ dX12_tellQuery_251
                          exfalso; omega
                        · skip
                          exact g_vret hk hR ⟨I15227, A15227, L15227, (show Md [4, 6, 7, 8, 9, 11, 12, 13, 17] I I15227 from (Md.tr (Md.tr (Md.tr (Md.tr (Md.tr (Md.up Md.rf rfl) hI10777 rfl) hI10791 rfl) hI14879 rfl) hI15221 rfl) hI15227 rfl)), (show Md [10, 11, 12] A A15227 from (Md.tr (Md.tr (Md.tr (Md.up3 (Md.tr (Md.tr Md.rf hA10777 rfl) hA10791 rfl) rfl) hA14879 rfl) hA15221 rfl) hA15227 rfl)), hV15227, (by omega), (by omega), (by rw [show (I15227 8) = (I15221 8) from (hI15227 8 rfl)] <;> omega), rfl, rfl⟩ dX12_tellQuery_206
                  · skip
                    show GW κ 4 0 0 (wM r g I14879 A14879 L14879) 88 [(3, .int x10787), (2, .int (I 4)), (1, .int y10773), (0, .ref (r 0))] [.int 1]
                    refine g_if_eq (tgt := 166) (a := 1) hk dX12_tellQuery_88 (by decide) rfl (fun z9 => absurd z9 (show ¬ ((1 : Int) = (0 : Int)) from by decide)) (fun _ => ?_)
                    refine g_aload_n hk dX12_tellQuery_91 rfl ?_
                    refine gM_r0_29 hk hin12 (List.mem_cons_of_mem _ (List.mem_append_left _ (List.mem_of_getElem? (i := 9) rfl))) dX12_tellQuery_92 ?_
                    refine g_iload_n hk dX12_tellQuery_95 rfl ?_
                    refine lM_11 (v := (A14879 11 y10773.toNatClampNeg)) hk (vp_in_iff.mpr ⟨by omega, by omega⟩) rfl dX12_tellQuery_96 ?_
                    have f15255 := IvM_a11 hV14879 (y10773.toNatClampNeg)
                    refine g_bipush (v := 16) hk dX12_tellQuery_97 (by decide) ?_
                    refine g_icmp_ne (tgt := 107) (a := (A14879 11 y10773.toNatClampNeg).toInt) (b := 16) hk dX12_tellQuery_99 (by decide) rfl rfl (fun c15256 => ?_) (fun c15256 => ?_)
                    · skip
                      refine g_aload_n hk dX12_tellQuery_107 rfl ?_
                      refine gM_i6 (v := (I14879 6)) hk hin12 (List.mem_cons_of_mem _ (List.mem_append_left _ (List.mem_of_getElem? (i := 16) rfl))) dX12_tellQuery_108 rfl ?_
                      refine g_if_le (tgt := 115) (a := (I14879 6).toInt) hk dX12_tellQuery_111 (by decide) rfl (fun c15257 => ?_) (fun c15257 => ?_)
                      · skip
                        refine g_aload_n hk dX12_tellQuery_115 rfl ?_
                        refine gM_r0_30 hk hin12 (List.mem_cons_of_mem _ (List.mem_append_left _ (List.mem_of_getElem? (i := 22) rfl))) dX12_tellQuery_116 ?_
                        refine g_bipush (v := 16) hk dX12_tellQuery_119 (by decide) ?_
                        refine g_iload_n hk dX12_tellQuery_121 rfl ?_
                        refine g_imul hk dX12_tellQuery_122 ?_
                        refine g_topi (fun y15258 ey15258 => ?_)
                        have hy15258 : y15258.toInt = 16 * y10773.toInt := i32_mul ey15258 rfl rfl (by omega) (by omega)
                        refine g_aload_n hk dX12_tellQuery_123 rfl ?_
                        refine gM_r0_29 hk hin12 (List.mem_cons_of_mem _ (List.mem_append_left _ (List.mem_of_getElem? (i := 9) rfl))) dX12_tellQuery_124 ?_
                        refine g_iload_n hk dX12_tellQuery_127 rfl ?_
                        refine lM_11 (v := (A14879 11 y10773.toNatClampNeg)) hk (vp_in_iff.mpr ⟨by omega, by omega⟩) rfl dX12_tellQuery_128 ?_
                        refine g_iadd hk dX12_tellQuery_129 ?_
                        refine g_topi (fun y15259 ey15259 => ?_)
                        have hy15259 : y15259.toInt = y15258.toInt + (A14879 11 y10773.toNatClampNeg).toInt := i32_add ey15259 rfl rfl (by omega) (by omega)
                        refine g_aload_n hk dX12_tellQuery_130 rfl ?_
                        refine g_callV (n := 0) hk (j132_X12_readingTold l D zt r g I14879 A14879 L14879  hV14879) (SP.same _) (fun _ h => h) (gi_V (List.mem_cons_of_mem _ (List.mem_append_left _ (List.mem_of_getElem? (i := 23) rfl))) (List.mem_cons_of_mem _ (List.mem_append_left _ (List.mem_of_getElem? (i := 24) rfl))) (List.mem_cons_of_mem _ (List.mem_append_left _ (List.mem_of_getElem? (i := 25) rfl))) (List.mem_cons_of_mem _ (List.mem_append_left _ (List.mem_of_getElem? (i := 7) rfl))) (gi_sub (fun w h => (List.mem_cons_of_mem _ (List.mem_append_right _ (List.mem_append_right _ (List.mem_append_right _ (List.mem_append_right _ (List.mem_append_right _ (List.mem_append_right _ (List.mem_append_left _ h))))))))) zg_j132_X12_readingTold)) rfl rfl rfl (by decide +kernel) ⟨Nat.le_of_ble_eq_true rfl, Nat.le_of_ble_eq_true rfl⟩ 0 rfl rfl rfl rfl (Nat.le_of_ble_eq_true rfl) ⟨Nat.le_of_ble_eq_true rfl, Nat.le_of_ble_eq_true rfl⟩ dX12_tellQuery_131 (fun v ty' w' hp hk' => ?_)
                        obtain ⟨I15261, A15261, L15261, hI15261, hA15261, hV15261, y15260, r15262, r15263, r15264, r15265, rfl, rfl⟩ := hp
                        have f15266 := IvM_f4 hV15261
                        have f15267 := IvM_f6 hV15261
                        have f15268 := IvM_f8 hV15261
                        show GW κ 4 0 0 (wM r g I15261 A15261 L15261) 134 [(3, .int x10787), (2, .int (I 4)), (1, .int y10773), (0, .ref (r 0))] [.int y15260, .int y15259, .ref (r 13)]
                        refine sM_12 (j := y15259.toNatClampNeg) hk (vp_in_iff.mpr ⟨by omega, by omega⟩) rfl dX12_tellQuery_134 ?_
                        refine g_aload_n hk dX12_tellQuery_135 rfl ?_
                        refine gM_i6 (v := (I15261 6)) hk hin12 (List.mem_cons_of_mem _ (List.mem_append_left _ (List.mem_of_getElem? (i := 16) rfl))) dX12_tellQuery_136 rfl ?_
                        refine g_if_le (tgt := 143) (a := (I15261 6).toInt) hk dX12_tellQuery_139 (by decide) rfl (fun c15269 => ?_) (fun c15269 => ?_)
                        · skip
                          refine g_aload_n hk dX12_tellQuery_143 rfl ?_
                          refine gM_r0_29 hk hin12 (List.mem_cons_of_mem _ (List.mem_append_left _ (List.mem_of_getElem? (i := 9) rfl))) dX12_tellQuery_144 ?_
                          refine g_iload_n hk dX12_tellQuery_147 rfl ?_
                          refine g_dup2 hk dX12_tellQuery_148 rfl rfl ?_
                          refine lM_11 (v := (A14879 11 y10773.toNatClampNeg)) hk (vp_in_iff.mpr ⟨by omega, by omega⟩) (congrFun (hA15261 11 rfl) _) dX12_tellQuery_149 ?_
                          refine g_iconst (v := 1) hk dX12_tellQuery_150 (by decide) ?_
                          refine g_iadd hk dX12_tellQuery_151 ?_
                          refine g_topi (fun y15270 ey15270 => ?_)
                          have hy15270 : y15270.toInt = (A14879 11 y10773.toNatClampNeg).toInt + 1 := i32_add ey15270 rfl rfl (by omega) (by omega)
                          refine sM_11 (j := y10773.toNatClampNeg) hk (vp_in_iff.mpr ⟨by omega, by omega⟩) rfl dX12_tellQuery_152 ?_
                          have hA15271 : ∀ j, 0 ≤ ((up3 (up3 A15261 12 (y15259.toNatClampNeg) y15260) 11 (y10773.toNatClampNeg) y15270) 11 j).toInt ∧ ((up3 (up3 A15261 12 (y15259.toNatClampNeg) y15260) 11 (y10773.toNatClampNeg) y15270) 11 j).toInt ≤ 16 := ai_st ((IvM_a11 hV15261)) ⟨by omega, by omega⟩
                          refine g_aload_n hk dX12_tellQuery_153 rfl ?_
                          refine g_dup hk dX12_tellQuery_154 rfl ?_
                          refine gM_i11 (v := (I14879 11)) hk hin12 (List.mem_cons_of_mem _ (List.mem_append_left _ (List.mem_of_getElem? (i := 0) rfl))) dX12_tellQuery_155 (hI15261 11 rfl) ?_
                          refine g_iconst (v := 1) hk dX12_tellQuery_158 (by decide) ?_
                          have b15272l := Int32.le_toInt (I14879 11)
                          have b15272h := Int32.toInt_lt (I14879 11)
                          refine g_iadd hk dX12_tellQuery_159 ?_
                          refine g_topi (fun y15273 ey15273 => ?_)
                          refine pM_i11 hk hin12 (List.mem_cons_of_mem _ (List.mem_append_left _ (List.mem_of_getElem? (i := 0) rfl))) dX12_tellQuery_160 ?_
                          refine g_goto (tgt := 84) hk dX12_tellQuery_163 (by decide) ?_
                          have g15274 : (I15261 15).toInt = (I 15).toInt := by rw [show (I15261 15) = (I 15) from ((hI15261 15 rfl).trans ((hI14879 15 rfl).trans ((hI10791 15 rfl).trans (hI10777 15 rfl))))]
                          have g15275 : (I15261 16).toInt = (I 16).toInt := by rw [show (I15261 16) = (I 16) from ((hI15261 16 rfl).trans ((hI14879 16 rfl).trans ((hI10791 16 rfl).trans (hI10777 16 rfl))))]
                          have g15276 := IvM_s10_0 (I := I15261) (A := A15261) hV15261
                          have g15277 := IvM_s10_1 (I := I15261) (A := A15261) hV15261
                          have q15278 := cl_int (y := y10773) (by omega)
                          have g15279 : (A15261 10 0).toInt = (A 10 0).toInt := by rw [show (A15261 10 0) = (A 10 0) from ((congrFun (hA15261 10 rfl) _).trans ((congrFun (hA14879 10 rfl) _).trans ((congrFun (hA10791 10 rfl) _).trans (congrFun (hA10777 10 rfl) _))))]
                          have g15280 : (A15261 10 1).toInt = (A 10 1).toInt := by rw [show (A15261 10 1) = (A 10 1) from ((congrFun (hA15261 10 rfl) _).trans ((congrFun (hA14879 10 rfl) _).trans ((congrFun (hA10791 10 rfl) _).trans (congrFun (hA10777 10 rfl) _))))]
                          have q15281 := cl_int (y := y10773) (by omega)
                          exact g_lv (List.forall_mem_cons.mpr ⟨List.mem_of_getElem? (i := 0) rfl, (List.forall_mem_cons.mpr ⟨List.mem_of_getElem? (i := 1) rfl, (List.forall_mem_cons.mpr ⟨List.mem_of_getElem? (i := 2) rfl, (List.forall_mem_cons.mpr ⟨List.mem_of_getElem? (i := 3) rfl, (fun _ h => absurd h List.not_mem_nil)⟩)⟩)⟩)⟩) (ih15148 (upd I15261 11 y15273) (up3 (up3 A15261 12 (y15259.toNatClampNeg) y15260) 11 (y10773.toNatClampNeg) y15270) L15261 (show Md [4, 6, 7, 8, 9, 11, 12, 13] I10791 (upd I15261 11 y15273) from Md.tr hI14879 (show Md [4, 6, 7, 8, 9, 11, 12, 13] I14879 (upd I15261 11 y15273) from (Md.up (Md.tr Md.rf hI15261 rfl) rfl)) rfl) (show Md [11, 12] (up3 A10791 11 (y10773.toNatClampNeg) 0) (up3 (up3 A15261 12 (y15259.toNatClampNeg) y15260) 11 (y10773.toNatClampNeg) y15270) from Md.tr hA14879 (show Md [11, 12] A14879 (up3 (up3 A15261 12 (y15259.toNatClampNeg) y15260) 11 (y10773.toNatClampNeg) y15270) from (Md.up3 (Md.up3 (Md.tr Md.rf hA15261 rfl) rfl) rfl)) rfl) ⟨(IvM_f1 (I := I15261) (A := A15261) hV15261), (IvM_f2 (I := I15261) (A := A15261) hV15261), (IvM_f3 (I := I15261) (A := A15261) hV15261), (IvM_f4 (I := I15261) (A := A15261) hV15261), (IvM_f6 (I := I15261) (A := A15261) hV15261), (IvM_f8 (I := I15261) (A := A15261) hV15261), (IvM_f15 (I := I15261) (A := A15261) hV15261), (IvM_f16 (I := I15261) (A := A15261) hV15261), (IvM_f17 (I := I15261) (A := A15261) hV15261), (IvM_f18 (I := I15261) (A := A15261) hV15261), (IvM_f22 (I := I15261) (A := A15261) hV15261), (IvM_f23 (I := I15261) (A := A15261) hV15261), (IvM_f24 (I := I15261) (A := A15261) hV15261), hA15271, (IvM_a26 (I := I15261) (A := A15261) hV15261), (IvM_s8_0 (I := I15261) (A := A15261) hV15261), (IvM_s8_1 (I := I15261) (A := A15261) hV15261), (IvM_s10_0 (I := I15261) (A := A15261) hV15261), (IvM_s10_1 (I := I15261) (A := A15261) hV15261), (IvM_s17_0 (I := I15261) (A := A15261) hV15261), (IvM_s17_164 (I := I15261) (A := A15261) hV15261), ⟨fun e => by have e : (I15261 15).toInt = 0 := e; first | exact ghf_upd (n := (A15261 10 0)) ((IvM_lv (I := I15261) (A := A15261) hV15261).1 e) (fun q hq => by omega) | (exfalso; omega), fun e => by have e : (I15261 15).toInt = 1 := e; first | exact ghf_upd (n := (A15261 10 1)) ((IvM_lv (I := I15261) (A := A15261) hV15261).2 e) (fun q hq => by omega) | (exfalso; omega)⟩, (by rcases (IvM_sd (I := I15261) (A := A15261) hV15261) with h9 | h9 | h9; exact Or.inl h9; exact Or.inr (Or.inl h9); exact Or.inr (Or.inr ⟨fun e => by have e : (I15261 16).toInt = 0 := e; first | exact ghf_upd (n := (A15261 10 0)) (h9.1 e) (fun q hq => by omega) | (exfalso; omega), fun e => by have e : (I15261 16).toInt = 1 := e; first | exact ghf_upd (n := (A15261 10 1)) (h9.2 e) (fun q hq => by omega) | (exfalso; omega)⟩)), (IvM_nq (I := I15261) (A := A15261) hV15261), (IvM_hr (I := I15261) (A := A15261) hV15261), (IvM_hh (I := I15261) (A := A15261) hV15261), trivial⟩ (by first | (rw [show ((upd I15261 11 y15273) 4) = (I15261 4) from rfl] <;> omega) | omega) (by first | (rw [show ((upd I15261 11 y15273) 6) = (I15261 6) from rfl] <;> omega) | omega) (by first | (rw [show ((upd I15261 11 y15273) 8) = (I15261 8) from rfl] <;> omega) | omega) (by first | (rw [show ((upd I15261 11 y15273) 4) = (I15261 4) from rfl] <;> omega) | omega) (by omega))
                        · skip
                          exact g_vret hk hR ⟨I15261, (up3 A15261 12 (y15259.toNatClampNeg) y15260), L15261, (show Md [4, 6, 7, 8, 9, 11, 12, 13, 17] I I15261 from (Md.tr (Md.tr (Md.tr (Md.tr (Md.up Md.rf rfl) hI10777 rfl) hI10791 rfl) hI14879 rfl) hI15261 rfl)), (show Md [10, 11, 12] A (up3 A15261 12 (y15259.toNatClampNeg) y15260) from (Md.up3 (Md.tr (Md.tr (Md.up3 (Md.tr (Md.tr Md.rf hA10777 rfl) hA10791 rfl) rfl) hA14879 rfl) hA15261 rfl) rfl)), ⟨(IvM_f1 (I := I15261) (A := A15261) hV15261), (IvM_f2 (I := I15261) (A := A15261) hV15261), (IvM_f3 (I := I15261) (A := A15261) hV15261), (IvM_f4 (I := I15261) (A := A15261) hV15261), (IvM_f6 (I := I15261) (A := A15261) hV15261), (IvM_f8 (I := I15261) (A := A15261) hV15261), (IvM_f15 (I := I15261) (A := A15261) hV15261), (IvM_f16 (I := I15261) (A := A15261) hV15261), (IvM_f17 (I := I15261) (A := A15261) hV15261), (IvM_f18 (I := I15261) (A := A15261) hV15261), (IvM_f22 (I := I15261) (A := A15261) hV15261), (IvM_f23 (I := I15261) (A := A15261) hV15261), (IvM_f24 (I := I15261) (A := A15261) hV15261), (IvM_a11 (I := I15261) (A := A15261) hV15261), (IvM_a26 (I := I15261) (A := A15261) hV15261), (IvM_s8_0 (I := I15261) (A := A15261) hV15261), (IvM_s8_1 (I := I15261) (A := A15261) hV15261), (IvM_s10_0 (I := I15261) (A := A15261) hV15261), (IvM_s10_1 (I := I15261) (A := A15261) hV15261), (IvM_s17_0 (I := I15261) (A := A15261) hV15261), (IvM_s17_164 (I := I15261) (A := A15261) hV15261), (IvM_lv (I := I15261) (A := A15261) hV15261), (IvM_sd (I := I15261) (A := A15261) hV15261), (IvM_nq (I := I15261) (A := A15261) hV15261), (IvM_hr (I := I15261) (A := A15261) hV15261), (IvM_hh (I := I15261) (A := A15261) hV15261), trivial⟩, (by omega), (by omega), (by omega), rfl, rfl⟩ dX12_tellQuery_142
                      · skip
                        exact g_vret hk hR ⟨I14879, A14879, L14879, (show Md [4, 6, 7, 8, 9, 11, 12, 13, 17] I I14879 from (Md.tr (Md.tr (Md.tr (Md.up Md.rf rfl) hI10777 rfl) hI10791 rfl) hI14879 rfl)), (show Md [10, 11, 12] A A14879 from (Md.tr (Md.up3 (Md.tr (Md.tr Md.rf hA10777 rfl) hA10791 rfl) rfl) hA14879 rfl)), hV14879, (by omega), (by omega), (by omega), rfl, rfl⟩ dX12_tellQuery_114
                    · skip
                      refine g_aload_n hk dX12_tellQuery_102 rfl ?_
                      refine g_iconst (v := 2) hk dX12_tellQuery_103 (by decide) ?_
                      have k15282 : (2 : Int32).toInt = 2 := rfl
                      refine g_callV (n := 1) hk (j128_X12_fail l D zt r g I14879 A14879 L14879 2 hV14879 (by decide) (by decide)) (SP.same _) (fun _ h => h) (gi_V (List.mem_cons_of_mem _ (List.mem_append_left _ (List.mem_of_getElem? (i := 26) rfl))) (List.mem_cons_of_mem _ (List.mem_append_left _ (List.mem_of_getElem? (i := 27) rfl))) (List.mem_cons_of_mem _ (List.mem_append_left _ (List.mem_of_getElem? (i := 28) rfl))) (List.mem_cons_of_mem _ (List.mem_append_left _ (List.mem_of_getElem? (i := 7) rfl))) (gi_sub (fun w h => (List.mem_cons_of_mem _ (List.mem_append_right _ (List.mem_append_right _ (List.mem_append_right _ (List.mem_append_right _ (List.mem_append_right _ (List.mem_append_right _ (List.mem_append_right _ (List.mem_append_left _ h)))))))))) zg_j128_X12_fail)) rfl rfl rfl (by decide +kernel) ⟨Nat.le_of_ble_eq_true rfl, Nat.le_of_ble_eq_true rfl⟩ 0 rfl rfl rfl rfl (Nat.le_of_ble_eq_true rfl) ⟨Nat.le_of_ble_eq_true rfl, Nat.le_of_ble_eq_true rfl⟩ dX12_tellQuery_104 (fun v ty' w' hp hk' => ?_)
                      obtain ⟨I15284, A15284, L15284, hI15284, hA15284, hV15284, r15285, r15286, r15287, rfl, rfl⟩ := hp
                      have f15288 := IvM_f6 hV15284
                      rw [show (I15284 8) = (I14879 8) from (hI15284 8 rfl)] at r15286
                      show GW κ 4 0 0 (wM r g I15284 A15284 L15284) 107 [(3, .int x10787), (2, .int (I 4)), (1, .int y10773), (0, .ref (r 0))] []
                      refine g_aload_n hk dX12_tellQuery_107 rfl ?_
                      refine gM_i6 (v := (I15284 6)) hk hin12 (List.mem_cons_of_mem _ (List.mem_append_left _ (List.mem_of_getElem? (i := 16) rfl))) dX12_tellQuery_108 rfl ?_
                      refine g_if_le (tgt := 115) (a := (I15284 6).toInt) hk dX12_tellQuery_111 (by decide) rfl (fun c15289 => ?_) (fun c15289 => ?_)
                      · skip
                        refine g_aload_n hk dX12_tellQuery_115 rfl ?_
                        refine gM_r0_30 hk hin12 (List.mem_cons_of_mem _ (List.mem_append_left _ (List.mem_of_getElem? (i := 22) rfl))) dX12_tellQuery_116 ?_
                        refine g_bipush (v := 16) hk dX12_tellQuery_119 (by decide) ?_
                        refine g_iload_n hk dX12_tellQuery_121 rfl ?_
                        refine g_imul hk dX12_tellQuery_122 ?_
                        refine g_topi (fun y15290 ey15290 => ?_)
                        have hy15290 : y15290.toInt = 16 * y10773.toInt := i32_mul ey15290 rfl rfl (by omega) (by omega)
                        refine g_aload_n hk dX12_tellQuery_123 rfl ?_
                        refine gM_r0_29 hk hin12 (List.mem_cons_of_mem _ (List.mem_append_left _ (List.mem_of_getElem? (i := 9) rfl))) dX12_tellQuery_124 ?_
                        refine g_iload_n hk dX12_tellQuery_127 rfl ?_
                        refine lM_11 (v := (A14879 11 y10773.toNatClampNeg)) hk (vp_in_iff.mpr ⟨by omega, by omega⟩) (congrFun (hA15284 11 rfl) _) dX12_tellQuery_128 ?_
                        refine g_iadd hk dX12_tellQuery_129 ?_
                        refine g_topi (fun y15291 ey15291 => ?_)
                        have hy15291 : y15291.toInt = y15290.toInt + (A14879 11 y10773.toNatClampNeg).toInt := i32_add ey15291 rfl rfl (by omega) (by omega)
                        refine g_aload_n hk dX12_tellQuery_130 rfl ?_
                        refine g_callV (n := 0) hk (j132_X12_readingTold l D zt r g I15284 A15284 L15284  hV15284) (SP.same _) (fun _ h => h) (gi_V (List.mem_cons_of_mem _ (List.mem_append_left _ (List.mem_of_getElem? (i := 23) rfl))) (List.mem_cons_of_mem _ (List.mem_append_left _ (List.mem_of_getElem? (i := 24) rfl))) (List.mem_cons_of_mem _ (List.mem_append_left _ (List.mem_of_getElem? (i := 25) rfl))) (List.mem_cons_of_mem _ (List.mem_append_left _ (List.mem_of_getElem? (i := 7) rfl))) (gi_sub (fun w h => (List.mem_cons_of_mem _ (List.mem_append_right _ (List.mem_append_right _ (List.mem_append_right _ (List.mem_append_right _ (List.mem_append_right _ (List.mem_append_right _ (List.mem_append_left _ h))))))))) zg_j132_X12_readingTold)) rfl rfl rfl (by decide +kernel) ⟨Nat.le_of_ble_eq_true rfl, Nat.le_of_ble_eq_true rfl⟩ 0 rfl rfl rfl rfl (Nat.le_of_ble_eq_true rfl) ⟨Nat.le_of_ble_eq_true rfl, Nat.le_of_ble_eq_true rfl⟩ dX12_tellQuery_131 (fun v ty' w' hp hk' => ?_)
                        obtain ⟨I15293, A15293, L15293, hI15293, hA15293, hV15293, y15292, r15294, r15295, r15296, r15297, rfl, rfl⟩ := hp
                        have f15298 := IvM_f4 hV15293
                        rw [show (I15284 4) = (I14879 4) from (hI15284 4 rfl)] at r15294
                        have f15299 := IvM_f6 hV15293
                        have f15300 := IvM_f8 hV15293
                        rw [show (I15284 8) = (I14879 8) from (hI15284 8 rfl)] at r15296
                        rw [show (I15284 4) = (I14879 4) from (hI15284 4 rfl)] at r15297
                        show GW κ 4 0 0 (wM r g I15293 A15293 L15293) 134 [(3, .int x10787), (2, .int (I 4)), (1, .int y10773), (0, .ref (r 0))] [.int y15292, .int y15291, .ref (r 13)]
                        refine sM_12 (j := y15291.toNatClampNeg) hk (vp_in_iff.mpr ⟨by omega, by omega⟩) rfl dX12_tellQuery_134 ?_
                        refine g_aload_n hk dX12_tellQuery_135 rfl ?_
                        refine gM_i6 (v := (I15293 6)) hk hin12 (List.mem_cons_of_mem _ (List.mem_append_left _ (List.mem_of_getElem? (i := 16) rfl))) dX12_tellQuery_136 rfl ?_
                        refine g_if_le (tgt := 143) (a := (I15293 6).toInt) hk dX12_tellQuery_139 (by decide) rfl (fun c15301 => ?_) (fun c15301 => ?_)
                        · skip
                          refine g_aload_n hk dX12_tellQuery_143 rfl ?_
                          refine gM_r0_29 hk hin12 (List.mem_cons_of_mem _ (List.mem_append_left _ (List.mem_of_getElem? (i := 9) rfl))) dX12_tellQuery_144 ?_
                          refine g_iload_n hk dX12_tellQuery_147 rfl ?_
                          refine g_dup2 hk dX12_tellQuery_148 rfl rfl ?_
                          refine lM_11 (v := (A14879 11 y10773.toNatClampNeg)) hk (vp_in_iff.mpr ⟨by omega, by omega⟩) ((congrFun (hA15293 11 rfl) _).trans (congrFun (hA15284 11 rfl) _)) dX12_tellQuery_149 ?_
                          refine g_iconst (v := 1) hk dX12_tellQuery_150 (by decide) ?_
                          refine g_iadd hk dX12_tellQuery_151 ?_
                          refine g_topi (fun y15302 ey15302 => ?_)
                          have hy15302 : y15302.toInt = (A14879 11 y10773.toNatClampNeg).toInt + 1 := i32_add ey15302 rfl rfl (by omega) (by omega)
                          refine sM_11 (j := y10773.toNatClampNeg) hk (vp_in_iff.mpr ⟨by omega, by omega⟩) rfl dX12_tellQuery_152 ?_
                          have hA15303 : ∀ j, 0 ≤ ((up3 (up3 A15293 12 (y15291.toNatClampNeg) y15292) 11 (y10773.toNatClampNeg) y15302) 11 j).toInt ∧ ((up3 (up3 A15293 12 (y15291.toNatClampNeg) y15292) 11 (y10773.toNatClampNeg) y15302) 11 j).toInt ≤ 16 := ai_st ((IvM_a11 hV15293)) ⟨by omega, by omega⟩
                          refine g_aload_n hk dX12_tellQuery_153 rfl ?_
                          refine g_dup hk dX12_tellQuery_154 rfl ?_
                          refine gM_i11 (v := (I14879 11)) hk hin12 (List.mem_cons_of_mem _ (List.mem_append_left _ (List.mem_of_getElem? (i := 0) rfl))) dX12_tellQuery_155 ((hI15293 11 rfl).trans (hI15284 11 rfl)) ?_
                          refine g_iconst (v := 1) hk dX12_tellQuery_158 (by decide) ?_
                          have b15304l := Int32.le_toInt (I14879 11)
                          have b15304h := Int32.toInt_lt (I14879 11)
                          refine g_iadd hk dX12_tellQuery_159 ?_
                          refine g_topi (fun y15305 ey15305 => ?_)
                          refine pM_i11 hk hin12 (List.mem_cons_of_mem _ (List.mem_append_left _ (List.mem_of_getElem? (i := 0) rfl))) dX12_tellQuery_160 ?_
                          refine g_goto (tgt := 84) hk dX12_tellQuery_163 (by decide) ?_
                          have g15306 : (I15293 15).toInt = (I 15).toInt := by rw [show (I15293 15) = (I 15) from ((hI15293 15 rfl).trans ((hI15284 15 rfl).trans ((hI14879 15 rfl).trans ((hI10791 15 rfl).trans (hI10777 15 rfl)))))]
                          have g15307 : (I15293 16).toInt = (I 16).toInt := by rw [show (I15293 16) = (I 16) from ((hI15293 16 rfl).trans ((hI15284 16 rfl).trans ((hI14879 16 rfl).trans ((hI10791 16 rfl).trans (hI10777 16 rfl)))))]
                          have g15308 := IvM_s10_0 (I := I15293) (A := A15293) hV15293
                          have g15309 := IvM_s10_1 (I := I15293) (A := A15293) hV15293
                          have q15310 := cl_int (y := y10773) (by omega)
                          have g15311 : (A15293 10 0).toInt = (A 10 0).toInt := by rw [show (A15293 10 0) = (A 10 0) from ((congrFun (hA15293 10 rfl) _).trans ((congrFun (hA15284 10 rfl) _).trans ((congrFun (hA14879 10 rfl) _).trans ((congrFun (hA10791 10 rfl) _).trans (congrFun (hA10777 10 rfl) _)))))]
                          have g15312 : (A15293 10 1).toInt = (A 10 1).toInt := by rw [show (A15293 10 1) = (A 10 1) from ((congrFun (hA15293 10 rfl) _).trans ((congrFun (hA15284 10 rfl) _).trans ((congrFun (hA14879 10 rfl) _).trans ((congrFun (hA10791 10 rfl) _).trans (congrFun (hA10777 10 rfl) _)))))]
                          have q15313 := cl_int (y := y10773) (by omega)
                          exact g_lv (List.forall_mem_cons.mpr ⟨List.mem_of_getElem? (i := 0) rfl, (List.forall_mem_cons.mpr ⟨List.mem_of_getElem? (i := 1) rfl, (List.forall_mem_cons.mpr ⟨List.mem_of_getElem? (i := 2) rfl, (List.forall_mem_cons.mpr ⟨List.mem_of_getElem? (i := 3) rfl, (fun _ h => absurd h List.not_mem_nil)⟩)⟩)⟩)⟩) (ih15148 (upd I15293 11 y15305) (up3 (up3 A15293 12 (y15291.toNatClampNeg) y15292) 11 (y10773.toNatClampNeg) y15302) L15293 (show Md [4, 6, 7, 8, 9, 11, 12, 13] I10791 (upd I15293 11 y15305) from Md.tr hI14879 (show Md [4, 6, 7, 8, 9, 11, 12, 13] I14879 (upd I15293 11 y15305) from (Md.up (Md.tr (Md.tr Md.rf hI15284 rfl) hI15293 rfl) rfl)) rfl) (show Md [11, 12] (up3 A10791 11 (y10773.toNatClampNeg) 0) (up3 (up3 A15293 12 (y15291.toNatClampNeg) y15292) 11 (y10773.toNatClampNeg) y15302) from Md.tr hA14879 (show Md [11, 12] A14879 (up3 (up3 A15293 12 (y15291.toNatClampNeg) y15292) 11 (y10773.toNatClampNeg) y15302) from (Md.up3 (Md.up3 (Md.tr (Md.tr Md.rf hA15284 rfl) hA15293 rfl) rfl) rfl)) rfl) ⟨(IvM_f1 (I := I15293) (A := A15293) hV15293), (IvM_f2 (I := I15293) (A := A15293) hV15293), (IvM_f3 (I := I15293) (A := A15293) hV15293), (IvM_f4 (I := I15293) (A := A15293) hV15293), (IvM_f6 (I := I15293) (A := A15293) hV15293), (IvM_f8 (I := I15293) (A := A15293) hV15293), (IvM_f15 (I := I15293) (A := A15293) hV15293), (IvM_f16 (I := I15293) (A := A15293) hV15293), (IvM_f17 (I := I15293) (A := A15293) hV15293), (IvM_f18 (I := I15293) (A := A15293) hV15293), (IvM_f22 (I := I15293) (A := A15293) hV15293), (IvM_f23 (I := I15293) (A := A15293) hV15293), (IvM_f24 (I := I15293) (A := A15293) hV15293), hA15303, (IvM_a26 (I := I15293) (A := A15293) hV15293), (IvM_s8_0 (I := I15293) (A := A15293) hV15293), (IvM_s8_1 (I := I15293) (A := A15293) hV15293), (IvM_s10_0 (I := I15293) (A := A15293) hV15293), (IvM_s10_1 (I := I15293) (A := A15293) hV15293), (IvM_s17_0 (I := I15293) (A := A15293) hV15293), (IvM_s17_164 (I := I15293) (A := A15293) hV15293), ⟨fun e => by have e : (I15293 15).toInt = 0 := e; first | exact ghf_upd (n := (A15293 10 0)) ((IvM_lv (I := I15293) (A := A15293) hV15293).1 e) (fun q hq => by omega) | (exfalso; omega), fun e => by have e : (I15293 15).toInt = 1 := e; first | exact ghf_upd (n := (A15293 10 1)) ((IvM_lv (I := I15293) (A := A15293) hV15293).2 e) (fun q hq => by omega) | (exfalso; omega)⟩, (by rcases (IvM_sd (I := I15293) (A := A15293) hV15293) with h9 | h9 | h9; exact Or.inl h9; exact Or.inr (Or.inl h9); exact Or.inr (Or.inr ⟨fun e => by have e : (I15293 16).toInt = 0 := e; first | exact ghf_upd (n := (A15293 10 0)) (h9.1 e) (fun q hq => by omega) | (exfalso; omega), fun e => by have e : (I15293 16).toInt = 1 := e; first | exact ghf_upd (n := (A15293 10 1)) (h9.2 e) (fun q hq => by omega) | (exfalso; omega)⟩)), (IvM_nq (I := I15293) (A := A15293) hV15293), (IvM_hr (I := I15293) (A := A15293) hV15293), (IvM_hh (I := I15293) (A := A15293) hV15293), trivial⟩ (by first | (rw [show ((upd I15293 11 y15305) 4) = (I15293 4) from rfl] <;> omega) | omega) (by first | (rw [show ((upd I15293 11 y15305) 6) = (I15293 6) from rfl] <;> omega) | omega) (by first | (rw [show ((upd I15293 11 y15305) 8) = (I15293 8) from rfl] <;> omega) | omega) (by first | (rw [show ((upd I15293 11 y15305) 4) = (I15293 4) from rfl] <;> omega) | omega) (by omega))
                        · skip
                          exact g_vret hk hR ⟨I15293, (up3 A15293 12 (y15291.toNatClampNeg) y15292), L15293, (show Md [4, 6, 7, 8, 9, 11, 12, 13, 17] I I15293 from (Md.tr (Md.tr (Md.tr (Md.tr (Md.tr (Md.up Md.rf rfl) hI10777 rfl) hI10791 rfl) hI14879 rfl) hI15284 rfl) hI15293 rfl)), (show Md [10, 11, 12] A (up3 A15293 12 (y15291.toNatClampNeg) y15292) from (Md.up3 (Md.tr (Md.tr (Md.tr (Md.up3 (Md.tr (Md.tr Md.rf hA10777 rfl) hA10791 rfl) rfl) hA14879 rfl) hA15284 rfl) hA15293 rfl) rfl)), ⟨(IvM_f1 (I := I15293) (A := A15293) hV15293), (IvM_f2 (I := I15293) (A := A15293) hV15293), (IvM_f3 (I := I15293) (A := A15293) hV15293), (IvM_f4 (I := I15293) (A := A15293) hV15293), (IvM_f6 (I := I15293) (A := A15293) hV15293), (IvM_f8 (I := I15293) (A := A15293) hV15293), (IvM_f15 (I := I15293) (A := A15293) hV15293), (IvM_f16 (I := I15293) (A := A15293) hV15293), (IvM_f17 (I := I15293) (A := A15293) hV15293), (IvM_f18 (I := I15293) (A := A15293) hV15293), (IvM_f22 (I := I15293) (A := A15293) hV15293), (IvM_f23 (I := I15293) (A := A15293) hV15293), (IvM_f24 (I := I15293) (A := A15293) hV15293), (IvM_a11 (I := I15293) (A := A15293) hV15293), (IvM_a26 (I := I15293) (A := A15293) hV15293), (IvM_s8_0 (I := I15293) (A := A15293) hV15293), (IvM_s8_1 (I := I15293) (A := A15293) hV15293), (IvM_s10_0 (I := I15293) (A := A15293) hV15293), (IvM_s10_1 (I := I15293) (A := A15293) hV15293), (IvM_s17_0 (I := I15293) (A := A15293) hV15293), (IvM_s17_164 (I := I15293) (A := A15293) hV15293), (IvM_lv (I := I15293) (A := A15293) hV15293), (IvM_sd (I := I15293) (A := A15293) hV15293), (IvM_nq (I := I15293) (A := A15293) hV15293), (IvM_hr (I := I15293) (A := A15293) hV15293), (IvM_hh (I := I15293) (A := A15293) hV15293), trivial⟩, (by omega), (by omega), (by omega), rfl, rfl⟩ dX12_tellQuery_142
                      · skip
                        exact g_vret hk hR ⟨I15284, A15284, L15284, (show Md [4, 6, 7, 8, 9, 11, 12, 13, 17] I I15284 from (Md.tr (Md.tr (Md.tr (Md.tr (Md.up Md.rf rfl) hI10777 rfl) hI10791 rfl) hI14879 rfl) hI15284 rfl)), (show Md [10, 11, 12] A A15284 from (Md.tr (Md.tr (Md.up3 (Md.tr (Md.tr Md.rf hA10777 rfl) hA10791 rfl) rfl) hA14879 rfl) hA15284 rfl)), hV15284, (by rw [show (I15284 4) = (I14879 4) from (hI15284 4 rfl)] <;> omega), (by omega), (by rw [show (I15284 8) = (I14879 8) from (hI15284 8 rfl)] <;> omega), rfl, rfl⟩ dX12_tellQuery_114
              obtain ⟨n15314, n15314a, n15314b⟩ : ∃ n : Nat, 401 - (I10777 4).toInt < (n : Int) ∧ 0 < n := ⟨((401 - (I10777 4).toInt : Int)).toNat + 1, by omega, by omega⟩
              have g15315 : (I10791 15).toInt = (I 15).toInt := by rw [show (I10791 15) = (I 15) from ((hI10791 15 rfl).trans (hI10777 15 rfl))]
              have g15316 : (I10791 16).toInt = (I 16).toInt := by rw [show (I10791 16) = (I 16) from ((hI10791 16 rfl).trans (hI10777 16 rfl))]
              have g15317 := IvM_s10_0 (I := I10791) (A := A10791) hV10791
              have g15318 := IvM_s10_1 (I := I10791) (A := A10791) hV10791
              have q15319 := cl_int (y := y10773) (by omega)
              have g15320 : (A10791 10 0).toInt = (A 10 0).toInt := by rw [show (A10791 10 0) = (A 10 0) from ((congrFun (hA10791 10 rfl) _).trans (congrFun (hA10777 10 rfl) _))]
              have g15321 : (A10791 10 1).toInt = (A 10 1).toInt := by rw [show (A10791 10 1) = (A 10 1) from ((congrFun (hA10791 10 rfl) _).trans (congrFun (hA10777 10 rfl) _))]
              have g15322 : (I10791 6).toInt = (I10777 6).toInt := by rw [show (I10791 6) = (I10777 6) from (hI10791 6 rfl)]
              have q15323 := cl_int (y := y10773) (by omega)
              exact lp15145 n15314 I10791 (up3 A10791 11 (y10773.toNatClampNeg) 0) L10791 Md.rf Md.rf ⟨(IvM_f1 (I := I10791) (A := A10791) hV10791), (IvM_f2 (I := I10791) (A := A10791) hV10791), (IvM_f3 (I := I10791) (A := A10791) hV10791), (IvM_f4 (I := I10791) (A := A10791) hV10791), (IvM_f6 (I := I10791) (A := A10791) hV10791), (IvM_f8 (I := I10791) (A := A10791) hV10791), (IvM_f15 (I := I10791) (A := A10791) hV10791), (IvM_f16 (I := I10791) (A := A10791) hV10791), (IvM_f17 (I := I10791) (A := A10791) hV10791), (IvM_f18 (I := I10791) (A := A10791) hV10791), (IvM_f22 (I := I10791) (A := A10791) hV10791), (IvM_f23 (I := I10791) (A := A10791) hV10791), (IvM_f24 (I := I10791) (A := A10791) hV10791), hA14874, (IvM_a26 (I := I10791) (A := A10791) hV10791), (IvM_s8_0 (I := I10791) (A := A10791) hV10791), (IvM_s8_1 (I := I10791) (A := A10791) hV10791), (IvM_s10_0 (I := I10791) (A := A10791) hV10791), (IvM_s10_1 (I := I10791) (A := A10791) hV10791), (IvM_s17_0 (I := I10791) (A := A10791) hV10791), (IvM_s17_164 (I := I10791) (A := A10791) hV10791), ⟨fun e => by have e : (I10791 15).toInt = 0 := e; first | exact ghf_upd (n := (A10791 10 0)) ((IvM_lv (I := I10791) (A := A10791) hV10791).1 e) (fun q hq => by omega) | (exfalso; omega), fun e => by have e : (I10791 15).toInt = 1 := e; first | exact ghf_upd (n := (A10791 10 1)) ((IvM_lv (I := I10791) (A := A10791) hV10791).2 e) (fun q hq => by omega) | (exfalso; omega)⟩, (by rcases (IvM_sd (I := I10791) (A := A10791) hV10791) with h9 | h9 | h9; exact Or.inl h9; exact Or.inr (Or.inl h9); exact Or.inr (Or.inr ⟨fun e => by have e : (I10791 16).toInt = 0 := e; first | exact ghf_upd (n := (A10791 10 0)) (h9.1 e) (fun q hq => by omega) | (exfalso; omega), fun e => by have e : (I10791 16).toInt = 1 := e; first | exact ghf_upd (n := (A10791 10 1)) (h9.2 e) (fun q hq => by omega) | (exfalso; omega)⟩)), (IvM_nq (I := I10791) (A := A10791) hV10791), (IvM_hr (I := I10791) (A := A10791) hV10791), (IvM_hh (I := I10791) (A := A10791) hV10791), trivial⟩ (by first | (rw [show (I10791 4) = (I10777 4) from (hI10791 4 rfl)] <;> omega) | omega) (by first | (rw [show (I10791 6) = (I10777 6) from (hI10791 6 rfl)] <;> omega) | omega) (by omega) (by first | exact n15314a | (rw [show (I10791 4) = (I10777 4) from (hI10791 4 rfl)] <;> exact n15314a)) n15314b
            · skip
              refine g_aload_n hk dX12_tellQuery_49 rfl ?_
              refine gM_r0_25 hk hin12 (List.mem_cons_of_mem _ (List.mem_append_left _ (List.mem_of_getElem? (i := 17) rfl))) dX12_tellQuery_50 ?_
              refine g_iload_n hk dX12_tellQuery_53 rfl ?_
              refine lM_7 hk (vp_in_iff.mpr ⟨by omega, by omega⟩) rfl dX12_tellQuery_54 ?_
              refine g_topl (fun y15324 ey15324 => ?_)
              refine g_aload_n hk dX12_tellQuery_55 rfl ?_
              refine gM_r0_8 hk hin12 (List.mem_cons_of_mem _ (List.mem_append_left _ (List.mem_of_getElem? (i := 18) rfl))) dX12_tellQuery_56 ?_
              refine g_iload_n hk dX12_tellQuery_59 rfl ?_
              refine lM_5 hk (vp_in_iff.mpr ⟨by omega, by omega⟩) rfl dX12_tellQuery_60 ?_
              refine g_topl (fun y15325 ey15325 => ?_)
              refine g_lcmp hk dX12_tellQuery_61 ?_
              refine g_topi (fun y15326 ey15326 => ?_)
              have b15327l := Int32.le_toInt y15326
              have b15327h := Int32.toInt_lt y15326
              refine g_if_ne (tgt := 71) (a := y15326.toInt) hk dX12_tellQuery_62 (by decide) rfl (fun c15328 => ?_) (fun c15328 => ?_)
              · skip
                obtain ⟨y15329, ey15329⟩ : ∃ y : Int32, y = x10787 + Int32.ofInt 1 := ⟨_, rfl⟩
                have hy15329 : y15329.toInt = x10787.toInt + 1 := i32_add ey15329 rfl (by decide) (by omega) (by omega)
                refine g_iinc (v := y15329) (lv' := [(3, .int y15329), (2, .int (I 4)), (1, .int y10773), (0, .ref (r 0))]) hk 0 dX12_tellQuery_71 rfl ey15329.symm (by decide) rfl ?_
                refine g_goto (tgt := 34) hk dX12_tellQuery_74 (by decide) ?_
                exact g_lv (List.forall_mem_cons.mpr ⟨List.mem_of_getElem? (i := 0) rfl, (List.forall_mem_cons.mpr ⟨List.mem_of_getElem? (i := 1) rfl, (List.forall_mem_cons.mpr ⟨List.mem_of_getElem? (i := 2) rfl, (List.forall_mem_cons.mpr ⟨List.mem_of_getElem? (i := 3) rfl, (fun _ h => absurd h List.not_mem_nil)⟩)⟩)⟩)⟩) (ih14398 y15329 I10791 A10791 L10791 (show Md [8, 9, 13] I10777 I10791 from Md.tr hI10791 (show Md [8, 9, 13] I10791 I10791 from Md.rf) rfl) (show Md [] A10777 A10791 from Md.tr hA10791 (show Md [] A10791 A10791 from Md.rf) rfl) hV10791 (by omega) (by omega) (by first | (rw [show (I10791 4) = (I10777 4) from (hI10791 4 rfl)] <;> omega) | omega) (by first | (rw [show (I10791 6) = (I10777 6) from (hI10791 6 rfl)] <;> omega) | omega) (by omega) (by omega) (by omega))
              · skip
                refine g_aload_n hk dX12_tellQuery_65 rfl ?_
                refine g_iconst (v := 3) hk dX12_tellQuery_66 (by decide) ?_
                refine g_iload_n hk dX12_tellQuery_67 rfl ?_
                have k15330 : (3 : Int32).toInt = 3 := rfl
                refine g_callV (n := 2) hk (j134_X12_wrong l D zt r g I10791 A10791 L10791 3 (I 4) hV10791 (by decide) (by decide) (by omega) (by omega)) (SP.same _) (fun _ h => h) (gi_V (List.mem_cons_of_mem _ (List.mem_append_left _ (List.mem_of_getElem? (i := 19) rfl))) (List.mem_cons_of_mem _ (List.mem_append_left _ (List.mem_of_getElem? (i := 20) rfl))) (List.mem_cons_of_mem _ (List.mem_append_left _ (List.mem_of_getElem? (i := 21) rfl))) (List.mem_cons_of_mem _ (List.mem_append_left _ (List.mem_of_getElem? (i := 7) rfl))) (gi_sub (fun w h => (List.mem_cons_of_mem _ (List.mem_append_right _ (List.mem_append_right _ (List.mem_append_right _ (List.mem_append_right _ (List.mem_append_right _ (List.mem_append_left _ h)))))))) zg_j134_X12_wrong)) rfl rfl rfl (by decide +kernel) ⟨Nat.le_of_ble_eq_true rfl, Nat.le_of_ble_eq_true rfl⟩ 0 rfl rfl rfl rfl (Nat.le_of_ble_eq_true rfl) ⟨Nat.le_of_ble_eq_true rfl, Nat.le_of_ble_eq_true rfl⟩ dX12_tellQuery_68 (fun v ty' w' hp hk' => ?_)
                obtain ⟨I15332, A15332, L15332, hI15332, hA15332, hV15332, r15333, r15334, r15335, rfl, rfl⟩ := hp
                rw [show (I10791 6) = (I10777 6) from (hI10791 6 rfl), show (I15332 6) = (I10777 6) from ((hI15332 6 rfl).trans (hI10791 6 rfl))] at r15333
                have f15336 := IvM_f8 hV15332
                rw [show (I15332 6) = (I10777 6) from ((hI15332 6 rfl).trans (hI10791 6 rfl))] at r15335
                show GW κ 4 0 0 (wM r g I15332 A15332 L15332) 71 [(3, .int x10787), (2, .int (I 4)), (1, .int y10773), (0, .ref (r 0))] []
                obtain ⟨y15337, ey15337⟩ : ∃ y : Int32, y = x10787 + Int32.ofInt 1 := ⟨_, rfl⟩
                have hy15337 : y15337.toInt = x10787.toInt + 1 := i32_add ey15337 rfl (by decide) (by omega) (by omega)
                refine g_iinc (v := y15337) (lv' := [(3, .int y15337), (2, .int (I 4)), (1, .int y10773), (0, .ref (r 0))]) hk 0 dX12_tellQuery_71 rfl ey15337.symm (by decide) rfl ?_
                refine g_goto (tgt := 34) hk dX12_tellQuery_74 (by decide) ?_
                exact g_lv (List.forall_mem_cons.mpr ⟨List.mem_of_getElem? (i := 0) rfl, (List.forall_mem_cons.mpr ⟨List.mem_of_getElem? (i := 1) rfl, (List.forall_mem_cons.mpr ⟨List.mem_of_getElem? (i := 2) rfl, (List.forall_mem_cons.mpr ⟨List.mem_of_getElem? (i := 3) rfl, (fun _ h => absurd h List.not_mem_nil)⟩)⟩)⟩)⟩) (ih14398 y15337 I15332 A15332 L15332 (show Md [8, 9, 13] I10777 I15332 from Md.tr hI10791 (show Md [8, 9, 13] I10791 I15332 from (Md.tr Md.rf hI15332 rfl)) rfl) (show Md [] A10777 A15332 from Md.tr hA10791 (show Md [] A10791 A15332 from (Md.tr Md.rf hA15332 rfl)) rfl) hV15332 (by omega) (by omega) (by first | (rw [show (I15332 4) = (I10777 4) from ((hI15332 4 rfl).trans (hI10791 4 rfl))] <;> omega) | omega) (by first | (rw [show (I15332 6) = (I10777 6) from ((hI15332 6 rfl).trans (hI10791 6 rfl))] <;> omega) | omega) (by omega) (by omega) (by omega))
      have k15338 : (0 : Int32).toInt = 0 := rfl
      obtain ⟨n15339, n15339a, n15339b⟩ : ∃ n : Nat, 6 - (0 : Int32).toInt < (n : Int) ∧ 0 < n := ⟨((6 - (0 : Int32).toInt : Int)).toNat + 1, by omega, by omega⟩
      exact lp14395 n15339 0 I10777 A10777 L10777 Md.rf Md.rf hV10777 (by omega) (by omega) (by omega) (by omega) (by first | (rw [show (I10777 8) = (I 8) from (hI10777 8 rfl)] <;> omega) | omega) n15339a n15339b
    exfalso; omega
  exfalso; omega
