def wo_j135_X12_tellQuery : List Cond := [Cond.fieldLink RX12 170 "WarpDeskModel" "here" "I", Cond.fieldLink RX12 200 "WarpDeskModel" "side" "I", Cond.fieldLink RX12 49 "WarpDeskModel" "queries" "[I", Cond.fieldLink RX12 164 "WarpDeskModel" "t" "I", Cond.methodLink RX12 216 yX12_must, Cond.instanceMethod yX12_must, Cond.selects RX12 yX12_must yX12_must, Cond.initialized RX12, Cond.fieldLink RX12 203 "WarpDeskModel" "names" "I", Cond.fieldLink RX12 52 "WarpDeskModel" "queryMany" "[I", Cond.methodLink RX12 235 yX12_isReading, Cond.instanceMethod yX12_isReading, Cond.selects RX12 yX12_isReading yX12_isReading, Cond.methodLink RX12 188 yX12_is, Cond.instanceMethod yX12_is, Cond.selects RX12 yX12_is yX12_is, Cond.fieldLink RX12 161 "WarpDeskModel" "fault" "I", Cond.fieldLink RX12 40 "WarpDeskModel" "nameOf" "[J", Cond.fieldLink RX12 30 "WarpDeskModel" "tName" "[J", Cond.methodLink RX12 231 yX12_wrong, Cond.instanceMethod yX12_wrong, Cond.selects RX12 yX12_wrong yX12_wrong, Cond.fieldLink RX12 55 "WarpDeskModel" "queryAt" "[I", Cond.methodLink RX12 240 yX12_readingTold, Cond.instanceMethod yX12_readingTold, Cond.selects RX12 yX12_readingTold yX12_readingTold, Cond.methodLink RX12 185 yX12_fail, Cond.instanceMethod yX12_fail, Cond.selects RX12 yX12_fail yX12_fail]
def wz_j135_X12_tellQuery : List Cond := .code yX12_tellQuery cX12_tellQuery 4 none :: (wo_j135_X12_tellQuery ++ (wsX120 ++ (wz_j131_X12_must ++ (wz_j130_X12_isReading ++ (wz_j125_X12_is ++ (wz_j134_X12_wrong ++ (wz_j132_X12_readingTold ++ (wz_j128_X12_fail ++ ([] : List Cond)))))))))
theorem zg_j135_X12_tellQuery : ∀ w ∈ wz_j135_X12_tellQuery, goodWord w = true := zg_cons rfl (zg_app (by decide +kernel) (zg_app zgU_wsX120 (zg_app zg_j131_X12_must (zg_app zg_j130_X12_isReading (zg_app zg_j125_X12_is (zg_app zg_j134_X12_wrong (zg_app zg_j132_X12_readingTold (zg_app zg_j128_X12_fail zg_nil))))))))
theorem zi_j135_X12_tellQuery : ∀ w ∈ wz_j135_X12_tellQuery, w ∈ lw_tbl := zi_cons zw_1627 (zi_app (zi_cons zw_1396 (zi_cons zw_1401 (zi_cons zw_1406 (zi_cons zw_1390 (zi_cons zw_1620 (zi_cons zw_1622 (zi_cons zw_61 (zi_cons zw_115 (zi_cons zw_1402 (zi_cons zw_1407 (zi_cons zw_1603 (zi_cons zw_1605 (zi_cons zw_57 (zi_cons zw_1583 (zi_cons zw_1585 (zi_cons zw_52 (zi_cons zw_1391 (zi_cons zw_1403 (zi_cons zw_1387 (zi_cons zw_1616 (zi_cons zw_1618 (zi_cons zw_60 (zi_cons zw_1408 (zi_cons zw_1608 (zi_cons zw_1610 (zi_cons zw_58 (zi_cons zw_1595 (zi_cons zw_1597 (zi_cons zw_55 zi_nil))))))))))))))))))))))))))))) (zi_app inX12 (zi_app zi_j131_X12_must (zi_app zi_j130_X12_isReading (zi_app zi_j125_X12_is (zi_app zi_j134_X12_wrong (zi_app zi_j132_X12_readingTold (zi_app zi_j128_X12_fail zi_nil))))))))
set_option maxHeartbeats 4000000 in
set_option maxRecDepth 100000 in
theorem j135_X12_tellQuery (l : Launch) (D : va_G) (zt : Nat × Nat × Nat × (Nat → Nat) × (Nat → Nat)) (r : Nat → Nat) (g : Nat → ClassId) (I : Nat → Int32) (A : Nat → Nat → Int32) (L : Nat → Nat → Int64) (hIv : IvM I A) (hp0 : (I 15).toInt + (I 16).toInt = 1) (hp1 : (I 16).toInt ≠ 0 ∨ (A 10 0).toInt ≤ 4) (hp2 : (I 16).toInt ≠ 1 ∨ (A 10 1).toInt ≤ 4) : GM l D zt (tyM g) yX12_tellQuery wz_j135_X12_tellQuery ({ frames := 4, cells := 0, slots := 0, locals := 86 } : Room) [.ref (r 0)] (wM r g I A L) (fun v _ w' => ∃ (I' : Nat → Int32) (A' : Nat → Nat → Int32) (L' : Nat → Nat → Int64), Md [4, 6, 7, 8, 9, 11, 12, 13, 17] I I' ∧ Md [10, 11, 12] A A' ∧ IvM I' A' ∧ ((I 4).toInt ≤ (I' 4).toInt) ∧ ((I 6).toInt ≤ (I' 6).toInt) ∧ ((I 8).toInt ≤ 9 * (I' 8).toInt) ∧ v = none ∧ w' = wM r g I' A' L') 0 0 := by
  refine GM.of (cc := cX12_tellQuery) (maxL := 4) (ret := none) (own := RX12) (lv := [(0, .ref (r 0))]) (by decide) rfl rfl (Nat.le_of_ble_eq_true rfl) rfl (fun κ sz hk hR hN => ?_)
  have hin12 : ∀ w ∈ u_ws RX12 TX12 55, w ∈ wz_j135_X12_tellQuery := fun w h => (List.mem_cons_of_mem _ (List.mem_append_right _ (List.mem_append_left _ h)))
  refine g_aload_n hk dX12_tellQuery_0 rfl ?_
  refine g_iconst (v := 0) hk dX12_tellQuery_1 (by decide) ?_
  refine pM_i11 hk hin12 (List.mem_cons_of_mem _ (List.mem_append_left _ (List.mem_of_getElem? (i := 0) rfl))) dX12_tellQuery_2 ?_
  refine g_iconst (v := 5) hk dX12_tellQuery_5 (by decide) ?_
  refine g_aload_n hk dX12_tellQuery_6 rfl ?_
  refine gM_i16 (v := (I 16)) hk hin12 (List.mem_cons_of_mem _ (List.mem_append_left _ (List.mem_of_getElem? (i := 1) rfl))) dX12_tellQuery_7 rfl ?_
  have f6244 := IvM_f16 hIv
  by_cases c6245 : (I 16).toInt = 0
  · have ec6245 : (I 16) = 0 := Int32.toInt_inj.mp c6245
    rw [ec6245]
    show GW κ 4 0 0 (wM r g (upd I 11 0) A L) 10 [(0, .ref (r 0))] [.int 0, .int 5]
    refine g_imul hk dX12_tellQuery_10 ?_
    refine g_norm (v := 0) (by decide) ?_
    refine g_aload_n hk dX12_tellQuery_11 rfl ?_
    refine gM_r0_28 hk hin12 (List.mem_cons_of_mem _ (List.mem_append_left _ (List.mem_of_getElem? (i := 2) rfl))) dX12_tellQuery_12 ?_
    refine g_aload_n hk dX12_tellQuery_15 rfl ?_
    refine gM_i16 (v := (I 16)) hk hin12 (List.mem_cons_of_mem _ (List.mem_append_left _ (List.mem_of_getElem? (i := 1) rfl))) dX12_tellQuery_16 rfl ?_
    by_cases c6246 : (I 16).toInt = 0
    · have ec6246 : (I 16) = 0 := Int32.toInt_inj.mp c6246
      rw [ec6246]
      show GW κ 4 0 0 (wM r g (upd I 11 0) A L) 19 [(0, .ref (r 0))] [.int 0, .ref (r 11), .int 0]
      refine lM_10 (v := (A 10 0)) hk (vp_in_iff.mpr ⟨by decide, by decide⟩) rfl dX12_tellQuery_19 ?_
      have f6247 := IvM_s10_0 hIv
      refine g_iadd hk dX12_tellQuery_20 ?_
      refine g_topi (fun y6248 ey6248 => ?_)
      have hy6248 : y6248.toInt = 0 + (A 10 0).toInt := i32_add ey6248 rfl rfl (by omega) (by omega)
      refine g_istore_n (lv' := [(1, .int y6248), (0, .ref (r 0))]) hk dX12_tellQuery_21 (by decide) rfl ?_
      refine g_aload_n hk dX12_tellQuery_22 rfl ?_
      refine gM_i4 (v := (I 4)) hk hin12 (List.mem_cons_of_mem _ (List.mem_append_left _ (List.mem_of_getElem? (i := 3) rfl))) dX12_tellQuery_23 rfl ?_
      have f6249 := IvM_f4 hIv
      refine g_istore_n (lv' := [(2, .int (I 4)), (1, .int y6248), (0, .ref (r 0))]) hk dX12_tellQuery_26 (by decide) rfl ?_
      refine g_aload_n hk dX12_tellQuery_27 rfl ?_
      refine g_iconst (v := 1) hk dX12_tellQuery_28 (by decide) ?_
      have k6250 : (1 : Int32).toInt = 1 := rfl
      refine g_callV (n := 1) hk (j131_X12_must l D zt r g (upd I 11 0) A L 1 ⟨(IvM_f1 (I := I) (A := A) hIv), (IvM_f2 (I := I) (A := A) hIv), (IvM_f3 (I := I) (A := A) hIv), (IvM_f4 (I := I) (A := A) hIv), (IvM_f6 (I := I) (A := A) hIv), (IvM_f8 (I := I) (A := A) hIv), (IvM_f15 (I := I) (A := A) hIv), (IvM_f16 (I := I) (A := A) hIv), (IvM_f17 (I := I) (A := A) hIv), (IvM_f18 (I := I) (A := A) hIv), (IvM_f22 (I := I) (A := A) hIv), (IvM_f23 (I := I) (A := A) hIv), (IvM_f24 (I := I) (A := A) hIv), (IvM_a11 (I := I) (A := A) hIv), (IvM_a26 (I := I) (A := A) hIv), (IvM_s8_0 (I := I) (A := A) hIv), (IvM_s8_1 (I := I) (A := A) hIv), (IvM_s10_0 (I := I) (A := A) hIv), (IvM_s10_1 (I := I) (A := A) hIv), (IvM_s17_0 (I := I) (A := A) hIv), (IvM_s17_164 (I := I) (A := A) hIv), (IvM_lv (I := I) (A := A) hIv), (IvM_sd (I := I) (A := A) hIv), (IvM_nq (I := I) (A := A) hIv), (IvM_hr (I := I) (A := A) hIv), (IvM_hh (I := I) (A := A) hIv), trivial⟩) (SP.same _) (fun _ h => h) (gi_V (List.mem_cons_of_mem _ (List.mem_append_left _ (List.mem_of_getElem? (i := 4) rfl))) (List.mem_cons_of_mem _ (List.mem_append_left _ (List.mem_of_getElem? (i := 5) rfl))) (List.mem_cons_of_mem _ (List.mem_append_left _ (List.mem_of_getElem? (i := 6) rfl))) (List.mem_cons_of_mem _ (List.mem_append_left _ (List.mem_of_getElem? (i := 7) rfl))) (gi_sub (fun w h => (List.mem_cons_of_mem _ (List.mem_append_right _ (List.mem_append_right _ (List.mem_append_left _ h))))) zg_j131_X12_must)) rfl rfl rfl (by decide +kernel) ⟨Nat.le_of_ble_eq_true rfl, Nat.le_of_ble_eq_true rfl⟩ 0 rfl rfl rfl rfl (Nat.le_of_ble_eq_true rfl) ⟨Nat.le_of_ble_eq_true rfl, Nat.le_of_ble_eq_true rfl⟩ dX12_tellQuery_29 (fun v ty' w' hp hk' => ?_)
      obtain ⟨I6252, A6252, L6252, hI6252, hA6252, hV6252, r6253, r6254, r6255, r6256, r6257, rfl, rfl⟩ := hp
      have f6258 := IvM_f4 hV6252
      rw [show ((upd I 11 0) 4) = (I 4) from rfl] at r6253
      have f6259 := IvM_f6 hIv
      have f6260 := IvM_f6 hV6252
      rw [show ((upd I 11 0) 6) = (I 6) from rfl] at r6254
      have f6261 := IvM_f8 hIv
      rw [show ((upd I 11 0) 8) = (I 8) from rfl, show (I6252 8) = (I 8) from (hI6252 8 rfl)] at r6255
      rw [show ((upd I 11 0) 4) = (I 4) from rfl] at r6256
      rw [show ((upd I 11 0) 6) = (I 6) from rfl, show (A 2 ((upd I 11 0) 4).toNatClampNeg) = (A 2 (I 4).toNatClampNeg) from rfl] at r6257
      show GW κ 4 0 0 (wM r g I6252 A6252 L6252) 32 [(2, .int (I 4)), (1, .int y6248), (0, .ref (r 0))] []
      refine g_iconst (v := 0) hk dX12_tellQuery_32 (by decide) ?_
      refine g_istore_n (lv' := [(3, .int 0), (2, .int (I 4)), (1, .int y6248), (0, .ref (r 0))]) hk dX12_tellQuery_33 (by decide) rfl ?_
      have f9862 := IvM_f4 hIv
      have f9863 := IvM_f6 hIv
      have f9864 := IvM_f8 hIv
      have lp9870 : ∀ (n9871 : Nat) (x6262 : Int32) (I6266 : Nat → Int32) (A6266 : Nat → Nat → Int32) (L6266 : Nat → Nat → Int64), (Md [8, 9, 13] I6252 I6266) → (Md [] A6252 A6266) → (IvM I6266 A6266) → (0 ≤ x6262.toInt) → (x6262.toInt ≤ 5) → ((I 4).toInt ≤ (I6252 4).toInt) → ((I 6).toInt ≤ (I6252 6).toInt) → ((I 8).toInt ≤ 9 * (I6266 8).toInt) → (6 - x6262.toInt < (n9871 : Int)) → (0 < n9871) → GW κ 4 0 0 (wM r g I6266 A6266 L6266) 34 [(3, .int x6262), (2, .int (I 4)), (1, .int y6248), (0, .ref (r 0))] [] := by
        intro n9871
        induction n9871 with
        | zero =>
          intro x6262 I6266 A6266 L6266 hI6266 hA6266 hV6266 h9865 h9866 h9867 h9868 h9869 m9872 m9872z
          exact absurd m9872z (Nat.lt_irrefl 0)
        | succ n9871 ih9873 =>
          intro x6262 I6266 A6266 L6266 hI6266 hA6266 hV6266 h9865 h9866 h9867 h9868 h9869 m9872 m9872z
          have f9874 := IvM_f8 hV6266
          refine g_iload_n hk dX12_tellQuery_34 rfl ?_
          refine g_aload_n hk dX12_tellQuery_35 rfl ?_
          refine gM_i17 (v := (I 17)) hk hin12 (List.mem_cons_of_mem _ (List.mem_append_left _ (List.mem_of_getElem? (i := 8) rfl))) dX12_tellQuery_36 ((hI6266 17 rfl).trans (hI6252 17 rfl)) ?_
          have f9875 := IvM_f17 hIv
          refine g_icmp_ge (tgt := 77) (a := x6262.toInt) (b := (I 17).toInt) hk dX12_tellQuery_39 (by decide) rfl rfl (fun c9876 => ?_) (fun c9876 => ?_)
          · skip
            refine g_aload_n hk dX12_tellQuery_77 rfl ?_
            refine gM_r0_29 hk hin12 (List.mem_cons_of_mem _ (List.mem_append_left _ (List.mem_of_getElem? (i := 9) rfl))) dX12_tellQuery_78 ?_
            refine g_iload_n hk dX12_tellQuery_81 rfl ?_
            refine g_iconst (v := 0) hk dX12_tellQuery_82 (by decide) ?_
            have k9877 : (0 : Int32).toInt = 0 := rfl
            refine sM_11 (j := y6248.toNatClampNeg) hk (vp_in_iff.mpr ⟨by omega, by omega⟩) rfl dX12_tellQuery_83 ?_
            have hA9878 : ∀ j, 0 ≤ ((up3 A6266 11 (y6248.toNatClampNeg) 0) 11 j).toInt ∧ ((up3 A6266 11 (y6248.toNatClampNeg) 0) 11 j).toInt ≤ 16 := ai_st ((IvM_a11 hV6266)) ⟨by omega, by omega⟩
            have f10162 := IvM_f4 hIv
            have f10163 := IvM_f6 hIv
            have f10164 := IvM_f8 hIv
            have lp10168 : ∀ (n10169 : Nat) (I9883 : Nat → Int32) (A9883 : Nat → Nat → Int32) (L9883 : Nat → Nat → Int64), (Md [4, 6, 7, 8, 9, 11, 12, 13] I6266 I9883) → (Md [11, 12] (up3 A6266 11 (y6248.toNatClampNeg) 0) A9883) → (IvM I9883 A9883) → ((I 4).toInt ≤ (I9883 4).toInt) → ((I 6).toInt ≤ (I9883 6).toInt) → ((I 8).toInt ≤ 9 * (I9883 8).toInt) → (401 - (I9883 4).toInt < (n10169 : Int)) → (0 < n10169) → GW κ 4 0 0 (wM r g I9883 A9883 L9883) 84 [(3, .int x6262), (2, .int (I 4)), (1, .int y6248), (0, .ref (r 0))] [] := by
              intro n10169
              induction n10169 with
              | zero =>
                intro I9883 A9883 L9883 hI9883 hA9883 hV9883 h10165 h10166 h10167 m10170 m10170z
                exact absurd m10170z (Nat.lt_irrefl 0)
              | succ n10169 ih10171 =>
                intro I9883 A9883 L9883 hI9883 hA9883 hV9883 h10165 h10166 h10167 m10170 m10170z
                have f10172 := IvM_f4 hV9883
                have f10173 := IvM_f6 hV9883
                have f10174 := IvM_f8 hV9883
                refine g_aload_n hk dX12_tellQuery_84 rfl ?_
                refine g_callV (n := 0) hk (j130_X12_isReading l D zt r g I9883 A9883 L9883  hV9883) (SP.same _) (fun _ h => h) (gi_V (List.mem_cons_of_mem _ (List.mem_append_left _ (List.mem_of_getElem? (i := 10) rfl))) (List.mem_cons_of_mem _ (List.mem_append_left _ (List.mem_of_getElem? (i := 11) rfl))) (List.mem_cons_of_mem _ (List.mem_append_left _ (List.mem_of_getElem? (i := 12) rfl))) (List.mem_cons_of_mem _ (List.mem_append_left _ (List.mem_of_getElem? (i := 7) rfl))) (gi_sub (fun w h => (List.mem_cons_of_mem _ (List.mem_append_right _ (List.mem_append_right _ (List.mem_append_right _ (List.mem_append_left _ h)))))) zg_j130_X12_isReading)) rfl rfl rfl (by decide +kernel) ⟨Nat.le_of_ble_eq_true rfl, Nat.le_of_ble_eq_true rfl⟩ 0 rfl rfl rfl rfl (Nat.le_of_ble_eq_true rfl) ⟨Nat.le_of_ble_eq_true rfl, Nat.le_of_ble_eq_true rfl⟩ dX12_tellQuery_85 (fun v ty' w' hp hk' => ?_)
                rcases hp with ⟨rfl, rfl⟩ | ⟨rfl, rfl⟩
                · skip
                  show GW κ 4 0 0 (wM r g I9883 A9883 L9883) 88 [(3, .int x6262), (2, .int (I 4)), (1, .int y6248), (0, .ref (r 0))] [.int 0]
                  refine g_if_eq (tgt := 166) (a := 0) hk dX12_tellQuery_88 (by decide) rfl (fun _ => ?_) (fun z9 => absurd (show (0 : Int) = (0 : Int) from by decide) z9)
                  refine g_aload_n hk dX12_tellQuery_166 rfl ?_
                  refine g_iconst (v := 4) hk dX12_tellQuery_167 (by decide) ?_
                  have k10177 : (4 : Int32).toInt = 4 := rfl
                  refine g_callV (n := 1) hk (j125_X12_is l D zt r g I9883 A9883 L9883 4 hV9883) (SP.same _) (fun _ h => h) (gi_V (List.mem_cons_of_mem _ (List.mem_append_left _ (List.mem_of_getElem? (i := 13) rfl))) (List.mem_cons_of_mem _ (List.mem_append_left _ (List.mem_of_getElem? (i := 14) rfl))) (List.mem_cons_of_mem _ (List.mem_append_left _ (List.mem_of_getElem? (i := 15) rfl))) (List.mem_cons_of_mem _ (List.mem_append_left _ (List.mem_of_getElem? (i := 7) rfl))) (gi_sub (fun w h => (List.mem_cons_of_mem _ (List.mem_append_right _ (List.mem_append_right _ (List.mem_append_right _ (List.mem_append_right _ (List.mem_append_left _ h))))))) zg_j125_X12_is)) rfl rfl rfl (by decide +kernel) ⟨Nat.le_of_ble_eq_true rfl, Nat.le_of_ble_eq_true rfl⟩ 0 rfl rfl rfl rfl (Nat.le_of_ble_eq_true rfl) ⟨Nat.le_of_ble_eq_true rfl, Nat.le_of_ble_eq_true rfl⟩ dX12_tellQuery_168 (fun v ty' w' hp hk' => ?_)
                  rcases hp with ⟨c10178, rfl, rfl⟩ | ⟨c10180, rfl, rfl⟩
                  · skip
                    rw [show (A9883 2 (I9883 4).toNatClampNeg) = (A 2 (I9883 4).toNatClampNeg) from ((congrFun (hA9883 2 rfl) _).trans ((congrFun (hA6266 2 rfl) _).trans (congrFun (hA6252 2 rfl) _)))] at c10178
                    show GW κ 4 0 0 (wM r g I9883 A9883 L9883) 171 [(3, .int x6262), (2, .int (I 4)), (1, .int y6248), (0, .ref (r 0))] [.int 0]
                    refine g_if_eq (tgt := 194) (a := 0) hk dX12_tellQuery_171 (by decide) rfl (fun _ => ?_) (fun z9 => absurd (show (0 : Int) = (0 : Int) from by decide) z9)
                    refine g_aload_n hk dX12_tellQuery_194 rfl ?_
                    refine g_iconst (v := 4) hk dX12_tellQuery_195 (by decide) ?_
                    refine g_callV (n := 1) hk (j131_X12_must l D zt r g I9883 A9883 L9883 4 hV9883) (SP.same _) (fun _ h => h) (gi_V (List.mem_cons_of_mem _ (List.mem_append_left _ (List.mem_of_getElem? (i := 4) rfl))) (List.mem_cons_of_mem _ (List.mem_append_left _ (List.mem_of_getElem? (i := 5) rfl))) (List.mem_cons_of_mem _ (List.mem_append_left _ (List.mem_of_getElem? (i := 6) rfl))) (List.mem_cons_of_mem _ (List.mem_append_left _ (List.mem_of_getElem? (i := 7) rfl))) (gi_sub (fun w h => (List.mem_cons_of_mem _ (List.mem_append_right _ (List.mem_append_right _ (List.mem_append_left _ h))))) zg_j131_X12_must)) rfl rfl rfl (by decide +kernel) ⟨Nat.le_of_ble_eq_true rfl, Nat.le_of_ble_eq_true rfl⟩ 0 rfl rfl rfl rfl (Nat.le_of_ble_eq_true rfl) ⟨Nat.le_of_ble_eq_true rfl, Nat.le_of_ble_eq_true rfl⟩ dX12_tellQuery_196 (fun v ty' w' hp hk' => ?_)
                    obtain ⟨I10183, A10183, L10183, hI10183, hA10183, hV10183, r10184, r10185, r10186, r10187, r10188, rfl, rfl⟩ := hp
                    have f10189 := IvM_f4 hV10183
                    have f10190 := IvM_f6 hV10183
                    rw [show (I10183 8) = (I9883 8) from (hI10183 8 rfl)] at r10186
                    rw [show (A9883 2 (I9883 4).toNatClampNeg) = (A 2 (I9883 4).toNatClampNeg) from ((congrFun (hA9883 2 rfl) _).trans ((congrFun (hA6266 2 rfl) _).trans (congrFun (hA6252 2 rfl) _)))] at r10188
                    show GW κ 4 0 0 (wM r g I10183 A10183 L10183) 199 [(3, .int x6262), (2, .int (I 4)), (1, .int y6248), (0, .ref (r 0))] []
                    refine g_aload_n hk dX12_tellQuery_199 rfl ?_
                    refine gM_i6 (v := (I10183 6)) hk hin12 (List.mem_cons_of_mem _ (List.mem_append_left _ (List.mem_of_getElem? (i := 16) rfl))) dX12_tellQuery_200 rfl ?_
                    refine g_if_le (tgt := 207) (a := (I10183 6).toInt) hk dX12_tellQuery_203 (by decide) rfl (fun c10191 => ?_) (fun c10191 => ?_)
                    · skip
                      refine g_aload_n hk dX12_tellQuery_207 rfl ?_
                      refine g_bipush (v := (-2)) hk dX12_tellQuery_208 (by decide) ?_
                      refine pM_i11 hk hin12 (List.mem_cons_of_mem _ (List.mem_append_left _ (List.mem_of_getElem? (i := 0) rfl))) dX12_tellQuery_210 ?_
                      refine g_aload_n hk dX12_tellQuery_213 rfl ?_
                      refine gM_r0_25 hk hin12 (List.mem_cons_of_mem _ (List.mem_append_left _ (List.mem_of_getElem? (i := 17) rfl))) dX12_tellQuery_214 ?_
                      refine g_aload_n hk dX12_tellQuery_217 rfl ?_
                      refine gM_i17 (v := (I 17)) hk hin12 (List.mem_cons_of_mem _ (List.mem_append_left _ (List.mem_of_getElem? (i := 8) rfl))) dX12_tellQuery_218 ((hI10183 17 rfl).trans ((hI9883 17 rfl).trans ((hI6266 17 rfl).trans (hI6252 17 rfl)))) ?_
                      have g10192 : (I10183 16).toInt = (I 16).toInt := by rw [show (I10183 16) = (I 16) from ((hI10183 16 rfl).trans ((hI9883 16 rfl).trans ((hI6266 16 rfl).trans (hI6252 16 rfl))))]
                      have g10193 : (I10183 17).toInt = (I 17).toInt := by rw [show (I10183 17) = (I 17) from ((hI10183 17 rfl).trans ((hI9883 17 rfl).trans ((hI6266 17 rfl).trans (hI6252 17 rfl))))]
                      have g10194 : (A10183 10 0).toInt = (A 10 0).toInt := by rw [show (A10183 10 0) = (A 10 0) from ((congrFun (hA10183 10 rfl) _).trans ((congrFun (hA9883 10 rfl) _).trans ((congrFun (hA6266 10 rfl) _).trans (congrFun (hA6252 10 rfl) _))))]
                      have g10195 : (A10183 10 1).toInt = (A 10 1).toInt := by rw [show (A10183 10 1) = (A 10 1) from ((congrFun (hA10183 10 rfl) _).trans ((congrFun (hA9883 10 rfl) _).trans ((congrFun (hA6266 10 rfl) _).trans (congrFun (hA6252 10 rfl) _))))]
                      have g10196 := (IvM_nq (I := I10183) (A := A10183) hV10183).1 (by omega)
                      refine g_aload_n hk dX12_tellQuery_221 rfl ?_
                      refine gM_r0_8 hk hin12 (List.mem_cons_of_mem _ (List.mem_append_left _ (List.mem_of_getElem? (i := 18) rfl))) dX12_tellQuery_222 ?_
                      refine g_iload_n hk dX12_tellQuery_225 rfl ?_
                      refine lM_5 hk (vp_in_iff.mpr ⟨by omega, by omega⟩) rfl dX12_tellQuery_226 ?_
                      refine g_topl (fun y10197 ey10197 => ?_)
                      refine sM_7 (j := (I 17).toNatClampNeg) hk (vp_in_iff.mpr ⟨by omega, by omega⟩) rfl dX12_tellQuery_227 ?_
                      refine g_aload_n hk dX12_tellQuery_228 rfl ?_
                      refine g_dup hk dX12_tellQuery_229 rfl ?_
                      refine gM_i17 (v := (I 17)) hk hin12 (List.mem_cons_of_mem _ (List.mem_append_left _ (List.mem_of_getElem? (i := 8) rfl))) dX12_tellQuery_230 ((hI10183 17 rfl).trans ((hI9883 17 rfl).trans ((hI6266 17 rfl).trans (hI6252 17 rfl)))) ?_
                      refine g_iconst (v := 1) hk dX12_tellQuery_233 (by decide) ?_
                      refine g_iadd hk dX12_tellQuery_234 ?_
                      refine g_topi (fun y10198 ey10198 => ?_)
                      have hy10198 : y10198.toInt = (I 17).toInt + 1 := i32_add ey10198 rfl rfl (by omega) (by omega)
                      refine pM_i17 hk hin12 (List.mem_cons_of_mem _ (List.mem_append_left _ (List.mem_of_getElem? (i := 8) rfl))) dX12_tellQuery_235 ?_
                      refine g_aload_n hk dX12_tellQuery_238 rfl ?_
                      refine gM_r0_28 hk hin12 (List.mem_cons_of_mem _ (List.mem_append_left _ (List.mem_of_getElem? (i := 2) rfl))) dX12_tellQuery_239 ?_
                      refine g_aload_n hk dX12_tellQuery_242 rfl ?_
                      refine gM_i16 (v := (I 16)) hk hin12 (List.mem_cons_of_mem _ (List.mem_append_left _ (List.mem_of_getElem? (i := 1) rfl))) dX12_tellQuery_243 ((hI10183 16 rfl).trans ((hI9883 16 rfl).trans ((hI6266 16 rfl).trans (hI6252 16 rfl)))) ?_
                      by_cases c10199 : (I 16).toInt = 0
                      · have ec10199 : (I 16) = 0 := Int32.toInt_inj.mp c10199
                        rw [ec10199]
                        show GW κ 4 0 0 (wM r g (upd (upd I10183 11 (-2)) 17 y10198) A10183 (up3L L10183 7 ((I 17).toNatClampNeg) y10197)) 246 [(3, .int x6262), (2, .int (I 4)), (1, .int y6248), (0, .ref (r 0))] [.int 0, .ref (r 11)]
                        refine g_dup2 hk dX12_tellQuery_246 rfl rfl ?_
                        refine lM_10 (v := (A 10 0)) hk (vp_in_iff.mpr ⟨by decide, by decide⟩) ((congrFun (hA10183 10 rfl) _).trans ((congrFun (hA9883 10 rfl) _).trans ((congrFun (hA6266 10 rfl) _).trans (congrFun (hA6252 10 rfl) _)))) dX12_tellQuery_247 ?_
                        refine g_iconst (v := 1) hk dX12_tellQuery_248 (by decide) ?_
                        refine g_iadd hk dX12_tellQuery_249 ?_
                        refine g_topi (fun y10200 ey10200 => ?_)
                        have hy10200 : y10200.toInt = (A 10 0).toInt + 1 := i32_add ey10200 rfl rfl (by omega) (by omega)
                        refine sM_10 (j := 0) hk (vp_in_iff.mpr ⟨by decide, by decide⟩) (by decide) dX12_tellQuery_250 ?_
                        have f10201 := IvM_s10_0 hV10183
                        have f10202 := IvM_s10_1 hV10183
                        have g10203 : (I10183 15).toInt = (I 15).toInt := by rw [show (I10183 15) = (I 15) from ((hI10183 15 rfl).trans ((hI9883 15 rfl).trans ((hI6266 15 rfl).trans (hI6252 15 rfl))))]
                        have g10204 := IvM_s10_0 (I := I10183) (A := A10183) hV10183
                        have g10205 := IvM_s10_1 (I := I10183) (A := A10183) hV10183
                        have g10206 : (I10183 8).toInt = (I9883 8).toInt := by rw [show (I10183 8) = (I9883 8) from (hI10183 8 rfl)]
                        have q10207 := cl_int (y := y6248) (by omega)
                        have g10208 : (A10183 11 y6248.toNatClampNeg).toInt = (A9883 11 y6248.toNatClampNeg).toInt := by rw [show (A10183 11 y6248.toNatClampNeg) = (A9883 11 y6248.toNatClampNeg) from (congrFun (hA10183 11 rfl) _)]
                        have u10209 : (I9883 6).toInt ≠ 0 ∨ (A 2 (I9883 4).toNatClampNeg).toInt ≠ (4 : Int32).toInt := c10178
                        have u10210 : 0 < (I10183 6).toInt ∨ ((I9883 6).toInt = 0 ∧ (A 2 (I9883 4).toNatClampNeg).toInt = (4 : Int32).toInt) := r10188
                        exact g_vret hk hR ⟨(upd (upd I10183 11 (-2)) 17 y10198), (up3 A10183 10 0 y10200), (up3L L10183 7 ((I 17).toNatClampNeg) y10197), (show Md [4, 6, 7, 8, 9, 11, 12, 13, 17] I (upd (upd I10183 11 (-2)) 17 y10198) from (Md.up (Md.up (Md.tr (Md.tr (Md.tr (Md.tr (Md.up Md.rf rfl) hI6252 rfl) hI6266 rfl) hI9883 rfl) hI10183 rfl) rfl) rfl)), (show Md [10, 11, 12] A (up3 A10183 10 0 y10200) from (Md.up3 (Md.tr (Md.tr (Md.up3 (Md.tr (Md.tr Md.rf hA6252 rfl) hA6266 rfl) rfl) hA9883 rfl) hA10183 rfl) rfl)), ⟨(IvM_f1 (I := I10183) (A := A10183) hV10183), (IvM_f2 (I := I10183) (A := A10183) hV10183), (IvM_f3 (I := I10183) (A := A10183) hV10183), (IvM_f4 (I := I10183) (A := A10183) hV10183), (IvM_f6 (I := I10183) (A := A10183) hV10183), (IvM_f8 (I := I10183) (A := A10183) hV10183), (IvM_f15 (I := I10183) (A := A10183) hV10183), (IvM_f16 (I := I10183) (A := A10183) hV10183), (show 0 ≤ y10198.toInt ∧ y10198.toInt ≤ 5 from ⟨by omega, by omega⟩), (IvM_f18 (I := I10183) (A := A10183) hV10183), (IvM_f22 (I := I10183) (A := A10183) hV10183), (IvM_f23 (I := I10183) (A := A10183) hV10183), (IvM_f24 (I := I10183) (A := A10183) hV10183), (IvM_a11 (I := I10183) (A := A10183) hV10183), (IvM_a26 (I := I10183) (A := A10183) hV10183), (IvM_s8_0 (I := I10183) (A := A10183) hV10183), (IvM_s8_1 (I := I10183) (A := A10183) hV10183), (show 0 ≤ ((up3 A10183 10 0 y10200) 10 0).toInt ∧ ((up3 A10183 10 0 y10200) 10 0).toInt ≤ 5 from by rw [show (up3 A10183 10 0 y10200) 10 0 = y10200 from rfl]; exact ⟨by omega, by omega⟩), (show 0 ≤ ((up3 A10183 10 0 y10200) 10 1).toInt ∧ ((up3 A10183 10 0 y10200) 10 1).toInt ≤ 5 from by rw [show (up3 A10183 10 0 y10200) 10 1 = (A10183 10 1) from rfl]; exact ⟨by omega, by omega⟩), (IvM_s17_0 (I := I10183) (A := A10183) hV10183), (IvM_s17_164 (I := I10183) (A := A10183) hV10183), ⟨fun e => by have e : (I10183 15).toInt = 0 := e; first | exact (IvM_lv (I := I10183) (A := A10183) hV10183).1 e | (exfalso; omega), fun e => by have e : (I10183 15).toInt = 1 := e; first | exact (IvM_lv (I := I10183) (A := A10183) hV10183).2 e | (exfalso; omega)⟩, (by first | (exfalso; omega) | (by_cases g8 : (I10183 8).toInt ≠ 0; exact Or.inr (Or.inl g8); rcases (IvM_sd (I := I10183) (A := A10183) hV10183) with h9 | h9 | h9; exact absurd h9 (by omega); exact absurd h9 g8; exact Or.inr (Or.inr ⟨fun e => by have e : (I10183 16).toInt = 0 := e; first | exact ghf_add (n := (A10183 10 0)) (f := (A10183 11)) (n2 := y10200) (p := y6248.toNatClampNeg) (h9.1 e) (by omega) (by omega) (by omega) | (exfalso; omega), fun e => by have e : (I10183 16).toInt = 1 := e; first | exact ghf_add (n := (A10183 10 1)) (f := (A10183 11)) (n2 := y10200) (p := y6248.toNatClampNeg) (h9.2 e) (by omega) (by omega) (by omega) | (exfalso; omega)⟩))), ⟨fun e => by have e : (I10183 16).toInt = 0 := e; first | (exfalso; omega) | (show y10198.toInt = y10200.toInt; omega), fun e => by have e : (I10183 16).toInt = 1 := e; first | (exfalso; omega) | (show y10198.toInt = (A10183 10 1).toInt; omega)⟩, (IvM_hr (I := I10183) (A := A10183) hV10183), (IvM_hh (I := I10183) (A := A10183) hV10183), trivial⟩, (by rw [show ((upd (upd I10183 11 (-2)) 17 y10198) 4) = (I10183 4) from rfl] <;> omega), (by rw [show ((upd (upd I10183 11 (-2)) 17 y10198) 6) = (I10183 6) from rfl] <;> omega), (by rw [show ((upd (upd I10183 11 (-2)) 17 y10198) 8) = (I9883 8) from (hI10183 8 rfl)] <;> omega), rfl, rfl⟩ dX12_tellQuery_251
                      exfalso; omega
                    · skip
                      exact g_vret hk hR ⟨I10183, A10183, L10183, (show Md [4, 6, 7, 8, 9, 11, 12, 13, 17] I I10183 from (Md.tr (Md.tr (Md.tr (Md.tr (Md.up Md.rf rfl) hI6252 rfl) hI6266 rfl) hI9883 rfl) hI10183 rfl)), (show Md [10, 11, 12] A A10183 from (Md.tr (Md.tr (Md.up3 (Md.tr (Md.tr Md.rf hA6252 rfl) hA6266 rfl) rfl) hA9883 rfl) hA10183 rfl)), hV10183, (by omega), (by omega), (by rw [show (I10183 8) = (I9883 8) from (hI10183 8 rfl)] <;> omega), rfl, rfl⟩ dX12_tellQuery_206
                  · skip
                    rw [show (A9883 2 (I9883 4).toNatClampNeg) = (A 2 (I9883 4).toNatClampNeg) from ((congrFun (hA9883 2 rfl) _).trans ((congrFun (hA6266 2 rfl) _).trans (congrFun (hA6252 2 rfl) _)))] at c10180
                    show GW κ 4 0 0 (wM r g I9883 A9883 L9883) 171 [(3, .int x6262), (2, .int (I 4)), (1, .int y6248), (0, .ref (r 0))] [.int 1]
                    refine g_if_eq (tgt := 194) (a := 1) hk dX12_tellQuery_171 (by decide) rfl (fun z9 => absurd z9 (show ¬ ((1 : Int) = (0 : Int)) from by decide)) (fun _ => ?_)
                    refine g_aload_n hk dX12_tellQuery_174 rfl ?_
                    refine gM_r0_29 hk hin12 (List.mem_cons_of_mem _ (List.mem_append_left _ (List.mem_of_getElem? (i := 9) rfl))) dX12_tellQuery_175 ?_
                    refine g_iload_n hk dX12_tellQuery_178 rfl ?_
                    refine lM_11 (v := (A9883 11 y6248.toNatClampNeg)) hk (vp_in_iff.mpr ⟨by omega, by omega⟩) rfl dX12_tellQuery_179 ?_
                    have f10211 := IvM_a11 hV9883 (y6248.toNatClampNeg)
                    refine g_iconst (v := 2) hk dX12_tellQuery_180 (by decide) ?_
                    refine g_icmp_ge (tgt := 194) (a := (A9883 11 y6248.toNatClampNeg).toInt) (b := 2) hk dX12_tellQuery_181 (by decide) rfl rfl (fun c10212 => ?_) (fun c10212 => ?_)
                    · skip
                      refine g_aload_n hk dX12_tellQuery_194 rfl ?_
                      refine g_iconst (v := 4) hk dX12_tellQuery_195 (by decide) ?_
                      refine g_callV (n := 1) hk (j131_X12_must l D zt r g I9883 A9883 L9883 4 hV9883) (SP.same _) (fun _ h => h) (gi_V (List.mem_cons_of_mem _ (List.mem_append_left _ (List.mem_of_getElem? (i := 4) rfl))) (List.mem_cons_of_mem _ (List.mem_append_left _ (List.mem_of_getElem? (i := 5) rfl))) (List.mem_cons_of_mem _ (List.mem_append_left _ (List.mem_of_getElem? (i := 6) rfl))) (List.mem_cons_of_mem _ (List.mem_append_left _ (List.mem_of_getElem? (i := 7) rfl))) (gi_sub (fun w h => (List.mem_cons_of_mem _ (List.mem_append_right _ (List.mem_append_right _ (List.mem_append_left _ h))))) zg_j131_X12_must)) rfl rfl rfl (by decide +kernel) ⟨Nat.le_of_ble_eq_true rfl, Nat.le_of_ble_eq_true rfl⟩ 0 rfl rfl rfl rfl (Nat.le_of_ble_eq_true rfl) ⟨Nat.le_of_ble_eq_true rfl, Nat.le_of_ble_eq_true rfl⟩ dX12_tellQuery_196 (fun v ty' w' hp hk' => ?_)
                      obtain ⟨I10214, A10214, L10214, hI10214, hA10214, hV10214, r10215, r10216, r10217, r10218, r10219, rfl, rfl⟩ := hp
                      have f10220 := IvM_f4 hV10214
                      have f10221 := IvM_f6 hV10214
                      rw [show (I10214 8) = (I9883 8) from (hI10214 8 rfl)] at r10217
                      rw [show (A9883 2 (I9883 4).toNatClampNeg) = (A 2 (I9883 4).toNatClampNeg) from ((congrFun (hA9883 2 rfl) _).trans ((congrFun (hA6266 2 rfl) _).trans (congrFun (hA6252 2 rfl) _)))] at r10219
                      show GW κ 4 0 0 (wM r g I10214 A10214 L10214) 199 [(3, .int x6262), (2, .int (I 4)), (1, .int y6248), (0, .ref (r 0))] []
                      refine g_aload_n hk dX12_tellQuery_199 rfl ?_
                      refine gM_i6 (v := (I10214 6)) hk hin12 (List.mem_cons_of_mem _ (List.mem_append_left _ (List.mem_of_getElem? (i := 16) rfl))) dX12_tellQuery_200 rfl ?_
                      refine g_if_le (tgt := 207) (a := (I10214 6).toInt) hk dX12_tellQuery_203 (by decide) rfl (fun c10222 => ?_) (fun c10222 => ?_)
                      · skip
                        refine g_aload_n hk dX12_tellQuery_207 rfl ?_
                        refine g_bipush (v := (-2)) hk dX12_tellQuery_208 (by decide) ?_
                        refine pM_i11 hk hin12 (List.mem_cons_of_mem _ (List.mem_append_left _ (List.mem_of_getElem? (i := 0) rfl))) dX12_tellQuery_210 ?_
                        refine g_aload_n hk dX12_tellQuery_213 rfl ?_
                        refine gM_r0_25 hk hin12 (List.mem_cons_of_mem _ (List.mem_append_left _ (List.mem_of_getElem? (i := 17) rfl))) dX12_tellQuery_214 ?_
                        refine g_aload_n hk dX12_tellQuery_217 rfl ?_
                        refine gM_i17 (v := (I 17)) hk hin12 (List.mem_cons_of_mem _ (List.mem_append_left _ (List.mem_of_getElem? (i := 8) rfl))) dX12_tellQuery_218 ((hI10214 17 rfl).trans ((hI9883 17 rfl).trans ((hI6266 17 rfl).trans (hI6252 17 rfl)))) ?_
                        have g10223 : (I10214 16).toInt = (I 16).toInt := by rw [show (I10214 16) = (I 16) from ((hI10214 16 rfl).trans ((hI9883 16 rfl).trans ((hI6266 16 rfl).trans (hI6252 16 rfl))))]
                        have g10224 : (I10214 17).toInt = (I 17).toInt := by rw [show (I10214 17) = (I 17) from ((hI10214 17 rfl).trans ((hI9883 17 rfl).trans ((hI6266 17 rfl).trans (hI6252 17 rfl))))]
                        have g10225 : (A10214 10 0).toInt = (A 10 0).toInt := by rw [show (A10214 10 0) = (A 10 0) from ((congrFun (hA10214 10 rfl) _).trans ((congrFun (hA9883 10 rfl) _).trans ((congrFun (hA6266 10 rfl) _).trans (congrFun (hA6252 10 rfl) _))))]
                        have g10226 : (A10214 10 1).toInt = (A 10 1).toInt := by rw [show (A10214 10 1) = (A 10 1) from ((congrFun (hA10214 10 rfl) _).trans ((congrFun (hA9883 10 rfl) _).trans ((congrFun (hA6266 10 rfl) _).trans (congrFun (hA6252 10 rfl) _))))]
                        have g10227 := (IvM_nq (I := I10214) (A := A10214) hV10214).1 (by omega)
                        refine g_aload_n hk dX12_tellQuery_221 rfl ?_
                        refine gM_r0_8 hk hin12 (List.mem_cons_of_mem _ (List.mem_append_left _ (List.mem_of_getElem? (i := 18) rfl))) dX12_tellQuery_222 ?_
                        refine g_iload_n hk dX12_tellQuery_225 rfl ?_
                        refine lM_5 hk (vp_in_iff.mpr ⟨by omega, by omega⟩) rfl dX12_tellQuery_226 ?_
                        refine g_topl (fun y10228 ey10228 => ?_)
                        refine sM_7 (j := (I 17).toNatClampNeg) hk (vp_in_iff.mpr ⟨by omega, by omega⟩) rfl dX12_tellQuery_227 ?_
                        refine g_aload_n hk dX12_tellQuery_228 rfl ?_
                        refine g_dup hk dX12_tellQuery_229 rfl ?_
                        refine gM_i17 (v := (I 17)) hk hin12 (List.mem_cons_of_mem _ (List.mem_append_left _ (List.mem_of_getElem? (i := 8) rfl))) dX12_tellQuery_230 ((hI10214 17 rfl).trans ((hI9883 17 rfl).trans ((hI6266 17 rfl).trans (hI6252 17 rfl)))) ?_
                        refine g_iconst (v := 1) hk dX12_tellQuery_233 (by decide) ?_
                        refine g_iadd hk dX12_tellQuery_234 ?_
                        refine g_topi (fun y10229 ey10229 => ?_)
                        have hy10229 : y10229.toInt = (I 17).toInt + 1 := i32_add ey10229 rfl rfl (by omega) (by omega)
                        refine pM_i17 hk hin12 (List.mem_cons_of_mem _ (List.mem_append_left _ (List.mem_of_getElem? (i := 8) rfl))) dX12_tellQuery_235 ?_
                        refine g_aload_n hk dX12_tellQuery_238 rfl ?_
                        refine gM_r0_28 hk hin12 (List.mem_cons_of_mem _ (List.mem_append_left _ (List.mem_of_getElem? (i := 2) rfl))) dX12_tellQuery_239 ?_
                        refine g_aload_n hk dX12_tellQuery_242 rfl ?_
                        refine gM_i16 (v := (I 16)) hk hin12 (List.mem_cons_of_mem _ (List.mem_append_left _ (List.mem_of_getElem? (i := 1) rfl))) dX12_tellQuery_243 ((hI10214 16 rfl).trans ((hI9883 16 rfl).trans ((hI6266 16 rfl).trans (hI6252 16 rfl)))) ?_
                        by_cases c10230 : (I 16).toInt = 0
                        · have ec10230 : (I 16) = 0 := Int32.toInt_inj.mp c10230
                          rw [ec10230]
                          show GW κ 4 0 0 (wM r g (upd (upd I10214 11 (-2)) 17 y10229) A10214 (up3L L10214 7 ((I 17).toNatClampNeg) y10228)) 246 [(3, .int x6262), (2, .int (I 4)), (1, .int y6248), (0, .ref (r 0))] [.int 0, .ref (r 11)]
                          refine g_dup2 hk dX12_tellQuery_246 rfl rfl ?_
                          refine lM_10 (v := (A 10 0)) hk (vp_in_iff.mpr ⟨by decide, by decide⟩) ((congrFun (hA10214 10 rfl) _).trans ((congrFun (hA9883 10 rfl) _).trans ((congrFun (hA6266 10 rfl) _).trans (congrFun (hA6252 10 rfl) _)))) dX12_tellQuery_247 ?_
                          refine g_iconst (v := 1) hk dX12_tellQuery_248 (by decide) ?_
                          refine g_iadd hk dX12_tellQuery_249 ?_
                          refine g_topi (fun y10231 ey10231 => ?_)
                          have hy10231 : y10231.toInt = (A 10 0).toInt + 1 := i32_add ey10231 rfl rfl (by omega) (by omega)
                          refine sM_10 (j := 0) hk (vp_in_iff.mpr ⟨by decide, by decide⟩) (by decide) dX12_tellQuery_250 ?_
                          have f10232 := IvM_s10_0 hV10214
                          have f10233 := IvM_s10_1 hV10214
                          have g10234 : (I10214 15).toInt = (I 15).toInt := by rw [show (I10214 15) = (I 15) from ((hI10214 15 rfl).trans ((hI9883 15 rfl).trans ((hI6266 15 rfl).trans (hI6252 15 rfl))))]
                          have g10235 := IvM_s10_0 (I := I10214) (A := A10214) hV10214
                          have g10236 := IvM_s10_1 (I := I10214) (A := A10214) hV10214
                          have g10237 : (I10214 8).toInt = (I9883 8).toInt := by rw [show (I10214 8) = (I9883 8) from (hI10214 8 rfl)]
                          have q10238 := cl_int (y := y6248) (by omega)
                          have g10239 : (A10214 11 y6248.toNatClampNeg).toInt = (A9883 11 y6248.toNatClampNeg).toInt := by rw [show (A10214 11 y6248.toNatClampNeg) = (A9883 11 y6248.toNatClampNeg) from (congrFun (hA10214 11 rfl) _)]
                          have u10240 : 0 < (I6252 6).toInt ∨ ((I 6).toInt = 0 ∧ (A 2 (I 4).toNatClampNeg).toInt = (1 : Int32).toInt) := r6257
                          have u10241 : 0 < (I10214 6).toInt ∨ ((I9883 6).toInt = 0 ∧ (A 2 (I9883 4).toNatClampNeg).toInt = (4 : Int32).toInt) := r10219
                          exact g_vret hk hR ⟨(upd (upd I10214 11 (-2)) 17 y10229), (up3 A10214 10 0 y10231), (up3L L10214 7 ((I 17).toNatClampNeg) y10228), (show Md [4, 6, 7, 8, 9, 11, 12, 13, 17] I (upd (upd I10214 11 (-2)) 17 y10229) from (Md.up (Md.up (Md.tr (Md.tr (Md.tr (Md.tr (Md.up Md.rf rfl) hI6252 rfl) hI6266 rfl) hI9883 rfl) hI10214 rfl) rfl) rfl)), (show Md [10, 11, 12] A (up3 A10214 10 0 y10231) from (Md.up3 (Md.tr (Md.tr (Md.up3 (Md.tr (Md.tr Md.rf hA6252 rfl) hA6266 rfl) rfl) hA9883 rfl) hA10214 rfl) rfl)), ⟨(IvM_f1 (I := I10214) (A := A10214) hV10214), (IvM_f2 (I := I10214) (A := A10214) hV10214), (IvM_f3 (I := I10214) (A := A10214) hV10214), (IvM_f4 (I := I10214) (A := A10214) hV10214), (IvM_f6 (I := I10214) (A := A10214) hV10214), (IvM_f8 (I := I10214) (A := A10214) hV10214), (IvM_f15 (I := I10214) (A := A10214) hV10214), (IvM_f16 (I := I10214) (A := A10214) hV10214), (show 0 ≤ y10229.toInt ∧ y10229.toInt ≤ 5 from ⟨by omega, by omega⟩), (IvM_f18 (I := I10214) (A := A10214) hV10214), (IvM_f22 (I := I10214) (A := A10214) hV10214), (IvM_f23 (I := I10214) (A := A10214) hV10214), (IvM_f24 (I := I10214) (A := A10214) hV10214), (IvM_a11 (I := I10214) (A := A10214) hV10214), (IvM_a26 (I := I10214) (A := A10214) hV10214), (IvM_s8_0 (I := I10214) (A := A10214) hV10214), (IvM_s8_1 (I := I10214) (A := A10214) hV10214), (show 0 ≤ ((up3 A10214 10 0 y10231) 10 0).toInt ∧ ((up3 A10214 10 0 y10231) 10 0).toInt ≤ 5 from by rw [show (up3 A10214 10 0 y10231) 10 0 = y10231 from rfl]; exact ⟨by omega, by omega⟩), (show 0 ≤ ((up3 A10214 10 0 y10231) 10 1).toInt ∧ ((up3 A10214 10 0 y10231) 10 1).toInt ≤ 5 from by rw [show (up3 A10214 10 0 y10231) 10 1 = (A10214 10 1) from rfl]; exact ⟨by omega, by omega⟩), (IvM_s17_0 (I := I10214) (A := A10214) hV10214), (IvM_s17_164 (I := I10214) (A := A10214) hV10214), ⟨fun e => by have e : (I10214 15).toInt = 0 := e; first | exact (IvM_lv (I := I10214) (A := A10214) hV10214).1 e | (exfalso; omega), fun e => by have e : (I10214 15).toInt = 1 := e; first | exact (IvM_lv (I := I10214) (A := A10214) hV10214).2 e | (exfalso; omega)⟩, (by first | (exfalso; omega) | (by_cases g8 : (I10214 8).toInt ≠ 0; exact Or.inr (Or.inl g8); rcases (IvM_sd (I := I10214) (A := A10214) hV10214) with h9 | h9 | h9; exact absurd h9 (by omega); exact absurd h9 g8; exact Or.inr (Or.inr ⟨fun e => by have e : (I10214 16).toInt = 0 := e; first | exact ghf_add (n := (A10214 10 0)) (f := (A10214 11)) (n2 := y10231) (p := y6248.toNatClampNeg) (h9.1 e) (by omega) (by omega) (by omega) | (exfalso; omega), fun e => by have e : (I10214 16).toInt = 1 := e; first | exact ghf_add (n := (A10214 10 1)) (f := (A10214 11)) (n2 := y10231) (p := y6248.toNatClampNeg) (h9.2 e) (by omega) (by omega) (by omega) | (exfalso; omega)⟩))), ⟨fun e => by have e : (I10214 16).toInt = 0 := e; first | (exfalso; omega) | (show y10229.toInt = y10231.toInt; omega), fun e => by have e : (I10214 16).toInt = 1 := e; first | (exfalso; omega) | (show y10229.toInt = (A10214 10 1).toInt; omega)⟩, (IvM_hr (I := I10214) (A := A10214) hV10214), (IvM_hh (I := I10214) (A := A10214) hV10214), trivial⟩, (by rw [show ((upd (upd I10214 11 (-2)) 17 y10229) 4) = (I10214 4) from rfl] <;> omega), (by rw [show ((upd (upd I10214 11 (-2)) 17 y10229) 6) = (I10214 6) from rfl] <;> omega), (by rw [show ((upd (upd I10214 11 (-2)) 17 y10229) 8) = (I9883 8) from (hI10214 8 rfl)] <;> omega), rfl, rfl⟩ dX12_tellQuery_251
                        exfalso; omega
                      · skip
                        exact g_vret hk hR ⟨I10214, A10214, L10214, (show Md [4, 6, 7, 8, 9, 11, 12, 13, 17] I I10214 from (Md.tr (Md.tr (Md.tr (Md.tr (Md.up Md.rf rfl) hI6252 rfl) hI6266 rfl) hI9883 rfl) hI10214 rfl)), (show Md [10, 11, 12] A A10214 from (Md.tr (Md.tr (Md.up3 (Md.tr (Md.tr Md.rf hA6252 rfl) hA6266 rfl) rfl) hA9883 rfl) hA10214 rfl)), hV10214, (by omega), (by omega), (by rw [show (I10214 8) = (I9883 8) from (hI10214 8 rfl)] <;> omega), rfl, rfl⟩ dX12_tellQuery_206
                    · skip
                      refine g_aload_n hk dX12_tellQuery_184 rfl ?_
                      refine g_bipush (v := 6) hk dX12_tellQuery_185 (by decide) ?_
                      refine g_aload_n hk dX12_tellQuery_187 rfl ?_
                      refine gM_i4 (v := (I9883 4)) hk hin12 (List.mem_cons_of_mem _ (List.mem_append_left _ (List.mem_of_getElem? (i := 3) rfl))) dX12_tellQuery_188 rfl ?_
                      have k10242 : (6 : Int32).toInt = 6 := rfl
                      refine g_callV (n := 2) hk (j134_X12_wrong l D zt r g I9883 A9883 L9883 6 (I9883 4) hV9883 (by decide) (by decide) (by omega) (by omega)) (SP.same _) (fun _ h => h) (gi_V (List.mem_cons_of_mem _ (List.mem_append_left _ (List.mem_of_getElem? (i := 19) rfl))) (List.mem_cons_of_mem _ (List.mem_append_left _ (List.mem_of_getElem? (i := 20) rfl))) (List.mem_cons_of_mem _ (List.mem_append_left _ (List.mem_of_getElem? (i := 21) rfl))) (List.mem_cons_of_mem _ (List.mem_append_left _ (List.mem_of_getElem? (i := 7) rfl))) (gi_sub (fun w h => (List.mem_cons_of_mem _ (List.mem_append_right _ (List.mem_append_right _ (List.mem_append_right _ (List.mem_append_right _ (List.mem_append_right _ (List.mem_append_left _ h)))))))) zg_j134_X12_wrong)) rfl rfl rfl (by decide +kernel) ⟨Nat.le_of_ble_eq_true rfl, Nat.le_of_ble_eq_true rfl⟩ 0 rfl rfl rfl rfl (Nat.le_of_ble_eq_true rfl) ⟨Nat.le_of_ble_eq_true rfl, Nat.le_of_ble_eq_true rfl⟩ dX12_tellQuery_191 (fun v ty' w' hp hk' => ?_)
                      obtain ⟨I10244, A10244, L10244, hI10244, hA10244, hV10244, r10245, r10246, r10247, rfl, rfl⟩ := hp
                      rw [show (I10244 6) = (I9883 6) from (hI10244 6 rfl)] at r10245
                      have f10248 := IvM_f8 hV10244
                      rw [show (I10244 6) = (I9883 6) from (hI10244 6 rfl)] at r10247
                      show GW κ 4 0 0 (wM r g I10244 A10244 L10244) 194 [(3, .int x6262), (2, .int (I 4)), (1, .int y6248), (0, .ref (r 0))] []
                      refine g_aload_n hk dX12_tellQuery_194 rfl ?_
                      refine g_iconst (v := 4) hk dX12_tellQuery_195 (by decide) ?_
                      refine g_callV (n := 1) hk (j131_X12_must l D zt r g I10244 A10244 L10244 4 hV10244) (SP.same _) (fun _ h => h) (gi_V (List.mem_cons_of_mem _ (List.mem_append_left _ (List.mem_of_getElem? (i := 4) rfl))) (List.mem_cons_of_mem _ (List.mem_append_left _ (List.mem_of_getElem? (i := 5) rfl))) (List.mem_cons_of_mem _ (List.mem_append_left _ (List.mem_of_getElem? (i := 6) rfl))) (List.mem_cons_of_mem _ (List.mem_append_left _ (List.mem_of_getElem? (i := 7) rfl))) (gi_sub (fun w h => (List.mem_cons_of_mem _ (List.mem_append_right _ (List.mem_append_right _ (List.mem_append_left _ h))))) zg_j131_X12_must)) rfl rfl rfl (by decide +kernel) ⟨Nat.le_of_ble_eq_true rfl, Nat.le_of_ble_eq_true rfl⟩ 0 rfl rfl rfl rfl (Nat.le_of_ble_eq_true rfl) ⟨Nat.le_of_ble_eq_true rfl, Nat.le_of_ble_eq_true rfl⟩ dX12_tellQuery_196 (fun v ty' w' hp hk' => ?_)
                      obtain ⟨I10250, A10250, L10250, hI10250, hA10250, hV10250, r10251, r10252, r10253, r10254, r10255, rfl, rfl⟩ := hp
                      have f10256 := IvM_f4 hV10250
                      rw [show (I10244 4) = (I9883 4) from (hI10244 4 rfl)] at r10251
                      have f10257 := IvM_f6 hV10250
                      rw [show (I10244 6) = (I9883 6) from (hI10244 6 rfl)] at r10252
                      rw [show (I10250 8) = (I10244 8) from (hI10250 8 rfl)] at r10253
                      rw [show (I10244 4) = (I9883 4) from (hI10244 4 rfl)] at r10254
                      rw [show (I10244 6) = (I9883 6) from (hI10244 6 rfl), show (A10244 2 (I10244 4).toNatClampNeg) = (A 2 (I9883 4).toNatClampNeg) from (by rw [show I10244 4 = (I9883 4) from (hI10244 4 rfl)]; exact ((congrFun (hA10244 2 rfl) _).trans ((congrFun (hA9883 2 rfl) _).trans ((congrFun (hA6266 2 rfl) _).trans (congrFun (hA6252 2 rfl) _)))))] at r10255
                      show GW κ 4 0 0 (wM r g I10250 A10250 L10250) 199 [(3, .int x6262), (2, .int (I 4)), (1, .int y6248), (0, .ref (r 0))] []
                      refine g_aload_n hk dX12_tellQuery_199 rfl ?_
                      refine gM_i6 (v := (I10250 6)) hk hin12 (List.mem_cons_of_mem _ (List.mem_append_left _ (List.mem_of_getElem? (i := 16) rfl))) dX12_tellQuery_200 rfl ?_
                      refine g_if_le (tgt := 207) (a := (I10250 6).toInt) hk dX12_tellQuery_203 (by decide) rfl (fun c10258 => ?_) (fun c10258 => ?_)
                      · skip
                        refine g_aload_n hk dX12_tellQuery_207 rfl ?_
                        refine g_bipush (v := (-2)) hk dX12_tellQuery_208 (by decide) ?_
                        refine pM_i11 hk hin12 (List.mem_cons_of_mem _ (List.mem_append_left _ (List.mem_of_getElem? (i := 0) rfl))) dX12_tellQuery_210 ?_
                        refine g_aload_n hk dX12_tellQuery_213 rfl ?_
                        refine gM_r0_25 hk hin12 (List.mem_cons_of_mem _ (List.mem_append_left _ (List.mem_of_getElem? (i := 17) rfl))) dX12_tellQuery_214 ?_
                        refine g_aload_n hk dX12_tellQuery_217 rfl ?_
                        refine gM_i17 (v := (I 17)) hk hin12 (List.mem_cons_of_mem _ (List.mem_append_left _ (List.mem_of_getElem? (i := 8) rfl))) dX12_tellQuery_218 ((hI10250 17 rfl).trans ((hI10244 17 rfl).trans ((hI9883 17 rfl).trans ((hI6266 17 rfl).trans (hI6252 17 rfl))))) ?_
                        have g10259 : (I10250 16).toInt = (I 16).toInt := by rw [show (I10250 16) = (I 16) from ((hI10250 16 rfl).trans ((hI10244 16 rfl).trans ((hI9883 16 rfl).trans ((hI6266 16 rfl).trans (hI6252 16 rfl)))))]
                        have g10260 : (I10250 17).toInt = (I 17).toInt := by rw [show (I10250 17) = (I 17) from ((hI10250 17 rfl).trans ((hI10244 17 rfl).trans ((hI9883 17 rfl).trans ((hI6266 17 rfl).trans (hI6252 17 rfl)))))]
                        have g10261 : (A10250 10 0).toInt = (A 10 0).toInt := by rw [show (A10250 10 0) = (A 10 0) from ((congrFun (hA10250 10 rfl) _).trans ((congrFun (hA10244 10 rfl) _).trans ((congrFun (hA9883 10 rfl) _).trans ((congrFun (hA6266 10 rfl) _).trans (congrFun (hA6252 10 rfl) _)))))]
                        have g10262 : (A10250 10 1).toInt = (A 10 1).toInt := by rw [show (A10250 10 1) = (A 10 1) from ((congrFun (hA10250 10 rfl) _).trans ((congrFun (hA10244 10 rfl) _).trans ((congrFun (hA9883 10 rfl) _).trans ((congrFun (hA6266 10 rfl) _).trans (congrFun (hA6252 10 rfl) _)))))]
                        have g10263 := (IvM_nq (I := I10250) (A := A10250) hV10250).1 (by omega)
                        refine g_aload_n hk dX12_tellQuery_221 rfl ?_
                        refine gM_r0_8 hk hin12 (List.mem_cons_of_mem _ (List.mem_append_left _ (List.mem_of_getElem? (i := 18) rfl))) dX12_tellQuery_222 ?_
                        refine g_iload_n hk dX12_tellQuery_225 rfl ?_
                        refine lM_5 hk (vp_in_iff.mpr ⟨by omega, by omega⟩) rfl dX12_tellQuery_226 ?_
                        refine g_topl (fun y10264 ey10264 => ?_)
                        refine sM_7 (j := (I 17).toNatClampNeg) hk (vp_in_iff.mpr ⟨by omega, by omega⟩) rfl dX12_tellQuery_227 ?_
                        refine g_aload_n hk dX12_tellQuery_228 rfl ?_
                        refine g_dup hk dX12_tellQuery_229 rfl ?_
                        refine gM_i17 (v := (I 17)) hk hin12 (List.mem_cons_of_mem _ (List.mem_append_left _ (List.mem_of_getElem? (i := 8) rfl))) dX12_tellQuery_230 ((hI10250 17 rfl).trans ((hI10244 17 rfl).trans ((hI9883 17 rfl).trans ((hI6266 17 rfl).trans (hI6252 17 rfl))))) ?_
                        refine g_iconst (v := 1) hk dX12_tellQuery_233 (by decide) ?_
                        refine g_iadd hk dX12_tellQuery_234 ?_
                        refine g_topi (fun y10265 ey10265 => ?_)
                        have hy10265 : y10265.toInt = (I 17).toInt + 1 := i32_add ey10265 rfl rfl (by omega) (by omega)
                        refine pM_i17 hk hin12 (List.mem_cons_of_mem _ (List.mem_append_left _ (List.mem_of_getElem? (i := 8) rfl))) dX12_tellQuery_235 ?_
                        refine g_aload_n hk dX12_tellQuery_238 rfl ?_
                        refine gM_r0_28 hk hin12 (List.mem_cons_of_mem _ (List.mem_append_left _ (List.mem_of_getElem? (i := 2) rfl))) dX12_tellQuery_239 ?_
                        refine g_aload_n hk dX12_tellQuery_242 rfl ?_
                        refine gM_i16 (v := (I 16)) hk hin12 (List.mem_cons_of_mem _ (List.mem_append_left _ (List.mem_of_getElem? (i := 1) rfl))) dX12_tellQuery_243 ((hI10250 16 rfl).trans ((hI10244 16 rfl).trans ((hI9883 16 rfl).trans ((hI6266 16 rfl).trans (hI6252 16 rfl))))) ?_
                        by_cases c10266 : (I 16).toInt = 0
                        · have ec10266 : (I 16) = 0 := Int32.toInt_inj.mp c10266
                          rw [ec10266]
                          show GW κ 4 0 0 (wM r g (upd (upd I10250 11 (-2)) 17 y10265) A10250 (up3L L10250 7 ((I 17).toNatClampNeg) y10264)) 246 [(3, .int x6262), (2, .int (I 4)), (1, .int y6248), (0, .ref (r 0))] [.int 0, .ref (r 11)]
                          refine g_dup2 hk dX12_tellQuery_246 rfl rfl ?_
                          refine lM_10 (v := (A 10 0)) hk (vp_in_iff.mpr ⟨by decide, by decide⟩) ((congrFun (hA10250 10 rfl) _).trans ((congrFun (hA10244 10 rfl) _).trans ((congrFun (hA9883 10 rfl) _).trans ((congrFun (hA6266 10 rfl) _).trans (congrFun (hA6252 10 rfl) _))))) dX12_tellQuery_247 ?_
                          refine g_iconst (v := 1) hk dX12_tellQuery_248 (by decide) ?_
                          refine g_iadd hk dX12_tellQuery_249 ?_
                          refine g_topi (fun y10267 ey10267 => ?_)
                          have hy10267 : y10267.toInt = (A 10 0).toInt + 1 := i32_add ey10267 rfl rfl (by omega) (by omega)
                          refine sM_10 (j := 0) hk (vp_in_iff.mpr ⟨by decide, by decide⟩) (by decide) dX12_tellQuery_250 ?_
                          have f10268 := IvM_s10_0 hV10250
                          have f10269 := IvM_s10_1 hV10250
                          have g10270 : (I10250 15).toInt = (I 15).toInt := by rw [show (I10250 15) = (I 15) from ((hI10250 15 rfl).trans ((hI10244 15 rfl).trans ((hI9883 15 rfl).trans ((hI6266 15 rfl).trans (hI6252 15 rfl)))))]
                          have g10271 := IvM_s10_0 (I := I10250) (A := A10250) hV10250
                          have g10272 := IvM_s10_1 (I := I10250) (A := A10250) hV10250
                          have g10273 : (I10250 8).toInt = (I10244 8).toInt := by rw [show (I10250 8) = (I10244 8) from (hI10250 8 rfl)]
                          have q10274 := cl_int (y := y6248) (by omega)
                          have g10275 : (A10250 11 y6248.toNatClampNeg).toInt = (A9883 11 y6248.toNatClampNeg).toInt := by rw [show (A10250 11 y6248.toNatClampNeg) = (A9883 11 y6248.toNatClampNeg) from ((congrFun (hA10250 11 rfl) _).trans (congrFun (hA10244 11 rfl) _))]
                          have u10276 : 0 < (I6252 6).toInt ∨ ((I 6).toInt = 0 ∧ (A 2 (I 4).toNatClampNeg).toInt = (1 : Int32).toInt) := r6257
                          have u10277 : 0 < (I10250 6).toInt ∨ ((I9883 6).toInt = 0 ∧ (A 2 (I9883 4).toNatClampNeg).toInt = (4 : Int32).toInt) := r10255
                          exact g_vret hk hR ⟨(upd (upd I10250 11 (-2)) 17 y10265), (up3 A10250 10 0 y10267), (up3L L10250 7 ((I 17).toNatClampNeg) y10264), (show Md [4, 6, 7, 8, 9, 11, 12, 13, 17] I (upd (upd I10250 11 (-2)) 17 y10265) from (Md.up (Md.up (Md.tr (Md.tr (Md.tr (Md.tr (Md.tr (Md.up Md.rf rfl) hI6252 rfl) hI6266 rfl) hI9883 rfl) hI10244 rfl) hI10250 rfl) rfl) rfl)), (show Md [10, 11, 12] A (up3 A10250 10 0 y10267) from (Md.up3 (Md.tr (Md.tr (Md.tr (Md.up3 (Md.tr (Md.tr Md.rf hA6252 rfl) hA6266 rfl) rfl) hA9883 rfl) hA10244 rfl) hA10250 rfl) rfl)), ⟨(IvM_f1 (I := I10250) (A := A10250) hV10250), (IvM_f2 (I := I10250) (A := A10250) hV10250), (IvM_f3 (I := I10250) (A := A10250) hV10250), (IvM_f4 (I := I10250) (A := A10250) hV10250), (IvM_f6 (I := I10250) (A := A10250) hV10250), (IvM_f8 (I := I10250) (A := A10250) hV10250), (IvM_f15 (I := I10250) (A := A10250) hV10250), (IvM_f16 (I := I10250) (A := A10250) hV10250), (show 0 ≤ y10265.toInt ∧ y10265.toInt ≤ 5 from ⟨by omega, by omega⟩), (IvM_f18 (I := I10250) (A := A10250) hV10250), (IvM_f22 (I := I10250) (A := A10250) hV10250), (IvM_f23 (I := I10250) (A := A10250) hV10250), (IvM_f24 (I := I10250) (A := A10250) hV10250), (IvM_a11 (I := I10250) (A := A10250) hV10250), (IvM_a26 (I := I10250) (A := A10250) hV10250), (IvM_s8_0 (I := I10250) (A := A10250) hV10250), (IvM_s8_1 (I := I10250) (A := A10250) hV10250), (show 0 ≤ ((up3 A10250 10 0 y10267) 10 0).toInt ∧ ((up3 A10250 10 0 y10267) 10 0).toInt ≤ 5 from by rw [show (up3 A10250 10 0 y10267) 10 0 = y10267 from rfl]; exact ⟨by omega, by omega⟩), (show 0 ≤ ((up3 A10250 10 0 y10267) 10 1).toInt ∧ ((up3 A10250 10 0 y10267) 10 1).toInt ≤ 5 from by rw [show (up3 A10250 10 0 y10267) 10 1 = (A10250 10 1) from rfl]; exact ⟨by omega, by omega⟩), (IvM_s17_0 (I := I10250) (A := A10250) hV10250), (IvM_s17_164 (I := I10250) (A := A10250) hV10250), ⟨fun e => by have e : (I10250 15).toInt = 0 := e; first | exact (IvM_lv (I := I10250) (A := A10250) hV10250).1 e | (exfalso; omega), fun e => by have e : (I10250 15).toInt = 1 := e; first | exact (IvM_lv (I := I10250) (A := A10250) hV10250).2 e | (exfalso; omega)⟩, (by first | (exfalso; omega) | (by_cases g8 : (I10250 8).toInt ≠ 0; exact Or.inr (Or.inl g8); rcases (IvM_sd (I := I10250) (A := A10250) hV10250) with h9 | h9 | h9; exact absurd h9 (by omega); exact absurd h9 g8; exact Or.inr (Or.inr ⟨fun e => by have e : (I10250 16).toInt = 0 := e; first | exact ghf_add (n := (A10250 10 0)) (f := (A10250 11)) (n2 := y10267) (p := y6248.toNatClampNeg) (h9.1 e) (by omega) (by omega) (by omega) | (exfalso; omega), fun e => by have e : (I10250 16).toInt = 1 := e; first | exact ghf_add (n := (A10250 10 1)) (f := (A10250 11)) (n2 := y10267) (p := y6248.toNatClampNeg) (h9.2 e) (by omega) (by omega) (by omega) | (exfalso; omega)⟩))), ⟨fun e => by have e : (I10250 16).toInt = 0 := e; first | (exfalso; omega) | (show y10265.toInt = y10267.toInt; omega), fun e => by have e : (I10250 16).toInt = 1 := e; first | (exfalso; omega) | (show y10265.toInt = (A10250 10 1).toInt; omega)⟩, (IvM_hr (I := I10250) (A := A10250) hV10250), (IvM_hh (I := I10250) (A := A10250) hV10250), trivial⟩, (by rw [show ((upd (upd I10250 11 (-2)) 17 y10265) 4) = (I10250 4) from rfl] <;> omega), (by rw [show ((upd (upd I10250 11 (-2)) 17 y10265) 6) = (I10250 6) from rfl] <;> omega), (by rw [show ((upd (upd I10250 11 (-2)) 17 y10265) 8) = (I10244 8) from (hI10250 8 rfl)] <;> omega), rfl, rfl⟩ dX12_tellQuery_251
                        exfalso; omega
                      · skip
                        exact g_vret hk hR ⟨I10250, A10250, L10250, (show Md [4, 6, 7, 8, 9, 11, 12, 13, 17] I I10250 from (Md.tr (Md.tr (Md.tr (Md.tr (Md.tr (Md.up Md.rf rfl) hI6252 rfl) hI6266 rfl) hI9883 rfl) hI10244 rfl) hI10250 rfl)), (show Md [10, 11, 12] A A10250 from (Md.tr (Md.tr (Md.tr (Md.up3 (Md.tr (Md.tr Md.rf hA6252 rfl) hA6266 rfl) rfl) hA9883 rfl) hA10244 rfl) hA10250 rfl)), hV10250, (by omega), (by omega), (by rw [show (I10250 8) = (I10244 8) from (hI10250 8 rfl)] <;> omega), rfl, rfl⟩ dX12_tellQuery_206
                · skip
                  show GW κ 4 0 0 (wM r g I9883 A9883 L9883) 88 [(3, .int x6262), (2, .int (I 4)), (1, .int y6248), (0, .ref (r 0))] [.int 1]
                  refine g_if_eq (tgt := 166) (a := 1) hk dX12_tellQuery_88 (by decide) rfl (fun z9 => absurd z9 (show ¬ ((1 : Int) = (0 : Int)) from by decide)) (fun _ => ?_)
                  refine g_aload_n hk dX12_tellQuery_91 rfl ?_
                  refine gM_r0_29 hk hin12 (List.mem_cons_of_mem _ (List.mem_append_left _ (List.mem_of_getElem? (i := 9) rfl))) dX12_tellQuery_92 ?_
                  refine g_iload_n hk dX12_tellQuery_95 rfl ?_
                  refine lM_11 (v := (A9883 11 y6248.toNatClampNeg)) hk (vp_in_iff.mpr ⟨by omega, by omega⟩) rfl dX12_tellQuery_96 ?_
                  have f10278 := IvM_a11 hV9883 (y6248.toNatClampNeg)
                  refine g_bipush (v := 16) hk dX12_tellQuery_97 (by decide) ?_
                  refine g_icmp_ne (tgt := 107) (a := (A9883 11 y6248.toNatClampNeg).toInt) (b := 16) hk dX12_tellQuery_99 (by decide) rfl rfl (fun c10279 => ?_) (fun c10279 => ?_)
                  · skip
                    refine g_aload_n hk dX12_tellQuery_107 rfl ?_
                    refine gM_i6 (v := (I9883 6)) hk hin12 (List.mem_cons_of_mem _ (List.mem_append_left _ (List.mem_of_getElem? (i := 16) rfl))) dX12_tellQuery_108 rfl ?_
                    refine g_if_le (tgt := 115) (a := (I9883 6).toInt) hk dX12_tellQuery_111 (by decide) rfl (fun c10280 => ?_) (fun c10280 => ?_)
                    · skip
                      refine g_aload_n hk dX12_tellQuery_115 rfl ?_
                      refine gM_r0_30 hk hin12 (List.mem_cons_of_mem _ (List.mem_append_left _ (List.mem_of_getElem? (i := 22) rfl))) dX12_tellQuery_116 ?_
                      refine g_bipush (v := 16) hk dX12_tellQuery_119 (by decide) ?_
                      refine g_iload_n hk dX12_tellQuery_121 rfl ?_
                      refine g_imul hk dX12_tellQuery_122 ?_
                      refine g_topi (fun y10281 ey10281 => ?_)
                      have hy10281 : y10281.toInt = 16 * y6248.toInt := i32_mul ey10281 rfl rfl (by omega) (by omega)
                      refine g_aload_n hk dX12_tellQuery_123 rfl ?_
                      refine gM_r0_29 hk hin12 (List.mem_cons_of_mem _ (List.mem_append_left _ (List.mem_of_getElem? (i := 9) rfl))) dX12_tellQuery_124 ?_
                      refine g_iload_n hk dX12_tellQuery_127 rfl ?_
                      refine lM_11 (v := (A9883 11 y6248.toNatClampNeg)) hk (vp_in_iff.mpr ⟨by omega, by omega⟩) rfl dX12_tellQuery_128 ?_
                      refine g_iadd hk dX12_tellQuery_129 ?_
                      refine g_topi (fun y10282 ey10282 => ?_)
                      have hy10282 : y10282.toInt = y10281.toInt + (A9883 11 y6248.toNatClampNeg).toInt := i32_add ey10282 rfl rfl (by omega) (by omega)
                      refine g_aload_n hk dX12_tellQuery_130 rfl ?_
                      refine g_callV (n := 0) hk (j132_X12_readingTold l D zt r g I9883 A9883 L9883  hV9883) (SP.same _) (fun _ h => h) (gi_V (List.mem_cons_of_mem _ (List.mem_append_left _ (List.mem_of_getElem? (i := 23) rfl))) (List.mem_cons_of_mem _ (List.mem_append_left _ (List.mem_of_getElem? (i := 24) rfl))) (List.mem_cons_of_mem _ (List.mem_append_left _ (List.mem_of_getElem? (i := 25) rfl))) (List.mem_cons_of_mem _ (List.mem_append_left _ (List.mem_of_getElem? (i := 7) rfl))) (gi_sub (fun w h => (List.mem_cons_of_mem _ (List.mem_append_right _ (List.mem_append_right _ (List.mem_append_right _ (List.mem_append_right _ (List.mem_append_right _ (List.mem_append_right _ (List.mem_append_left _ h))))))))) zg_j132_X12_readingTold)) rfl rfl rfl (by decide +kernel) ⟨Nat.le_of_ble_eq_true rfl, Nat.le_of_ble_eq_true rfl⟩ 0 rfl rfl rfl rfl (Nat.le_of_ble_eq_true rfl) ⟨Nat.le_of_ble_eq_true rfl, Nat.le_of_ble_eq_true rfl⟩ dX12_tellQuery_131 (fun v ty' w' hp hk' => ?_)
                      obtain ⟨I10284, A10284, L10284, hI10284, hA10284, hV10284, y10283, r10285, r10286, r10287, r10288, rfl, rfl⟩ := hp
                      have f10289 := IvM_f4 hV10284
                      have f10290 := IvM_f6 hV10284
                      have f10291 := IvM_f8 hV10284
                      show GW κ 4 0 0 (wM r g I10284 A10284 L10284) 134 [(3, .int x6262), (2, .int (I 4)), (1, .int y6248), (0, .ref (r 0))] [.int y10283, .int y10282, .ref (r 13)]
                      refine sM_12 (j := y10282.toNatClampNeg) hk (vp_in_iff.mpr ⟨by omega, by omega⟩) rfl dX12_tellQuery_134 ?_
                      refine g_aload_n hk dX12_tellQuery_135 rfl ?_
                      refine gM_i6 (v := (I10284 6)) hk hin12 (List.mem_cons_of_mem _ (List.mem_append_left _ (List.mem_of_getElem? (i := 16) rfl))) dX12_tellQuery_136 rfl ?_
                      refine g_if_le (tgt := 143) (a := (I10284 6).toInt) hk dX12_tellQuery_139 (by decide) rfl (fun c10292 => ?_) (fun c10292 => ?_)
                      · skip
                        refine g_aload_n hk dX12_tellQuery_143 rfl ?_
                        refine gM_r0_29 hk hin12 (List.mem_cons_of_mem _ (List.mem_append_left _ (List.mem_of_getElem? (i := 9) rfl))) dX12_tellQuery_144 ?_
                        refine g_iload_n hk dX12_tellQuery_147 rfl ?_
                        refine g_dup2 hk dX12_tellQuery_148 rfl rfl ?_
                        refine lM_11 (v := (A9883 11 y6248.toNatClampNeg)) hk (vp_in_iff.mpr ⟨by omega, by omega⟩) (congrFun (hA10284 11 rfl) _) dX12_tellQuery_149 ?_
                        refine g_iconst (v := 1) hk dX12_tellQuery_150 (by decide) ?_
                        refine g_iadd hk dX12_tellQuery_151 ?_
                        refine g_topi (fun y10293 ey10293 => ?_)
                        have hy10293 : y10293.toInt = (A9883 11 y6248.toNatClampNeg).toInt + 1 := i32_add ey10293 rfl rfl (by omega) (by omega)
                        refine sM_11 (j := y6248.toNatClampNeg) hk (vp_in_iff.mpr ⟨by omega, by omega⟩) rfl dX12_tellQuery_152 ?_
                        have hA10294 : ∀ j, 0 ≤ ((up3 (up3 A10284 12 (y10282.toNatClampNeg) y10283) 11 (y6248.toNatClampNeg) y10293) 11 j).toInt ∧ ((up3 (up3 A10284 12 (y10282.toNatClampNeg) y10283) 11 (y6248.toNatClampNeg) y10293) 11 j).toInt ≤ 16 := ai_st ((IvM_a11 hV10284)) ⟨by omega, by omega⟩
                        refine g_aload_n hk dX12_tellQuery_153 rfl ?_
                        refine g_dup hk dX12_tellQuery_154 rfl ?_
                        refine gM_i11 (v := (I9883 11)) hk hin12 (List.mem_cons_of_mem _ (List.mem_append_left _ (List.mem_of_getElem? (i := 0) rfl))) dX12_tellQuery_155 (hI10284 11 rfl) ?_
                        refine g_iconst (v := 1) hk dX12_tellQuery_158 (by decide) ?_
                        have b10295l := Int32.le_toInt (I9883 11)
                        have b10295h := Int32.toInt_lt (I9883 11)
                        refine g_iadd hk dX12_tellQuery_159 ?_
                        refine g_topi (fun y10296 ey10296 => ?_)
                        refine pM_i11 hk hin12 (List.mem_cons_of_mem _ (List.mem_append_left _ (List.mem_of_getElem? (i := 0) rfl))) dX12_tellQuery_160 ?_
                        refine g_goto (tgt := 84) hk dX12_tellQuery_163 (by decide) ?_
                        have g10297 : (I10284 15).toInt = (I 15).toInt := by rw [show (I10284 15) = (I 15) from ((hI10284 15 rfl).trans ((hI9883 15 rfl).trans ((hI6266 15 rfl).trans (hI6252 15 rfl))))]
                        have g10298 : (I10284 16).toInt = (I 16).toInt := by rw [show (I10284 16) = (I 16) from ((hI10284 16 rfl).trans ((hI9883 16 rfl).trans ((hI6266 16 rfl).trans (hI6252 16 rfl))))]
                        have g10299 := IvM_s10_0 (I := I10284) (A := A10284) hV10284
                        have g10300 := IvM_s10_1 (I := I10284) (A := A10284) hV10284
                        have q10301 := cl_int (y := y6248) (by omega)
                        have g10302 : (A10284 10 0).toInt = (A 10 0).toInt := by rw [show (A10284 10 0) = (A 10 0) from ((congrFun (hA10284 10 rfl) _).trans ((congrFun (hA9883 10 rfl) _).trans ((congrFun (hA6266 10 rfl) _).trans (congrFun (hA6252 10 rfl) _))))]
                        have g10303 : (A10284 10 1).toInt = (A 10 1).toInt := by rw [show (A10284 10 1) = (A 10 1) from ((congrFun (hA10284 10 rfl) _).trans ((congrFun (hA9883 10 rfl) _).trans ((congrFun (hA6266 10 rfl) _).trans (congrFun (hA6252 10 rfl) _))))]
                        have q10304 := cl_int (y := y6248) (by omega)
                        exact g_lv (List.forall_mem_cons.mpr ⟨List.mem_of_getElem? (i := 0) rfl, (List.forall_mem_cons.mpr ⟨List.mem_of_getElem? (i := 1) rfl, (List.forall_mem_cons.mpr ⟨List.mem_of_getElem? (i := 2) rfl, (List.forall_mem_cons.mpr ⟨List.mem_of_getElem? (i := 3) rfl, (fun _ h => absurd h List.not_mem_nil)⟩)⟩)⟩)⟩) (ih10171 (upd I10284 11 y10296) (up3 (up3 A10284 12 (y10282.toNatClampNeg) y10283) 11 (y6248.toNatClampNeg) y10293) L10284 (show Md [4, 6, 7, 8, 9, 11, 12, 13] I6266 (upd I10284 11 y10296) from Md.tr hI9883 (show Md [4, 6, 7, 8, 9, 11, 12, 13] I9883 (upd I10284 11 y10296) from (Md.up (Md.tr Md.rf hI10284 rfl) rfl)) rfl) (show Md [11, 12] (up3 A6266 11 (y6248.toNatClampNeg) 0) (up3 (up3 A10284 12 (y10282.toNatClampNeg) y10283) 11 (y6248.toNatClampNeg) y10293) from Md.tr hA9883 (show Md [11, 12] A9883 (up3 (up3 A10284 12 (y10282.toNatClampNeg) y10283) 11 (y6248.toNatClampNeg) y10293) from (Md.up3 (Md.up3 (Md.tr Md.rf hA10284 rfl) rfl) rfl)) rfl) ⟨(IvM_f1 (I := I10284) (A := A10284) hV10284), (IvM_f2 (I := I10284) (A := A10284) hV10284), (IvM_f3 (I := I10284) (A := A10284) hV10284), (IvM_f4 (I := I10284) (A := A10284) hV10284), (IvM_f6 (I := I10284) (A := A10284) hV10284), (IvM_f8 (I := I10284) (A := A10284) hV10284), (IvM_f15 (I := I10284) (A := A10284) hV10284), (IvM_f16 (I := I10284) (A := A10284) hV10284), (IvM_f17 (I := I10284) (A := A10284) hV10284), (IvM_f18 (I := I10284) (A := A10284) hV10284), (IvM_f22 (I := I10284) (A := A10284) hV10284), (IvM_f23 (I := I10284) (A := A10284) hV10284), (IvM_f24 (I := I10284) (A := A10284) hV10284), hA10294, (IvM_a26 (I := I10284) (A := A10284) hV10284), (IvM_s8_0 (I := I10284) (A := A10284) hV10284), (IvM_s8_1 (I := I10284) (A := A10284) hV10284), (IvM_s10_0 (I := I10284) (A := A10284) hV10284), (IvM_s10_1 (I := I10284) (A := A10284) hV10284), (IvM_s17_0 (I := I10284) (A := A10284) hV10284), (IvM_s17_164 (I := I10284) (A := A10284) hV10284), ⟨fun e => by have e : (I10284 15).toInt = 0 := e; first | exact ghf_upd (n := (A10284 10 0)) ((IvM_lv (I := I10284) (A := A10284) hV10284).1 e) (fun q hq => by omega) | (exfalso; omega), fun e => by have e : (I10284 15).toInt = 1 := e; first | exact ghf_upd (n := (A10284 10 1)) ((IvM_lv (I := I10284) (A := A10284) hV10284).2 e) (fun q hq => by omega) | (exfalso; omega)⟩, (by rcases (IvM_sd (I := I10284) (A := A10284) hV10284) with h9 | h9 | h9; exact Or.inl h9; exact Or.inr (Or.inl h9); exact Or.inr (Or.inr ⟨fun e => by have e : (I10284 16).toInt = 0 := e; first | exact ghf_upd (n := (A10284 10 0)) (h9.1 e) (fun q hq => by omega) | (exfalso; omega), fun e => by have e : (I10284 16).toInt = 1 := e; first | exact ghf_upd (n := (A10284 10 1)) (h9.2 e) (fun q hq => by omega) | (exfalso; omega)⟩)), (IvM_nq (I := I10284) (A := A10284) hV10284), (IvM_hr (I := I10284) (A := A10284) hV10284), (IvM_hh (I := I10284) (A := A10284) hV10284), trivial⟩ (by first | (rw [show ((upd I10284 11 y10296) 4) = (I10284 4) from rfl] <;> omega) | omega) (by first | (rw [show ((upd I10284 11 y10296) 6) = (I10284 6) from rfl] <;> omega) | omega) (by first | (rw [show ((upd I10284 11 y10296) 8) = (I10284 8) from rfl] <;> omega) | omega) (by first | (rw [show ((upd I10284 11 y10296) 4) = (I10284 4) from rfl] <;> omega) | omega) (by omega))
                      · skip
                        exact g_vret hk hR ⟨I10284, (up3 A10284 12 (y10282.toNatClampNeg) y10283), L10284, (show Md [4, 6, 7, 8, 9, 11, 12, 13, 17] I I10284 from (Md.tr (Md.tr (Md.tr (Md.tr (Md.up Md.rf rfl) hI6252 rfl) hI6266 rfl) hI9883 rfl) hI10284 rfl)), (show Md [10, 11, 12] A (up3 A10284 12 (y10282.toNatClampNeg) y10283) from (Md.up3 (Md.tr (Md.tr (Md.up3 (Md.tr (Md.tr Md.rf hA6252 rfl) hA6266 rfl) rfl) hA9883 rfl) hA10284 rfl) rfl)), ⟨(IvM_f1 (I := I10284) (A := A10284) hV10284), (IvM_f2 (I := I10284) (A := A10284) hV10284), (IvM_f3 (I := I10284) (A := A10284) hV10284), (IvM_f4 (I := I10284) (A := A10284) hV10284), (IvM_f6 (I := I10284) (A := A10284) hV10284), (IvM_f8 (I := I10284) (A := A10284) hV10284), (IvM_f15 (I := I10284) (A := A10284) hV10284), (IvM_f16 (I := I10284) (A := A10284) hV10284), (IvM_f17 (I := I10284) (A := A10284) hV10284), (IvM_f18 (I := I10284) (A := A10284) hV10284), (IvM_f22 (I := I10284) (A := A10284) hV10284), (IvM_f23 (I := I10284) (A := A10284) hV10284), (IvM_f24 (I := I10284) (A := A10284) hV10284), (IvM_a11 (I := I10284) (A := A10284) hV10284), (IvM_a26 (I := I10284) (A := A10284) hV10284), (IvM_s8_0 (I := I10284) (A := A10284) hV10284), (IvM_s8_1 (I := I10284) (A := A10284) hV10284), (IvM_s10_0 (I := I10284) (A := A10284) hV10284), (IvM_s10_1 (I := I10284) (A := A10284) hV10284), (IvM_s17_0 (I := I10284) (A := A10284) hV10284), (IvM_s17_164 (I := I10284) (A := A10284) hV10284), (IvM_lv (I := I10284) (A := A10284) hV10284), (IvM_sd (I := I10284) (A := A10284) hV10284), (IvM_nq (I := I10284) (A := A10284) hV10284), (IvM_hr (I := I10284) (A := A10284) hV10284), (IvM_hh (I := I10284) (A := A10284) hV10284), trivial⟩, (by omega), (by omega), (by omega), rfl, rfl⟩ dX12_tellQuery_142
                    · skip
                      exact g_vret hk hR ⟨I9883, A9883, L9883, (show Md [4, 6, 7, 8, 9, 11, 12, 13, 17] I I9883 from (Md.tr (Md.tr (Md.tr (Md.up Md.rf rfl) hI6252 rfl) hI6266 rfl) hI9883 rfl)), (show Md [10, 11, 12] A A9883 from (Md.tr (Md.up3 (Md.tr (Md.tr Md.rf hA6252 rfl) hA6266 rfl) rfl) hA9883 rfl)), hV9883, (by omega), (by omega), (by omega), rfl, rfl⟩ dX12_tellQuery_114
                  · skip
                    refine g_aload_n hk dX12_tellQuery_102 rfl ?_
                    refine g_iconst (v := 2) hk dX12_tellQuery_103 (by decide) ?_
                    have k10305 : (2 : Int32).toInt = 2 := rfl
                    refine g_callV (n := 1) hk (j128_X12_fail l D zt r g I9883 A9883 L9883 2 hV9883 (by decide) (by decide)) (SP.same _) (fun _ h => h) (gi_V (List.mem_cons_of_mem _ (List.mem_append_left _ (List.mem_of_getElem? (i := 26) rfl))) (List.mem_cons_of_mem _ (List.mem_append_left _ (List.mem_of_getElem? (i := 27) rfl))) (List.mem_cons_of_mem _ (List.mem_append_left _ (List.mem_of_getElem? (i := 28) rfl))) (List.mem_cons_of_mem _ (List.mem_append_left _ (List.mem_of_getElem? (i := 7) rfl))) (gi_sub (fun w h => (List.mem_cons_of_mem _ (List.mem_append_right _ (List.mem_append_right _ (List.mem_append_right _ (List.mem_append_right _ (List.mem_append_right _ (List.mem_append_right _ (List.mem_append_right _ (List.mem_append_left _ h)))))))))) zg_j128_X12_fail)) rfl rfl rfl (by decide +kernel) ⟨Nat.le_of_ble_eq_true rfl, Nat.le_of_ble_eq_true rfl⟩ 0 rfl rfl rfl rfl (Nat.le_of_ble_eq_true rfl) ⟨Nat.le_of_ble_eq_true rfl, Nat.le_of_ble_eq_true rfl⟩ dX12_tellQuery_104 (fun v ty' w' hp hk' => ?_)
                    obtain ⟨I10307, A10307, L10307, hI10307, hA10307, hV10307, r10308, r10309, r10310, rfl, rfl⟩ := hp
                    have f10311 := IvM_f6 hV10307
                    rw [show (I10307 8) = (I9883 8) from (hI10307 8 rfl)] at r10309
                    show GW κ 4 0 0 (wM r g I10307 A10307 L10307) 107 [(3, .int x6262), (2, .int (I 4)), (1, .int y6248), (0, .ref (r 0))] []
                    refine g_aload_n hk dX12_tellQuery_107 rfl ?_
                    refine gM_i6 (v := (I10307 6)) hk hin12 (List.mem_cons_of_mem _ (List.mem_append_left _ (List.mem_of_getElem? (i := 16) rfl))) dX12_tellQuery_108 rfl ?_
                    refine g_if_le (tgt := 115) (a := (I10307 6).toInt) hk dX12_tellQuery_111 (by decide) rfl (fun c10312 => ?_) (fun c10312 => ?_)
                    · skip
                      refine g_aload_n hk dX12_tellQuery_115 rfl ?_
                      refine gM_r0_30 hk hin12 (List.mem_cons_of_mem _ (List.mem_append_left _ (List.mem_of_getElem? (i := 22) rfl))) dX12_tellQuery_116 ?_
                      refine g_bipush (v := 16) hk dX12_tellQuery_119 (by decide) ?_
                      refine g_iload_n hk dX12_tellQuery_121 rfl ?_
                      refine g_imul hk dX12_tellQuery_122 ?_
                      refine g_topi (fun y10313 ey10313 => ?_)
                      have hy10313 : y10313.toInt = 16 * y6248.toInt := i32_mul ey10313 rfl rfl (by omega) (by omega)
                      refine g_aload_n hk dX12_tellQuery_123 rfl ?_
                      refine gM_r0_29 hk hin12 (List.mem_cons_of_mem _ (List.mem_append_left _ (List.mem_of_getElem? (i := 9) rfl))) dX12_tellQuery_124 ?_
                      refine g_iload_n hk dX12_tellQuery_127 rfl ?_
                      refine lM_11 (v := (A9883 11 y6248.toNatClampNeg)) hk (vp_in_iff.mpr ⟨by omega, by omega⟩) (congrFun (hA10307 11 rfl) _) dX12_tellQuery_128 ?_
                      refine g_iadd hk dX12_tellQuery_129 ?_
                      refine g_topi (fun y10314 ey10314 => ?_)
                      have hy10314 : y10314.toInt = y10313.toInt + (A9883 11 y6248.toNatClampNeg).toInt := i32_add ey10314 rfl rfl (by omega) (by omega)
                      refine g_aload_n hk dX12_tellQuery_130 rfl ?_
                      refine g_callV (n := 0) hk (j132_X12_readingTold l D zt r g I10307 A10307 L10307  hV10307) (SP.same _) (fun _ h => h) (gi_V (List.mem_cons_of_mem _ (List.mem_append_left _ (List.mem_of_getElem? (i := 23) rfl))) (List.mem_cons_of_mem _ (List.mem_append_left _ (List.mem_of_getElem? (i := 24) rfl))) (List.mem_cons_of_mem _ (List.mem_append_left _ (List.mem_of_getElem? (i := 25) rfl))) (List.mem_cons_of_mem _ (List.mem_append_left _ (List.mem_of_getElem? (i := 7) rfl))) (gi_sub (fun w h => (List.mem_cons_of_mem _ (List.mem_append_right _ (List.mem_append_right _ (List.mem_append_right _ (List.mem_append_right _ (List.mem_append_right _ (List.mem_append_right _ (List.mem_append_left _ h))))))))) zg_j132_X12_readingTold)) rfl rfl rfl (by decide +kernel) ⟨Nat.le_of_ble_eq_true rfl, Nat.le_of_ble_eq_true rfl⟩ 0 rfl rfl rfl rfl (Nat.le_of_ble_eq_true rfl) ⟨Nat.le_of_ble_eq_true rfl, Nat.le_of_ble_eq_true rfl⟩ dX12_tellQuery_131 (fun v ty' w' hp hk' => ?_)
                      obtain ⟨I10316, A10316, L10316, hI10316, hA10316, hV10316, y10315, r10317, r10318, r10319, r10320, rfl, rfl⟩ := hp
                      have f10321 := IvM_f4 hV10316
                      rw [show (I10307 4) = (I9883 4) from (hI10307 4 rfl)] at r10317
                      have f10322 := IvM_f6 hV10316
                      have f10323 := IvM_f8 hV10316
                      rw [show (I10307 8) = (I9883 8) from (hI10307 8 rfl)] at r10319
                      rw [show (I10307 4) = (I9883 4) from (hI10307 4 rfl)] at r10320
                      show GW κ 4 0 0 (wM r g I10316 A10316 L10316) 134 [(3, .int x6262), (2, .int (I 4)), (1, .int y6248), (0, .ref (r 0))] [.int y10315, .int y10314, .ref (r 13)]
                      refine sM_12 (j := y10314.toNatClampNeg) hk (vp_in_iff.mpr ⟨by omega, by omega⟩) rfl dX12_tellQuery_134 ?_
                      refine g_aload_n hk dX12_tellQuery_135 rfl ?_
                      refine gM_i6 (v := (I10316 6)) hk hin12 (List.mem_cons_of_mem _ (List.mem_append_left _ (List.mem_of_getElem? (i := 16) rfl))) dX12_tellQuery_136 rfl ?_
                      refine g_if_le (tgt := 143) (a := (I10316 6).toInt) hk dX12_tellQuery_139 (by decide) rfl (fun c10324 => ?_) (fun c10324 => ?_)
                      · skip
                        refine g_aload_n hk dX12_tellQuery_143 rfl ?_
                        refine gM_r0_29 hk hin12 (List.mem_cons_of_mem _ (List.mem_append_left _ (List.mem_of_getElem? (i := 9) rfl))) dX12_tellQuery_144 ?_
                        refine g_iload_n hk dX12_tellQuery_147 rfl ?_
                        refine g_dup2 hk dX12_tellQuery_148 rfl rfl ?_
                        refine lM_11 (v := (A9883 11 y6248.toNatClampNeg)) hk (vp_in_iff.mpr ⟨by omega, by omega⟩) ((congrFun (hA10316 11 rfl) _).trans (congrFun (hA10307 11 rfl) _)) dX12_tellQuery_149 ?_
                        refine g_iconst (v := 1) hk dX12_tellQuery_150 (by decide) ?_
                        refine g_iadd hk dX12_tellQuery_151 ?_
                        refine g_topi (fun y10325 ey10325 => ?_)
                        have hy10325 : y10325.toInt = (A9883 11 y6248.toNatClampNeg).toInt + 1 := i32_add ey10325 rfl rfl (by omega) (by omega)
                        refine sM_11 (j := y6248.toNatClampNeg) hk (vp_in_iff.mpr ⟨by omega, by omega⟩) rfl dX12_tellQuery_152 ?_
                        have hA10326 : ∀ j, 0 ≤ ((up3 (up3 A10316 12 (y10314.toNatClampNeg) y10315) 11 (y6248.toNatClampNeg) y10325) 11 j).toInt ∧ ((up3 (up3 A10316 12 (y10314.toNatClampNeg) y10315) 11 (y6248.toNatClampNeg) y10325) 11 j).toInt ≤ 16 := ai_st ((IvM_a11 hV10316)) ⟨by omega, by omega⟩
                        refine g_aload_n hk dX12_tellQuery_153 rfl ?_
                        refine g_dup hk dX12_tellQuery_154 rfl ?_
                        refine gM_i11 (v := (I9883 11)) hk hin12 (List.mem_cons_of_mem _ (List.mem_append_left _ (List.mem_of_getElem? (i := 0) rfl))) dX12_tellQuery_155 ((hI10316 11 rfl).trans (hI10307 11 rfl)) ?_
                        refine g_iconst (v := 1) hk dX12_tellQuery_158 (by decide) ?_
                        have b10327l := Int32.le_toInt (I9883 11)
                        have b10327h := Int32.toInt_lt (I9883 11)
                        refine g_iadd hk dX12_tellQuery_159 ?_
                        refine g_topi (fun y10328 ey10328 => ?_)
                        refine pM_i11 hk hin12 (List.mem_cons_of_mem _ (List.mem_append_left _ (List.mem_of_getElem? (i := 0) rfl))) dX12_tellQuery_160 ?_
                        refine g_goto (tgt := 84) hk dX12_tellQuery_163 (by decide) ?_
                        have g10329 : (I10316 15).toInt = (I 15).toInt := by rw [show (I10316 15) = (I 15) from ((hI10316 15 rfl).trans ((hI10307 15 rfl).trans ((hI9883 15 rfl).trans ((hI6266 15 rfl).trans (hI6252 15 rfl)))))]
                        have g10330 : (I10316 16).toInt = (I 16).toInt := by rw [show (I10316 16) = (I 16) from ((hI10316 16 rfl).trans ((hI10307 16 rfl).trans ((hI9883 16 rfl).trans ((hI6266 16 rfl).trans (hI6252 16 rfl)))))]
                        have g10331 := IvM_s10_0 (I := I10316) (A := A10316) hV10316
                        have g10332 := IvM_s10_1 (I := I10316) (A := A10316) hV10316
                        have q10333 := cl_int (y := y6248) (by omega)
                        have g10334 : (A10316 10 0).toInt = (A 10 0).toInt := by rw [show (A10316 10 0) = (A 10 0) from ((congrFun (hA10316 10 rfl) _).trans ((congrFun (hA10307 10 rfl) _).trans ((congrFun (hA9883 10 rfl) _).trans ((congrFun (hA6266 10 rfl) _).trans (congrFun (hA6252 10 rfl) _)))))]
                        have g10335 : (A10316 10 1).toInt = (A 10 1).toInt := by rw [show (A10316 10 1) = (A 10 1) from ((congrFun (hA10316 10 rfl) _).trans ((congrFun (hA10307 10 rfl) _).trans ((congrFun (hA9883 10 rfl) _).trans ((congrFun (hA6266 10 rfl) _).trans (congrFun (hA6252 10 rfl) _)))))]
                        have q10336 := cl_int (y := y6248) (by omega)
                        exact g_lv (List.forall_mem_cons.mpr ⟨List.mem_of_getElem? (i := 0) rfl, (List.forall_mem_cons.mpr ⟨List.mem_of_getElem? (i := 1) rfl, (List.forall_mem_cons.mpr ⟨List.mem_of_getElem? (i := 2) rfl, (List.forall_mem_cons.mpr ⟨List.mem_of_getElem? (i := 3) rfl, (fun _ h => absurd h List.not_mem_nil)⟩)⟩)⟩)⟩) (ih10171 (upd I10316 11 y10328) (up3 (up3 A10316 12 (y10314.toNatClampNeg) y10315) 11 (y6248.toNatClampNeg) y10325) L10316 (show Md [4, 6, 7, 8, 9, 11, 12, 13] I6266 (upd I10316 11 y10328) from Md.tr hI9883 (show Md [4, 6, 7, 8, 9, 11, 12, 13] I9883 (upd I10316 11 y10328) from (Md.up (Md.tr (Md.tr Md.rf hI10307 rfl) hI10316 rfl) rfl)) rfl) (show Md [11, 12] (up3 A6266 11 (y6248.toNatClampNeg) 0) (up3 (up3 A10316 12 (y10314.toNatClampNeg) y10315) 11 (y6248.toNatClampNeg) y10325) from Md.tr hA9883 (show Md [11, 12] A9883 (up3 (up3 A10316 12 (y10314.toNatClampNeg) y10315) 11 (y6248.toNatClampNeg) y10325) from (Md.up3 (Md.up3 (Md.tr (Md.tr Md.rf hA10307 rfl) hA10316 rfl) rfl) rfl)) rfl) ⟨(IvM_f1 (I := I10316) (A := A10316) hV10316), (IvM_f2 (I := I10316) (A := A10316) hV10316), (IvM_f3 (I := I10316) (A := A10316) hV10316), (IvM_f4 (I := I10316) (A := A10316) hV10316), (IvM_f6 (I := I10316) (A := A10316) hV10316), (IvM_f8 (I := I10316) (A := A10316) hV10316), (IvM_f15 (I := I10316) (A := A10316) hV10316), (IvM_f16 (I := I10316) (A := A10316) hV10316), (IvM_f17 (I := I10316) (A := A10316) hV10316), (IvM_f18 (I := I10316) (A := A10316) hV10316), (IvM_f22 (I := I10316) (A := A10316) hV10316), (IvM_f23 (I := I10316) (A := A10316) hV10316), (IvM_f24 (I := I10316) (A := A10316) hV10316), hA10326, (IvM_a26 (I := I10316) (A := A10316) hV10316), (IvM_s8_0 (I := I10316) (A := A10316) hV10316), (IvM_s8_1 (I := I10316) (A := A10316) hV10316), (IvM_s10_0 (I := I10316) (A := A10316) hV10316), (IvM_s10_1 (I := I10316) (A := A10316) hV10316), (IvM_s17_0 (I := I10316) (A := A10316) hV10316), (IvM_s17_164 (I := I10316) (A := A10316) hV10316), ⟨fun e => by have e : (I10316 15).toInt = 0 := e; first | exact ghf_upd (n := (A10316 10 0)) ((IvM_lv (I := I10316) (A := A10316) hV10316).1 e) (fun q hq => by omega) | (exfalso; omega), fun e => by have e : (I10316 15).toInt = 1 := e; first | exact ghf_upd (n := (A10316 10 1)) ((IvM_lv (I := I10316) (A := A10316) hV10316).2 e) (fun q hq => by omega) | (exfalso; omega)⟩, (by rcases (IvM_sd (I := I10316) (A := A10316) hV10316) with h9 | h9 | h9; exact Or.inl h9; exact Or.inr (Or.inl h9); exact Or.inr (Or.inr ⟨fun e => by have e : (I10316 16).toInt = 0 := e; first | exact ghf_upd (n := (A10316 10 0)) (h9.1 e) (fun q hq => by omega) | (exfalso; omega), fun e => by have e : (I10316 16).toInt = 1 := e; first | exact ghf_upd (n := (A10316 10 1)) (h9.2 e) (fun q hq => by omega) | (exfalso; omega)⟩)), (IvM_nq (I := I10316) (A := A10316) hV10316), (IvM_hr (I := I10316) (A := A10316) hV10316), (IvM_hh (I := I10316) (A := A10316) hV10316), trivial⟩ (by first | (rw [show ((upd I10316 11 y10328) 4) = (I10316 4) from rfl] <;> omega) | omega) (by first | (rw [show ((upd I10316 11 y10328) 6) = (I10316 6) from rfl] <;> omega) | omega) (by first | (rw [show ((upd I10316 11 y10328) 8) = (I10316 8) from rfl] <;> omega) | omega) (by first | (rw [show ((upd I10316 11 y10328) 4) = (I10316 4) from rfl] <;> omega) | omega) (by omega))
                      · skip
                        exact g_vret hk hR ⟨I10316, (up3 A10316 12 (y10314.toNatClampNeg) y10315), L10316, (show Md [4, 6, 7, 8, 9, 11, 12, 13, 17] I I10316 from (Md.tr (Md.tr (Md.tr (Md.tr (Md.tr (Md.up Md.rf rfl) hI6252 rfl) hI6266 rfl) hI9883 rfl) hI10307 rfl) hI10316 rfl)), (show Md [10, 11, 12] A (up3 A10316 12 (y10314.toNatClampNeg) y10315) from (Md.up3 (Md.tr (Md.tr (Md.tr (Md.up3 (Md.tr (Md.tr Md.rf hA6252 rfl) hA6266 rfl) rfl) hA9883 rfl) hA10307 rfl) hA10316 rfl) rfl)), ⟨(IvM_f1 (I := I10316) (A := A10316) hV10316), (IvM_f2 (I := I10316) (A := A10316) hV10316), (IvM_f3 (I := I10316) (A := A10316) hV10316), (IvM_f4 (I := I10316) (A := A10316) hV10316), (IvM_f6 (I := I10316) (A := A10316) hV10316), (IvM_f8 (I := I10316) (A := A10316) hV10316), (IvM_f15 (I := I10316) (A := A10316) hV10316), (IvM_f16 (I := I10316) (A := A10316) hV10316), (IvM_f17 (I := I10316) (A := A10316) hV10316), (IvM_f18 (I := I10316) (A := A10316) hV10316), (IvM_f22 (I := I10316) (A := A10316) hV10316), (IvM_f23 (I := I10316) (A := A10316) hV10316), (IvM_f24 (I := I10316) (A := A10316) hV10316), (IvM_a11 (I := I10316) (A := A10316) hV10316), (IvM_a26 (I := I10316) (A := A10316) hV10316), (IvM_s8_0 (I := I10316) (A := A10316) hV10316), (IvM_s8_1 (I := I10316) (A := A10316) hV10316), (IvM_s10_0 (I := I10316) (A := A10316) hV10316), (IvM_s10_1 (I := I10316) (A := A10316) hV10316), (IvM_s17_0 (I := I10316) (A := A10316) hV10316), (IvM_s17_164 (I := I10316) (A := A10316) hV10316), (IvM_lv (I := I10316) (A := A10316) hV10316), (IvM_sd (I := I10316) (A := A10316) hV10316), (IvM_nq (I := I10316) (A := A10316) hV10316), (IvM_hr (I := I10316) (A := A10316) hV10316), (IvM_hh (I := I10316) (A := A10316) hV10316), trivial⟩, (by omega), (by omega), (by omega), rfl, rfl⟩ dX12_tellQuery_142
                    · skip
                      exact g_vret hk hR ⟨I10307, A10307, L10307, (show Md [4, 6, 7, 8, 9, 11, 12, 13, 17] I I10307 from (Md.tr (Md.tr (Md.tr (Md.tr (Md.up Md.rf rfl) hI6252 rfl) hI6266 rfl) hI9883 rfl) hI10307 rfl)), (show Md [10, 11, 12] A A10307 from (Md.tr (Md.tr (Md.up3 (Md.tr (Md.tr Md.rf hA6252 rfl) hA6266 rfl) rfl) hA9883 rfl) hA10307 rfl)), hV10307, (by rw [show (I10307 4) = (I9883 4) from (hI10307 4 rfl)] <;> omega), (by omega), (by rw [show (I10307 8) = (I9883 8) from (hI10307 8 rfl)] <;> omega), rfl, rfl⟩ dX12_tellQuery_114
            obtain ⟨n10337, n10337a, n10337b⟩ : ∃ n : Nat, 401 - (I6252 4).toInt < (n : Int) ∧ 0 < n := ⟨((401 - (I6252 4).toInt : Int)).toNat + 1, by omega, by omega⟩
            have g10338 : (I6266 15).toInt = (I 15).toInt := by rw [show (I6266 15) = (I 15) from ((hI6266 15 rfl).trans (hI6252 15 rfl))]
            have g10339 : (I6266 16).toInt = (I 16).toInt := by rw [show (I6266 16) = (I 16) from ((hI6266 16 rfl).trans (hI6252 16 rfl))]
            have g10340 := IvM_s10_0 (I := I6266) (A := A6266) hV6266
            have g10341 := IvM_s10_1 (I := I6266) (A := A6266) hV6266
            have q10342 := cl_int (y := y6248) (by omega)
            have g10343 : (A6266 10 0).toInt = (A 10 0).toInt := by rw [show (A6266 10 0) = (A 10 0) from ((congrFun (hA6266 10 rfl) _).trans (congrFun (hA6252 10 rfl) _))]
            have g10344 : (A6266 10 1).toInt = (A 10 1).toInt := by rw [show (A6266 10 1) = (A 10 1) from ((congrFun (hA6266 10 rfl) _).trans (congrFun (hA6252 10 rfl) _))]
            have g10345 : (I6266 6).toInt = (I6252 6).toInt := by rw [show (I6266 6) = (I6252 6) from (hI6266 6 rfl)]
            have q10346 := cl_int (y := y6248) (by omega)
            exact lp10168 n10337 I6266 (up3 A6266 11 (y6248.toNatClampNeg) 0) L6266 Md.rf Md.rf ⟨(IvM_f1 (I := I6266) (A := A6266) hV6266), (IvM_f2 (I := I6266) (A := A6266) hV6266), (IvM_f3 (I := I6266) (A := A6266) hV6266), (IvM_f4 (I := I6266) (A := A6266) hV6266), (IvM_f6 (I := I6266) (A := A6266) hV6266), (IvM_f8 (I := I6266) (A := A6266) hV6266), (IvM_f15 (I := I6266) (A := A6266) hV6266), (IvM_f16 (I := I6266) (A := A6266) hV6266), (IvM_f17 (I := I6266) (A := A6266) hV6266), (IvM_f18 (I := I6266) (A := A6266) hV6266), (IvM_f22 (I := I6266) (A := A6266) hV6266), (IvM_f23 (I := I6266) (A := A6266) hV6266), (IvM_f24 (I := I6266) (A := A6266) hV6266), hA9878, (IvM_a26 (I := I6266) (A := A6266) hV6266), (IvM_s8_0 (I := I6266) (A := A6266) hV6266), (IvM_s8_1 (I := I6266) (A := A6266) hV6266), (IvM_s10_0 (I := I6266) (A := A6266) hV6266), (IvM_s10_1 (I := I6266) (A := A6266) hV6266), (IvM_s17_0 (I := I6266) (A := A6266) hV6266), (IvM_s17_164 (I := I6266) (A := A6266) hV6266), ⟨fun e => by have e : (I6266 15).toInt = 0 := e; first | exact ghf_upd (n := (A6266 10 0)) ((IvM_lv (I := I6266) (A := A6266) hV6266).1 e) (fun q hq => by omega) | (exfalso; omega), fun e => by have e : (I6266 15).toInt = 1 := e; first | exact ghf_upd (n := (A6266 10 1)) ((IvM_lv (I := I6266) (A := A6266) hV6266).2 e) (fun q hq => by omega) | (exfalso; omega)⟩, (by rcases (IvM_sd (I := I6266) (A := A6266) hV6266) with h9 | h9 | h9; exact Or.inl h9; exact Or.inr (Or.inl h9); exact Or.inr (Or.inr ⟨fun e => by have e : (I6266 16).toInt = 0 := e; first | exact ghf_upd (n := (A6266 10 0)) (h9.1 e) (fun q hq => by omega) | (exfalso; omega), fun e => by have e : (I6266 16).toInt = 1 := e; first | exact ghf_upd (n := (A6266 10 1)) (h9.2 e) (fun q hq => by omega) | (exfalso; omega)⟩)), (IvM_nq (I := I6266) (A := A6266) hV6266), (IvM_hr (I := I6266) (A := A6266) hV6266), (IvM_hh (I := I6266) (A := A6266) hV6266), trivial⟩ (by first | (rw [show (I6266 4) = (I6252 4) from (hI6266 4 rfl)] <;> omega) | omega) (by first | (rw [show (I6266 6) = (I6252 6) from (hI6266 6 rfl)] <;> omega) | omega) (by omega) (by first | exact n10337a | (rw [show (I6266 4) = (I6252 4) from (hI6266 4 rfl)] <;> exact n10337a)) n10337b
          · skip
            refine g_aload_n hk dX12_tellQuery_42 rfl ?_
            refine gM_i6 (v := (I6252 6)) hk hin12 (List.mem_cons_of_mem _ (List.mem_append_left _ (List.mem_of_getElem? (i := 16) rfl))) dX12_tellQuery_43 (hI6266 6 rfl) ?_
            refine g_if_ne (tgt := 77) (a := (I6252 6).toInt) hk dX12_tellQuery_46 (by decide) rfl (fun c10347 => ?_) (fun c10347 => ?_)
            · skip
              refine g_aload_n hk dX12_tellQuery_77 rfl ?_
              refine gM_r0_29 hk hin12 (List.mem_cons_of_mem _ (List.mem_append_left _ (List.mem_of_getElem? (i := 9) rfl))) dX12_tellQuery_78 ?_
              refine g_iload_n hk dX12_tellQuery_81 rfl ?_
              refine g_iconst (v := 0) hk dX12_tellQuery_82 (by decide) ?_
              have k10348 : (0 : Int32).toInt = 0 := rfl
              refine sM_11 (j := y6248.toNatClampNeg) hk (vp_in_iff.mpr ⟨by omega, by omega⟩) rfl dX12_tellQuery_83 ?_
              have hA10349 : ∀ j, 0 ≤ ((up3 A6266 11 (y6248.toNatClampNeg) 0) 11 j).toInt ∧ ((up3 A6266 11 (y6248.toNatClampNeg) 0) 11 j).toInt ≤ 16 := ai_st ((IvM_a11 hV6266)) ⟨by omega, by omega⟩
              have f10614 := IvM_f4 hIv
              have f10615 := IvM_f6 hIv
              have f10616 := IvM_f8 hIv
              have lp10620 : ∀ (n10621 : Nat) (I10354 : Nat → Int32) (A10354 : Nat → Nat → Int32) (L10354 : Nat → Nat → Int64), (Md [4, 6, 7, 8, 9, 11, 12, 13] I6266 I10354) → (Md [11, 12] (up3 A6266 11 (y6248.toNatClampNeg) 0) A10354) → (IvM I10354 A10354) → ((I 4).toInt ≤ (I10354 4).toInt) → ((I 6).toInt ≤ (I10354 6).toInt) → ((I 8).toInt ≤ 9 * (I10354 8).toInt) → (401 - (I10354 4).toInt < (n10621 : Int)) → (0 < n10621) → GW κ 4 0 0 (wM r g I10354 A10354 L10354) 84 [(3, .int x6262), (2, .int (I 4)), (1, .int y6248), (0, .ref (r 0))] [] := by
                intro n10621
                induction n10621 with
                | zero =>
                  intro I10354 A10354 L10354 hI10354 hA10354 hV10354 h10617 h10618 h10619 m10622 m10622z
                  exact absurd m10622z (Nat.lt_irrefl 0)
                | succ n10621 ih10623 =>
                  intro I10354 A10354 L10354 hI10354 hA10354 hV10354 h10617 h10618 h10619 m10622 m10622z
                  have f10624 := IvM_f4 hV10354
                  have f10625 := IvM_f6 hV10354
                  have f10626 := IvM_f8 hV10354
                  refine g_aload_n hk dX12_tellQuery_84 rfl ?_
                  refine g_callV (n := 0) hk (j130_X12_isReading l D zt r g I10354 A10354 L10354  hV10354) (SP.same _) (fun _ h => h) (gi_V (List.mem_cons_of_mem _ (List.mem_append_left _ (List.mem_of_getElem? (i := 10) rfl))) (List.mem_cons_of_mem _ (List.mem_append_left _ (List.mem_of_getElem? (i := 11) rfl))) (List.mem_cons_of_mem _ (List.mem_append_left _ (List.mem_of_getElem? (i := 12) rfl))) (List.mem_cons_of_mem _ (List.mem_append_left _ (List.mem_of_getElem? (i := 7) rfl))) (gi_sub (fun w h => (List.mem_cons_of_mem _ (List.mem_append_right _ (List.mem_append_right _ (List.mem_append_right _ (List.mem_append_left _ h)))))) zg_j130_X12_isReading)) rfl rfl rfl (by decide +kernel) ⟨Nat.le_of_ble_eq_true rfl, Nat.le_of_ble_eq_true rfl⟩ 0 rfl rfl rfl rfl (Nat.le_of_ble_eq_true rfl) ⟨Nat.le_of_ble_eq_true rfl, Nat.le_of_ble_eq_true rfl⟩ dX12_tellQuery_85 (fun v ty' w' hp hk' => ?_)
                  rcases hp with ⟨rfl, rfl⟩ | ⟨rfl, rfl⟩
                  · skip
                    show GW κ 4 0 0 (wM r g I10354 A10354 L10354) 88 [(3, .int x6262), (2, .int (I 4)), (1, .int y6248), (0, .ref (r 0))] [.int 0]
                    refine g_if_eq (tgt := 166) (a := 0) hk dX12_tellQuery_88 (by decide) rfl (fun _ => ?_) (fun z9 => absurd (show (0 : Int) = (0 : Int) from by decide) z9)
                    refine g_aload_n hk dX12_tellQuery_166 rfl ?_
                    refine g_iconst (v := 4) hk dX12_tellQuery_167 (by decide) ?_
                    have k10629 : (4 : Int32).toInt = 4 := rfl
                    refine g_callV (n := 1) hk (j125_X12_is l D zt r g I10354 A10354 L10354 4 hV10354) (SP.same _) (fun _ h => h) (gi_V (List.mem_cons_of_mem _ (List.mem_append_left _ (List.mem_of_getElem? (i := 13) rfl))) (List.mem_cons_of_mem _ (List.mem_append_left _ (List.mem_of_getElem? (i := 14) rfl))) (List.mem_cons_of_mem _ (List.mem_append_left _ (List.mem_of_getElem? (i := 15) rfl))) (List.mem_cons_of_mem _ (List.mem_append_left _ (List.mem_of_getElem? (i := 7) rfl))) (gi_sub (fun w h => (List.mem_cons_of_mem _ (List.mem_append_right _ (List.mem_append_right _ (List.mem_append_right _ (List.mem_append_right _ (List.mem_append_left _ h))))))) zg_j125_X12_is)) rfl rfl rfl (by decide +kernel) ⟨Nat.le_of_ble_eq_true rfl, Nat.le_of_ble_eq_true rfl⟩ 0 rfl rfl rfl rfl (Nat.le_of_ble_eq_true rfl) ⟨Nat.le_of_ble_eq_true rfl, Nat.le_of_ble_eq_true rfl⟩ dX12_tellQuery_168 (fun v ty' w' hp hk' => ?_)
                    rcases hp with ⟨c10630, rfl, rfl⟩ | ⟨c10632, rfl, rfl⟩
                    · skip
                      rw [show (A10354 2 (I10354 4).toNatClampNeg) = (A 2 (I10354 4).toNatClampNeg) from ((congrFun (hA10354 2 rfl) _).trans ((congrFun (hA6266 2 rfl) _).trans (congrFun (hA6252 2 rfl) _)))] at c10630
                      show GW κ 4 0 0 (wM r g I10354 A10354 L10354) 171 [(3, .int x6262), (2, .int (I 4)), (1, .int y6248), (0, .ref (r 0))] [.int 0]
                      refine g_if_eq (tgt := 194) (a := 0) hk dX12_tellQuery_171 (by decide) rfl (fun _ => ?_) (fun z9 => absurd (show (0 : Int) = (0 : Int) from by decide) z9)
                      refine g_aload_n hk dX12_tellQuery_194 rfl ?_
                      refine g_iconst (v := 4) hk dX12_tellQuery_195 (by decide) ?_
                      refine g_callV (n := 1) hk (j131_X12_must l D zt r g I10354 A10354 L10354 4 hV10354) (SP.same _) (fun _ h => h) (gi_V (List.mem_cons_of_mem _ (List.mem_append_left _ (List.mem_of_getElem? (i := 4) rfl))) (List.mem_cons_of_mem _ (List.mem_append_left _ (List.mem_of_getElem? (i := 5) rfl))) (List.mem_cons_of_mem _ (List.mem_append_left _ (List.mem_of_getElem? (i := 6) rfl))) (List.mem_cons_of_mem _ (List.mem_append_left _ (List.mem_of_getElem? (i := 7) rfl))) (gi_sub (fun w h => (List.mem_cons_of_mem _ (List.mem_append_right _ (List.mem_append_right _ (List.mem_append_left _ h))))) zg_j131_X12_must)) rfl rfl rfl (by decide +kernel) ⟨Nat.le_of_ble_eq_true rfl, Nat.le_of_ble_eq_true rfl⟩ 0 rfl rfl rfl rfl (Nat.le_of_ble_eq_true rfl) ⟨Nat.le_of_ble_eq_true rfl, Nat.le_of_ble_eq_true rfl⟩ dX12_tellQuery_196 (fun v ty' w' hp hk' => ?_)
                      obtain ⟨I10635, A10635, L10635, hI10635, hA10635, hV10635, r10636, r10637, r10638, r10639, r10640, rfl, rfl⟩ := hp
                      have f10641 := IvM_f4 hV10635
                      have f10642 := IvM_f6 hV10635
                      rw [show (I10635 8) = (I10354 8) from (hI10635 8 rfl)] at r10638
                      rw [show (A10354 2 (I10354 4).toNatClampNeg) = (A 2 (I10354 4).toNatClampNeg) from ((congrFun (hA10354 2 rfl) _).trans ((congrFun (hA6266 2 rfl) _).trans (congrFun (hA6252 2 rfl) _)))] at r10640
                      show GW κ 4 0 0 (wM r g I10635 A10635 L10635) 199 [(3, .int x6262), (2, .int (I 4)), (1, .int y6248), (0, .ref (r 0))] []
                      refine g_aload_n hk dX12_tellQuery_199 rfl ?_
                      refine gM_i6 (v := (I10635 6)) hk hin12 (List.mem_cons_of_mem _ (List.mem_append_left _ (List.mem_of_getElem? (i := 16) rfl))) dX12_tellQuery_200 rfl ?_
                      refine g_if_le (tgt := 207) (a := (I10635 6).toInt) hk dX12_tellQuery_203 (by decide) rfl (fun c10643 => ?_) (fun c10643 => ?_)
                      · skip
                        refine g_aload_n hk dX12_tellQuery_207 rfl ?_
                        refine g_bipush (v := (-2)) hk dX12_tellQuery_208 (by decide) ?_
                        refine pM_i11 hk hin12 (List.mem_cons_of_mem _ (List.mem_append_left _ (List.mem_of_getElem? (i := 0) rfl))) dX12_tellQuery_210 ?_
                        refine g_aload_n hk dX12_tellQuery_213 rfl ?_
                        refine gM_r0_25 hk hin12 (List.mem_cons_of_mem _ (List.mem_append_left _ (List.mem_of_getElem? (i := 17) rfl))) dX12_tellQuery_214 ?_
                        refine g_aload_n hk dX12_tellQuery_217 rfl ?_
                        refine gM_i17 (v := (I 17)) hk hin12 (List.mem_cons_of_mem _ (List.mem_append_left _ (List.mem_of_getElem? (i := 8) rfl))) dX12_tellQuery_218 ((hI10635 17 rfl).trans ((hI10354 17 rfl).trans ((hI6266 17 rfl).trans (hI6252 17 rfl)))) ?_
                        have g10644 : (I10635 16).toInt = (I 16).toInt := by rw [show (I10635 16) = (I 16) from ((hI10635 16 rfl).trans ((hI10354 16 rfl).trans ((hI6266 16 rfl).trans (hI6252 16 rfl))))]
                        have g10645 : (I10635 17).toInt = (I 17).toInt := by rw [show (I10635 17) = (I 17) from ((hI10635 17 rfl).trans ((hI10354 17 rfl).trans ((hI6266 17 rfl).trans (hI6252 17 rfl))))]
                        have g10646 : (A10635 10 0).toInt = (A 10 0).toInt := by rw [show (A10635 10 0) = (A 10 0) from ((congrFun (hA10635 10 rfl) _).trans ((congrFun (hA10354 10 rfl) _).trans ((congrFun (hA6266 10 rfl) _).trans (congrFun (hA6252 10 rfl) _))))]
                        have g10647 : (A10635 10 1).toInt = (A 10 1).toInt := by rw [show (A10635 10 1) = (A 10 1) from ((congrFun (hA10635 10 rfl) _).trans ((congrFun (hA10354 10 rfl) _).trans ((congrFun (hA6266 10 rfl) _).trans (congrFun (hA6252 10 rfl) _))))]
                        have g10648 := (IvM_nq (I := I10635) (A := A10635) hV10635).1 (by omega)
                        refine g_aload_n hk dX12_tellQuery_221 rfl ?_
                        refine gM_r0_8 hk hin12 (List.mem_cons_of_mem _ (List.mem_append_left _ (List.mem_of_getElem? (i := 18) rfl))) dX12_tellQuery_222 ?_
                        refine g_iload_n hk dX12_tellQuery_225 rfl ?_
                        refine lM_5 hk (vp_in_iff.mpr ⟨by omega, by omega⟩) rfl dX12_tellQuery_226 ?_
                        refine g_topl (fun y10649 ey10649 => ?_)
                        refine sM_7 (j := (I 17).toNatClampNeg) hk (vp_in_iff.mpr ⟨by omega, by omega⟩) rfl dX12_tellQuery_227 ?_
                        refine g_aload_n hk dX12_tellQuery_228 rfl ?_
                        refine g_dup hk dX12_tellQuery_229 rfl ?_
                        refine gM_i17 (v := (I 17)) hk hin12 (List.mem_cons_of_mem _ (List.mem_append_left _ (List.mem_of_getElem? (i := 8) rfl))) dX12_tellQuery_230 ((hI10635 17 rfl).trans ((hI10354 17 rfl).trans ((hI6266 17 rfl).trans (hI6252 17 rfl)))) ?_
                        refine g_iconst (v := 1) hk dX12_tellQuery_233 (by decide) ?_
                        refine g_iadd hk dX12_tellQuery_234 ?_
                        refine g_topi (fun y10650 ey10650 => ?_)
                        have hy10650 : y10650.toInt = (I 17).toInt + 1 := i32_add ey10650 rfl rfl (by omega) (by omega)
                        refine pM_i17 hk hin12 (List.mem_cons_of_mem _ (List.mem_append_left _ (List.mem_of_getElem? (i := 8) rfl))) dX12_tellQuery_235 ?_
                        refine g_aload_n hk dX12_tellQuery_238 rfl ?_
                        refine gM_r0_28 hk hin12 (List.mem_cons_of_mem _ (List.mem_append_left _ (List.mem_of_getElem? (i := 2) rfl))) dX12_tellQuery_239 ?_
                        refine g_aload_n hk dX12_tellQuery_242 rfl ?_
                        refine gM_i16 (v := (I 16)) hk hin12 (List.mem_cons_of_mem _ (List.mem_append_left _ (List.mem_of_getElem? (i := 1) rfl))) dX12_tellQuery_243 ((hI10635 16 rfl).trans ((hI10354 16 rfl).trans ((hI6266 16 rfl).trans (hI6252 16 rfl)))) ?_
                        by_cases c10651 : (I 16).toInt = 0
                        · have ec10651 : (I 16) = 0 := Int32.toInt_inj.mp c10651
                          rw [ec10651]
                          show GW κ 4 0 0 (wM r g (upd (upd I10635 11 (-2)) 17 y10650) A10635 (up3L L10635 7 ((I 17).toNatClampNeg) y10649)) 246 [(3, .int x6262), (2, .int (I 4)), (1, .int y6248), (0, .ref (r 0))] [.int 0, .ref (r 11)]
                          refine g_dup2 hk dX12_tellQuery_246 rfl rfl ?_
                          refine lM_10 (v := (A 10 0)) hk (vp_in_iff.mpr ⟨by decide, by decide⟩) ((congrFun (hA10635 10 rfl) _).trans ((congrFun (hA10354 10 rfl) _).trans ((congrFun (hA6266 10 rfl) _).trans (congrFun (hA6252 10 rfl) _)))) dX12_tellQuery_247 ?_
                          refine g_iconst (v := 1) hk dX12_tellQuery_248 (by decide) ?_
                          refine g_iadd hk dX12_tellQuery_249 ?_
                          refine g_topi (fun y10652 ey10652 => ?_)
                          have hy10652 : y10652.toInt = (A 10 0).toInt + 1 := i32_add ey10652 rfl rfl (by omega) (by omega)
                          refine sM_10 (j := 0) hk (vp_in_iff.mpr ⟨by decide, by decide⟩) (by decide) dX12_tellQuery_250 ?_
                          have f10653 := IvM_s10_0 hV10635
                          have f10654 := IvM_s10_1 hV10635
                          have g10655 : (I10635 15).toInt = (I 15).toInt := by rw [show (I10635 15) = (I 15) from ((hI10635 15 rfl).trans ((hI10354 15 rfl).trans ((hI6266 15 rfl).trans (hI6252 15 rfl))))]
                          have g10656 := IvM_s10_0 (I := I10635) (A := A10635) hV10635
                          have g10657 := IvM_s10_1 (I := I10635) (A := A10635) hV10635
                          have g10658 : (I10635 8).toInt = (I10354 8).toInt := by rw [show (I10635 8) = (I10354 8) from (hI10635 8 rfl)]
                          have q10659 := cl_int (y := y6248) (by omega)
                          have g10660 : (A10635 11 y6248.toNatClampNeg).toInt = (A10354 11 y6248.toNatClampNeg).toInt := by rw [show (A10635 11 y6248.toNatClampNeg) = (A10354 11 y6248.toNatClampNeg) from (congrFun (hA10635 11 rfl) _)]
                          have u10661 : (I10354 6).toInt ≠ 0 ∨ (A 2 (I10354 4).toNatClampNeg).toInt ≠ (4 : Int32).toInt := c10630
                          have u10662 : 0 < (I10635 6).toInt ∨ ((I10354 6).toInt = 0 ∧ (A 2 (I10354 4).toNatClampNeg).toInt = (4 : Int32).toInt) := r10640
                          exact g_vret hk hR ⟨(upd (upd I10635 11 (-2)) 17 y10650), (up3 A10635 10 0 y10652), (up3L L10635 7 ((I 17).toNatClampNeg) y10649), (show Md [4, 6, 7, 8, 9, 11, 12, 13, 17] I (upd (upd I10635 11 (-2)) 17 y10650) from (Md.up (Md.up (Md.tr (Md.tr (Md.tr (Md.tr (Md.up Md.rf rfl) hI6252 rfl) hI6266 rfl) hI10354 rfl) hI10635 rfl) rfl) rfl)), (show Md [10, 11, 12] A (up3 A10635 10 0 y10652) from (Md.up3 (Md.tr (Md.tr (Md.up3 (Md.tr (Md.tr Md.rf hA6252 rfl) hA6266 rfl) rfl) hA10354 rfl) hA10635 rfl) rfl)), ⟨(IvM_f1 (I := I10635) (A := A10635) hV10635), (IvM_f2 (I := I10635) (A := A10635) hV10635), (IvM_f3 (I := I10635) (A := A10635) hV10635), (IvM_f4 (I := I10635) (A := A10635) hV10635), (IvM_f6 (I := I10635) (A := A10635) hV10635), (IvM_f8 (I := I10635) (A := A10635) hV10635), (IvM_f15 (I := I10635) (A := A10635) hV10635), (IvM_f16 (I := I10635) (A := A10635) hV10635), (show 0 ≤ y10650.toInt ∧ y10650.toInt ≤ 5 from ⟨by omega, by omega⟩), (IvM_f18 (I := I10635) (A := A10635) hV10635), (IvM_f22 (I := I10635) (A := A10635) hV10635), (IvM_f23 (I := I10635) (A := A10635) hV10635), (IvM_f24 (I := I10635) (A := A10635) hV10635), (IvM_a11 (I := I10635) (A := A10635) hV10635), (IvM_a26 (I := I10635) (A := A10635) hV10635), (IvM_s8_0 (I := I10635) (A := A10635) hV10635), (IvM_s8_1 (I := I10635) (A := A10635) hV10635), (show 0 ≤ ((up3 A10635 10 0 y10652) 10 0).toInt ∧ ((up3 A10635 10 0 y10652) 10 0).toInt ≤ 5 from by rw [show (up3 A10635 10 0 y10652) 10 0 = y10652 from rfl]; exact ⟨by omega, by omega⟩), (show 0 ≤ ((up3 A10635 10 0 y10652) 10 1).toInt ∧ ((up3 A10635 10 0 y10652) 10 1).toInt ≤ 5 from by rw [show (up3 A10635 10 0 y10652) 10 1 = (A10635 10 1) from rfl]; exact ⟨by omega, by omega⟩), (IvM_s17_0 (I := I10635) (A := A10635) hV10635), (IvM_s17_164 (I := I10635) (A := A10635) hV10635), ⟨fun e => by have e : (I10635 15).toInt = 0 := e; first | exact (IvM_lv (I := I10635) (A := A10635) hV10635).1 e | (exfalso; omega), fun e => by have e : (I10635 15).toInt = 1 := e; first | exact (IvM_lv (I := I10635) (A := A10635) hV10635).2 e | (exfalso; omega)⟩, (by first | (exfalso; omega) | (by_cases g8 : (I10635 8).toInt ≠ 0; exact Or.inr (Or.inl g8); rcases (IvM_sd (I := I10635) (A := A10635) hV10635) with h9 | h9 | h9; exact absurd h9 (by omega); exact absurd h9 g8; exact Or.inr (Or.inr ⟨fun e => by have e : (I10635 16).toInt = 0 := e; first | exact ghf_add (n := (A10635 10 0)) (f := (A10635 11)) (n2 := y10652) (p := y6248.toNatClampNeg) (h9.1 e) (by omega) (by omega) (by omega) | (exfalso; omega), fun e => by have e : (I10635 16).toInt = 1 := e; first | exact ghf_add (n := (A10635 10 1)) (f := (A10635 11)) (n2 := y10652) (p := y6248.toNatClampNeg) (h9.2 e) (by omega) (by omega) (by omega) | (exfalso; omega)⟩))), ⟨fun e => by have e : (I10635 16).toInt = 0 := e; first | (exfalso; omega) | (show y10650.toInt = y10652.toInt; omega), fun e => by have e : (I10635 16).toInt = 1 := e; first | (exfalso; omega) | (show y10650.toInt = (A10635 10 1).toInt; omega)⟩, (IvM_hr (I := I10635) (A := A10635) hV10635), (IvM_hh (I := I10635) (A := A10635) hV10635), trivial⟩, (by rw [show ((upd (upd I10635 11 (-2)) 17 y10650) 4) = (I10635 4) from rfl] <;> omega), (by rw [show ((upd (upd I10635 11 (-2)) 17 y10650) 6) = (I10635 6) from rfl] <;> omega), (by rw [show ((upd (upd I10635 11 (-2)) 17 y10650) 8) = (I10354 8) from (hI10635 8 rfl)] <;> omega), rfl, rfl⟩ dX12_tellQuery_251
                        exfalso; omega
                      · skip
                        exact g_vret hk hR ⟨I10635, A10635, L10635, (show Md [4, 6, 7, 8, 9, 11, 12, 13, 17] I I10635 from (Md.tr (Md.tr (Md.tr (Md.tr (Md.up Md.rf rfl) hI6252 rfl) hI6266 rfl) hI10354 rfl) hI10635 rfl)), (show Md [10, 11, 12] A A10635 from (Md.tr (Md.tr (Md.up3 (Md.tr (Md.tr Md.rf hA6252 rfl) hA6266 rfl) rfl) hA10354 rfl) hA10635 rfl)), hV10635, (by omega), (by omega), (by rw [show (I10635 8) = (I10354 8) from (hI10635 8 rfl)] <;> omega), rfl, rfl⟩ dX12_tellQuery_206
                    · skip
                      rw [show (A10354 2 (I10354 4).toNatClampNeg) = (A 2 (I10354 4).toNatClampNeg) from ((congrFun (hA10354 2 rfl) _).trans ((congrFun (hA6266 2 rfl) _).trans (congrFun (hA6252 2 rfl) _)))] at c10632
                      show GW κ 4 0 0 (wM r g I10354 A10354 L10354) 171 [(3, .int x6262), (2, .int (I 4)), (1, .int y6248), (0, .ref (r 0))] [.int 1]
                      refine g_if_eq (tgt := 194) (a := 1) hk dX12_tellQuery_171 (by decide) rfl (fun z9 => absurd z9 (show ¬ ((1 : Int) = (0 : Int)) from by decide)) (fun _ => ?_)
                      refine g_aload_n hk dX12_tellQuery_174 rfl ?_
                      refine gM_r0_29 hk hin12 (List.mem_cons_of_mem _ (List.mem_append_left _ (List.mem_of_getElem? (i := 9) rfl))) dX12_tellQuery_175 ?_
                      refine g_iload_n hk dX12_tellQuery_178 rfl ?_
                      refine lM_11 (v := (A10354 11 y6248.toNatClampNeg)) hk (vp_in_iff.mpr ⟨by omega, by omega⟩) rfl dX12_tellQuery_179 ?_
                      have f10663 := IvM_a11 hV10354 (y6248.toNatClampNeg)
                      refine g_iconst (v := 2) hk dX12_tellQuery_180 (by decide) ?_
                      refine g_icmp_ge (tgt := 194) (a := (A10354 11 y6248.toNatClampNeg).toInt) (b := 2) hk dX12_tellQuery_181 (by decide) rfl rfl (fun c10664 => ?_) (fun c10664 => ?_)
                      · skip
                        refine g_aload_n hk dX12_tellQuery_194 rfl ?_
                        refine g_iconst (v := 4) hk dX12_tellQuery_195 (by decide) ?_
                        refine g_callV (n := 1) hk (j131_X12_must l D zt r g I10354 A10354 L10354 4 hV10354) (SP.same _) (fun _ h => h) (gi_V (List.mem_cons_of_mem _ (List.mem_append_left _ (List.mem_of_getElem? (i := 4) rfl))) (List.mem_cons_of_mem _ (List.mem_append_left _ (List.mem_of_getElem? (i := 5) rfl))) (List.mem_cons_of_mem _ (List.mem_append_left _ (List.mem_of_getElem? (i := 6) rfl))) (List.mem_cons_of_mem _ (List.mem_append_left _ (List.mem_of_getElem? (i := 7) rfl))) (gi_sub (fun w h => (List.mem_cons_of_mem _ (List.mem_append_right _ (List.mem_append_right _ (List.mem_append_left _ h))))) zg_j131_X12_must)) rfl rfl rfl (by decide +kernel) ⟨Nat.le_of_ble_eq_true rfl, Nat.le_of_ble_eq_true rfl⟩ 0 rfl rfl rfl rfl (Nat.le_of_ble_eq_true rfl) ⟨Nat.le_of_ble_eq_true rfl, Nat.le_of_ble_eq_true rfl⟩ dX12_tellQuery_196 (fun v ty' w' hp hk' => ?_)
                        obtain ⟨I10666, A10666, L10666, hI10666, hA10666, hV10666, r10667, r10668, r10669, r10670, r10671, rfl, rfl⟩ := hp
                        have f10672 := IvM_f4 hV10666
                        have f10673 := IvM_f6 hV10666
                        rw [show (I10666 8) = (I10354 8) from (hI10666 8 rfl)] at r10669
                        rw [show (A10354 2 (I10354 4).toNatClampNeg) = (A 2 (I10354 4).toNatClampNeg) from ((congrFun (hA10354 2 rfl) _).trans ((congrFun (hA6266 2 rfl) _).trans (congrFun (hA6252 2 rfl) _)))] at r10671
                        show GW κ 4 0 0 (wM r g I10666 A10666 L10666) 199 [(3, .int x6262), (2, .int (I 4)), (1, .int y6248), (0, .ref (r 0))] []
                        refine g_aload_n hk dX12_tellQuery_199 rfl ?_
                        refine gM_i6 (v := (I10666 6)) hk hin12 (List.mem_cons_of_mem _ (List.mem_append_left _ (List.mem_of_getElem? (i := 16) rfl))) dX12_tellQuery_200 rfl ?_
                        refine g_if_le (tgt := 207) (a := (I10666 6).toInt) hk dX12_tellQuery_203 (by decide) rfl (fun c10674 => ?_) (fun c10674 => ?_)
                        · skip
                          refine g_aload_n hk dX12_tellQuery_207 rfl ?_
                          refine g_bipush (v := (-2)) hk dX12_tellQuery_208 (by decide) ?_
                          refine pM_i11 hk hin12 (List.mem_cons_of_mem _ (List.mem_append_left _ (List.mem_of_getElem? (i := 0) rfl))) dX12_tellQuery_210 ?_
                          refine g_aload_n hk dX12_tellQuery_213 rfl ?_
                          refine gM_r0_25 hk hin12 (List.mem_cons_of_mem _ (List.mem_append_left _ (List.mem_of_getElem? (i := 17) rfl))) dX12_tellQuery_214 ?_
                          refine g_aload_n hk dX12_tellQuery_217 rfl ?_
                          refine gM_i17 (v := (I 17)) hk hin12 (List.mem_cons_of_mem _ (List.mem_append_left _ (List.mem_of_getElem? (i := 8) rfl))) dX12_tellQuery_218 ((hI10666 17 rfl).trans ((hI10354 17 rfl).trans ((hI6266 17 rfl).trans (hI6252 17 rfl)))) ?_
                          have g10675 : (I10666 16).toInt = (I 16).toInt := by rw [show (I10666 16) = (I 16) from ((hI10666 16 rfl).trans ((hI10354 16 rfl).trans ((hI6266 16 rfl).trans (hI6252 16 rfl))))]
                          have g10676 : (I10666 17).toInt = (I 17).toInt := by rw [show (I10666 17) = (I 17) from ((hI10666 17 rfl).trans ((hI10354 17 rfl).trans ((hI6266 17 rfl).trans (hI6252 17 rfl))))]
                          have g10677 : (A10666 10 0).toInt = (A 10 0).toInt := by rw [show (A10666 10 0) = (A 10 0) from ((congrFun (hA10666 10 rfl) _).trans ((congrFun (hA10354 10 rfl) _).trans ((congrFun (hA6266 10 rfl) _).trans (congrFun (hA6252 10 rfl) _))))]
                          have g10678 : (A10666 10 1).toInt = (A 10 1).toInt := by rw [show (A10666 10 1) = (A 10 1) from ((congrFun (hA10666 10 rfl) _).trans ((congrFun (hA10354 10 rfl) _).trans ((congrFun (hA6266 10 rfl) _).trans (congrFun (hA6252 10 rfl) _))))]
                          have g10679 := (IvM_nq (I := I10666) (A := A10666) hV10666).1 (by omega)
                          refine g_aload_n hk dX12_tellQuery_221 rfl ?_
                          refine gM_r0_8 hk hin12 (List.mem_cons_of_mem _ (List.mem_append_left _ (List.mem_of_getElem? (i := 18) rfl))) dX12_tellQuery_222 ?_
                          refine g_iload_n hk dX12_tellQuery_225 rfl ?_
                          refine lM_5 hk (vp_in_iff.mpr ⟨by omega, by omega⟩) rfl dX12_tellQuery_226 ?_
                          refine g_topl (fun y10680 ey10680 => ?_)
                          refine sM_7 (j := (I 17).toNatClampNeg) hk (vp_in_iff.mpr ⟨by omega, by omega⟩) rfl dX12_tellQuery_227 ?_
                          refine g_aload_n hk dX12_tellQuery_228 rfl ?_
                          refine g_dup hk dX12_tellQuery_229 rfl ?_
                          refine gM_i17 (v := (I 17)) hk hin12 (List.mem_cons_of_mem _ (List.mem_append_left _ (List.mem_of_getElem? (i := 8) rfl))) dX12_tellQuery_230 ((hI10666 17 rfl).trans ((hI10354 17 rfl).trans ((hI6266 17 rfl).trans (hI6252 17 rfl)))) ?_
                          refine g_iconst (v := 1) hk dX12_tellQuery_233 (by decide) ?_
                          refine g_iadd hk dX12_tellQuery_234 ?_
                          refine g_topi (fun y10681 ey10681 => ?_)
                          have hy10681 : y10681.toInt = (I 17).toInt + 1 := i32_add ey10681 rfl rfl (by omega) (by omega)
                          refine pM_i17 hk hin12 (List.mem_cons_of_mem _ (List.mem_append_left _ (List.mem_of_getElem? (i := 8) rfl))) dX12_tellQuery_235 ?_
                          refine g_aload_n hk dX12_tellQuery_238 rfl ?_
                          refine gM_r0_28 hk hin12 (List.mem_cons_of_mem _ (List.mem_append_left _ (List.mem_of_getElem? (i := 2) rfl))) dX12_tellQuery_239 ?_
                          refine g_aload_n hk dX12_tellQuery_242 rfl ?_
                          refine gM_i16 (v := (I 16)) hk hin12 (List.mem_cons_of_mem _ (List.mem_append_left _ (List.mem_of_getElem? (i := 1) rfl))) dX12_tellQuery_243 ((hI10666 16 rfl).trans ((hI10354 16 rfl).trans ((hI6266 16 rfl).trans (hI6252 16 rfl)))) ?_
                          by_cases c10682 : (I 16).toInt = 0
                          · have ec10682 : (I 16) = 0 := Int32.toInt_inj.mp c10682
                            rw [ec10682]
                            show GW κ 4 0 0 (wM r g (upd (upd I10666 11 (-2)) 17 y10681) A10666 (up3L L10666 7 ((I 17).toNatClampNeg) y10680)) 246 [(3, .int x6262), (2, .int (I 4)), (1, .int y6248), (0, .ref (r 0))] [.int 0, .ref (r 11)]
                            refine g_dup2 hk dX12_tellQuery_246 rfl rfl ?_
                            refine lM_10 (v := (A 10 0)) hk (vp_in_iff.mpr ⟨by decide, by decide⟩) ((congrFun (hA10666 10 rfl) _).trans ((congrFun (hA10354 10 rfl) _).trans ((congrFun (hA6266 10 rfl) _).trans (congrFun (hA6252 10 rfl) _)))) dX12_tellQuery_247 ?_
                            refine g_iconst (v := 1) hk dX12_tellQuery_248 (by decide) ?_
                            refine g_iadd hk dX12_tellQuery_249 ?_
                            refine g_topi (fun y10683 ey10683 => ?_)
                            have hy10683 : y10683.toInt = (A 10 0).toInt + 1 := i32_add ey10683 rfl rfl (by omega) (by omega)
                            refine sM_10 (j := 0) hk (vp_in_iff.mpr ⟨by decide, by decide⟩) (by decide) dX12_tellQuery_250 ?_
                            have f10684 := IvM_s10_0 hV10666
                            have f10685 := IvM_s10_1 hV10666
                            have g10686 : (I10666 15).toInt = (I 15).toInt := by rw [show (I10666 15) = (I 15) from ((hI10666 15 rfl).trans ((hI10354 15 rfl).trans ((hI6266 15 rfl).trans (hI6252 15 rfl))))]
                            have g10687 := IvM_s10_0 (I := I10666) (A := A10666) hV10666
                            have g10688 := IvM_s10_1 (I := I10666) (A := A10666) hV10666
                            have g10689 : (I10666 8).toInt = (I10354 8).toInt := by rw [show (I10666 8) = (I10354 8) from (hI10666 8 rfl)]
                            have q10690 := cl_int (y := y6248) (by omega)
                            have g10691 : (A10666 11 y6248.toNatClampNeg).toInt = (A10354 11 y6248.toNatClampNeg).toInt := by rw [show (A10666 11 y6248.toNatClampNeg) = (A10354 11 y6248.toNatClampNeg) from (congrFun (hA10666 11 rfl) _)]
                            have u10692 : 0 < (I6252 6).toInt ∨ ((I 6).toInt = 0 ∧ (A 2 (I 4).toNatClampNeg).toInt = (1 : Int32).toInt) := r6257
                            have u10693 : 0 < (I10666 6).toInt ∨ ((I10354 6).toInt = 0 ∧ (A 2 (I10354 4).toNatClampNeg).toInt = (4 : Int32).toInt) := r10671
                            exact g_vret hk hR ⟨(upd (upd I10666 11 (-2)) 17 y10681), (up3 A10666 10 0 y10683), (up3L L10666 7 ((I 17).toNatClampNeg) y10680), (show Md [4, 6, 7, 8, 9, 11, 12, 13, 17] I (upd (upd I10666 11 (-2)) 17 y10681) from (Md.up (Md.up (Md.tr (Md.tr (Md.tr (Md.tr (Md.up Md.rf rfl) hI6252 rfl) hI6266 rfl) hI10354 rfl) hI10666 rfl) rfl) rfl)), (show Md [10, 11, 12] A (up3 A10666 10 0 y10683) from (Md.up3 (Md.tr (Md.tr (Md.up3 (Md.tr (Md.tr Md.rf hA6252 rfl) hA6266 rfl) rfl) hA10354 rfl) hA10666 rfl) rfl)), ⟨(IvM_f1 (I := I10666) (A := A10666) hV10666), (IvM_f2 (I := I10666) (A := A10666) hV10666), (IvM_f3 (I := I10666) (A := A10666) hV10666), (IvM_f4 (I := I10666) (A := A10666) hV10666), (IvM_f6 (I := I10666) (A := A10666) hV10666), (IvM_f8 (I := I10666) (A := A10666) hV10666), (IvM_f15 (I := I10666) (A := A10666) hV10666), (IvM_f16 (I := I10666) (A := A10666) hV10666), (show 0 ≤ y10681.toInt ∧ y10681.toInt ≤ 5 from ⟨by omega, by omega⟩), (IvM_f18 (I := I10666) (A := A10666) hV10666), (IvM_f22 (I := I10666) (A := A10666) hV10666), (IvM_f23 (I := I10666) (A := A10666) hV10666), (IvM_f24 (I := I10666) (A := A10666) hV10666), (IvM_a11 (I := I10666) (A := A10666) hV10666), (IvM_a26 (I := I10666) (A := A10666) hV10666), (IvM_s8_0 (I := I10666) (A := A10666) hV10666), (IvM_s8_1 (I := I10666) (A := A10666) hV10666), (show 0 ≤ ((up3 A10666 10 0 y10683) 10 0).toInt ∧ ((up3 A10666 10 0 y10683) 10 0).toInt ≤ 5 from by rw [show (up3 A10666 10 0 y10683) 10 0 = y10683 from rfl]; exact ⟨by omega, by omega⟩), (show 0 ≤ ((up3 A10666 10 0 y10683) 10 1).toInt ∧ ((up3 A10666 10 0 y10683) 10 1).toInt ≤ 5 from by rw [show (up3 A10666 10 0 y10683) 10 1 = (A10666 10 1) from rfl]; exact ⟨by omega, by omega⟩), (IvM_s17_0 (I := I10666) (A := A10666) hV10666), (IvM_s17_164 (I := I10666) (A := A10666) hV10666), ⟨fun e => by have e : (I10666 15).toInt = 0 := e; first | exact (IvM_lv (I := I10666) (A := A10666) hV10666).1 e | (exfalso; omega), fun e => by have e : (I10666 15).toInt = 1 := e; first | exact (IvM_lv (I := I10666) (A := A10666) hV10666).2 e | (exfalso; omega)⟩, (by first | (exfalso; omega) | (by_cases g8 : (I10666 8).toInt ≠ 0; exact Or.inr (Or.inl g8); rcases (IvM_sd (I := I10666) (A := A10666) hV10666) with h9 | h9 | h9; exact absurd h9 (by omega); exact absurd h9 g8; exact Or.inr (Or.inr ⟨fun e => by have e : (I10666 16).toInt = 0 := e; first | exact ghf_add (n := (A10666 10 0)) (f := (A10666 11)) (n2 := y10683) (p := y6248.toNatClampNeg) (h9.1 e) (by omega) (by omega) (by omega) | (exfalso; omega), fun e => by have e : (I10666 16).toInt = 1 := e; first | exact ghf_add (n := (A10666 10 1)) (f := (A10666 11)) (n2 := y10683) (p := y6248.toNatClampNeg) (h9.2 e) (by omega) (by omega) (by omega) | (exfalso; omega)⟩))), ⟨fun e => by have e : (I10666 16).toInt = 0 := e; first | (exfalso; omega) | (show y10681.toInt = y10683.toInt; omega), fun e => by have e : (I10666 16).toInt = 1 := e; first | (exfalso; omega) | (show y10681.toInt = (A10666 10 1).toInt; omega)⟩, (IvM_hr (I := I10666) (A := A10666) hV10666), (IvM_hh (I := I10666) (A := A10666) hV10666), trivial⟩, (by rw [show ((upd (upd I10666 11 (-2)) 17 y10681) 4) = (I10666 4) from rfl] <;> omega), (by rw [show ((upd (upd I10666 11 (-2)) 17 y10681) 6) = (I10666 6) from rfl] <;> omega), (by rw [show ((upd (upd I10666 11 (-2)) 17 y10681) 8) = (I10354 8) from (hI10666 8 rfl)] <;> omega), rfl, rfl⟩ dX12_tellQuery_251
                          exfalso; omega
                        · skip
                          exact g_vret hk hR ⟨I10666, A10666, L10666, (show Md [4, 6, 7, 8, 9, 11, 12, 13, 17] I I10666 from (Md.tr (Md.tr (Md.tr (Md.tr (Md.up Md.rf rfl) hI6252 rfl) hI6266 rfl) hI10354 rfl) hI10666 rfl)), (show Md [10, 11, 12] A A10666 from (Md.tr (Md.tr (Md.up3 (Md.tr (Md.tr Md.rf hA6252 rfl) hA6266 rfl) rfl) hA10354 rfl) hA10666 rfl)), hV10666, (by omega), (by omega), (by rw [show (I10666 8) = (I10354 8) from (hI10666 8 rfl)] <;> omega), rfl, rfl⟩ dX12_tellQuery_206
                      · skip
                        refine g_aload_n hk dX12_tellQuery_184 rfl ?_
                        refine g_bipush (v := 6) hk dX12_tellQuery_185 (by decide) ?_
                        refine g_aload_n hk dX12_tellQuery_187 rfl ?_
                        refine gM_i4 (v := (I10354 4)) hk hin12 (List.mem_cons_of_mem _ (List.mem_append_left _ (List.mem_of_getElem? (i := 3) rfl))) dX12_tellQuery_188 rfl ?_
                        have k10694 : (6 : Int32).toInt = 6 := rfl
                        refine g_callV (n := 2) hk (j134_X12_wrong l D zt r g I10354 A10354 L10354 6 (I10354 4) hV10354 (by decide) (by decide) (by omega) (by omega)) (SP.same _) (fun _ h => h) (gi_V (List.mem_cons_of_mem _ (List.mem_append_left _ (List.mem_of_getElem? (i := 19) rfl))) (List.mem_cons_of_mem _ (List.mem_append_left _ (List.mem_of_getElem? (i := 20) rfl))) (List.mem_cons_of_mem _ (List.mem_append_left _ (List.mem_of_getElem? (i := 21) rfl))) (List.mem_cons_of_mem _ (List.mem_append_left _ (List.mem_of_getElem? (i := 7) rfl))) (gi_sub (fun w h => (List.mem_cons_of_mem _ (List.mem_append_right _ (List.mem_append_right _ (List.mem_append_right _ (List.mem_append_right _ (List.mem_append_right _ (List.mem_append_left _ h)))))))) zg_j134_X12_wrong)) rfl rfl rfl (by decide +kernel) ⟨Nat.le_of_ble_eq_true rfl, Nat.le_of_ble_eq_true rfl⟩ 0 rfl rfl rfl rfl (Nat.le_of_ble_eq_true rfl) ⟨Nat.le_of_ble_eq_true rfl, Nat.le_of_ble_eq_true rfl⟩ dX12_tellQuery_191 (fun v ty' w' hp hk' => ?_)
                        obtain ⟨I10696, A10696, L10696, hI10696, hA10696, hV10696, r10697, r10698, r10699, rfl, rfl⟩ := hp
                        rw [show (I10696 6) = (I10354 6) from (hI10696 6 rfl)] at r10697
                        have f10700 := IvM_f8 hV10696
                        rw [show (I10696 6) = (I10354 6) from (hI10696 6 rfl)] at r10699
                        show GW κ 4 0 0 (wM r g I10696 A10696 L10696) 194 [(3, .int x6262), (2, .int (I 4)), (1, .int y6248), (0, .ref (r 0))] []
                        refine g_aload_n hk dX12_tellQuery_194 rfl ?_
                        refine g_iconst (v := 4) hk dX12_tellQuery_195 (by decide) ?_
                        refine g_callV (n := 1) hk (j131_X12_must l D zt r g I10696 A10696 L10696 4 hV10696) (SP.same _) (fun _ h => h) (gi_V (List.mem_cons_of_mem _ (List.mem_append_left _ (List.mem_of_getElem? (i := 4) rfl))) (List.mem_cons_of_mem _ (List.mem_append_left _ (List.mem_of_getElem? (i := 5) rfl))) (List.mem_cons_of_mem _ (List.mem_append_left _ (List.mem_of_getElem? (i := 6) rfl))) (List.mem_cons_of_mem _ (List.mem_append_left _ (List.mem_of_getElem? (i := 7) rfl))) (gi_sub (fun w h => (List.mem_cons_of_mem _ (List.mem_append_right _ (List.mem_append_right _ (List.mem_append_left _ h))))) zg_j131_X12_must)) rfl rfl rfl (by decide +kernel) ⟨Nat.le_of_ble_eq_true rfl, Nat.le_of_ble_eq_true rfl⟩ 0 rfl rfl rfl rfl (Nat.le_of_ble_eq_true rfl) ⟨Nat.le_of_ble_eq_true rfl, Nat.le_of_ble_eq_true rfl⟩ dX12_tellQuery_196 (fun v ty' w' hp hk' => ?_)
                        obtain ⟨I10702, A10702, L10702, hI10702, hA10702, hV10702, r10703, r10704, r10705, r10706, r10707, rfl, rfl⟩ := hp
                        have f10708 := IvM_f4 hV10702
                        rw [show (I10696 4) = (I10354 4) from (hI10696 4 rfl)] at r10703
                        have f10709 := IvM_f6 hV10702
                        rw [show (I10696 6) = (I10354 6) from (hI10696 6 rfl)] at r10704
                        rw [show (I10702 8) = (I10696 8) from (hI10702 8 rfl)] at r10705
                        rw [show (I10696 4) = (I10354 4) from (hI10696 4 rfl)] at r10706
                        rw [show (I10696 6) = (I10354 6) from (hI10696 6 rfl), show (A10696 2 (I10696 4).toNatClampNeg) = (A 2 (I10354 4).toNatClampNeg) from (by rw [show I10696 4 = (I10354 4) from (hI10696 4 rfl)]; exact ((congrFun (hA10696 2 rfl) _).trans ((congrFun (hA10354 2 rfl) _).trans ((congrFun (hA6266 2 rfl) _).trans (congrFun (hA6252 2 rfl) _)))))] at r10707
                        show GW κ 4 0 0 (wM r g I10702 A10702 L10702) 199 [(3, .int x6262), (2, .int (I 4)), (1, .int y6248), (0, .ref (r 0))] []
                        refine g_aload_n hk dX12_tellQuery_199 rfl ?_
                        refine gM_i6 (v := (I10702 6)) hk hin12 (List.mem_cons_of_mem _ (List.mem_append_left _ (List.mem_of_getElem? (i := 16) rfl))) dX12_tellQuery_200 rfl ?_
                        refine g_if_le (tgt := 207) (a := (I10702 6).toInt) hk dX12_tellQuery_203 (by decide) rfl (fun c10710 => ?_) (fun c10710 => ?_)
                        · skip
                          refine g_aload_n hk dX12_tellQuery_207 rfl ?_
                          refine g_bipush (v := (-2)) hk dX12_tellQuery_208 (by decide) ?_
                          refine pM_i11 hk hin12 (List.mem_cons_of_mem _ (List.mem_append_left _ (List.mem_of_getElem? (i := 0) rfl))) dX12_tellQuery_210 ?_
                          refine g_aload_n hk dX12_tellQuery_213 rfl ?_
                          refine gM_r0_25 hk hin12 (List.mem_cons_of_mem _ (List.mem_append_left _ (List.mem_of_getElem? (i := 17) rfl))) dX12_tellQuery_214 ?_
                          refine g_aload_n hk dX12_tellQuery_217 rfl ?_
                          refine gM_i17 (v := (I 17)) hk hin12 (List.mem_cons_of_mem _ (List.mem_append_left _ (List.mem_of_getElem? (i := 8) rfl))) dX12_tellQuery_218 ((hI10702 17 rfl).trans ((hI10696 17 rfl).trans ((hI10354 17 rfl).trans ((hI6266 17 rfl).trans (hI6252 17 rfl))))) ?_
                          have g10711 : (I10702 16).toInt = (I 16).toInt := by rw [show (I10702 16) = (I 16) from ((hI10702 16 rfl).trans ((hI10696 16 rfl).trans ((hI10354 16 rfl).trans ((hI6266 16 rfl).trans (hI6252 16 rfl)))))]
                          have g10712 : (I10702 17).toInt = (I 17).toInt := by rw [show (I10702 17) = (I 17) from ((hI10702 17 rfl).trans ((hI10696 17 rfl).trans ((hI10354 17 rfl).trans ((hI6266 17 rfl).trans (hI6252 17 rfl)))))]
                          have g10713 : (A10702 10 0).toInt = (A 10 0).toInt := by rw [show (A10702 10 0) = (A 10 0) from ((congrFun (hA10702 10 rfl) _).trans ((congrFun (hA10696 10 rfl) _).trans ((congrFun (hA10354 10 rfl) _).trans ((congrFun (hA6266 10 rfl) _).trans (congrFun (hA6252 10 rfl) _)))))]
                          have g10714 : (A10702 10 1).toInt = (A 10 1).toInt := by rw [show (A10702 10 1) = (A 10 1) from ((congrFun (hA10702 10 rfl) _).trans ((congrFun (hA10696 10 rfl) _).trans ((congrFun (hA10354 10 rfl) _).trans ((congrFun (hA6266 10 rfl) _).trans (congrFun (hA6252 10 rfl) _)))))]
                          have g10715 := (IvM_nq (I := I10702) (A := A10702) hV10702).1 (by omega)
                          refine g_aload_n hk dX12_tellQuery_221 rfl ?_
                          refine gM_r0_8 hk hin12 (List.mem_cons_of_mem _ (List.mem_append_left _ (List.mem_of_getElem? (i := 18) rfl))) dX12_tellQuery_222 ?_
                          refine g_iload_n hk dX12_tellQuery_225 rfl ?_
                          refine lM_5 hk (vp_in_iff.mpr ⟨by omega, by omega⟩) rfl dX12_tellQuery_226 ?_
                          refine g_topl (fun y10716 ey10716 => ?_)
                          refine sM_7 (j := (I 17).toNatClampNeg) hk (vp_in_iff.mpr ⟨by omega, by omega⟩) rfl dX12_tellQuery_227 ?_
                          refine g_aload_n hk dX12_tellQuery_228 rfl ?_
                          refine g_dup hk dX12_tellQuery_229 rfl ?_
                          refine gM_i17 (v := (I 17)) hk hin12 (List.mem_cons_of_mem _ (List.mem_append_left _ (List.mem_of_getElem? (i := 8) rfl))) dX12_tellQuery_230 ((hI10702 17 rfl).trans ((hI10696 17 rfl).trans ((hI10354 17 rfl).trans ((hI6266 17 rfl).trans (hI6252 17 rfl))))) ?_
                          refine g_iconst (v := 1) hk dX12_tellQuery_233 (by decide) ?_
                          refine g_iadd hk dX12_tellQuery_234 ?_
                          refine g_topi (fun y10717 ey10717 => ?_)
                          have hy10717 : y10717.toInt = (I 17).toInt + 1 := i32_add ey10717 rfl rfl (by omega) (by omega)
                          refine pM_i17 hk hin12 (List.mem_cons_of_mem _ (List.mem_append_left _ (List.mem_of_getElem? (i := 8) rfl))) dX12_tellQuery_235 ?_
                          refine g_aload_n hk dX12_tellQuery_238 rfl ?_
                          refine gM_r0_28 hk hin12 (List.mem_cons_of_mem _ (List.mem_append_left _ (List.mem_of_getElem? (i := 2) rfl))) dX12_tellQuery_239 ?_
                          refine g_aload_n hk dX12_tellQuery_242 rfl ?_
                          refine gM_i16 (v := (I 16)) hk hin12 (List.mem_cons_of_mem _ (List.mem_append_left _ (List.mem_of_getElem? (i := 1) rfl))) dX12_tellQuery_243 ((hI10702 16 rfl).trans ((hI10696 16 rfl).trans ((hI10354 16 rfl).trans ((hI6266 16 rfl).trans (hI6252 16 rfl))))) ?_
                          by_cases c10718 : (I 16).toInt = 0
                          · have ec10718 : (I 16) = 0 := Int32.toInt_inj.mp c10718
                            rw [ec10718]
                            show GW κ 4 0 0 (wM r g (upd (upd I10702 11 (-2)) 17 y10717) A10702 (up3L L10702 7 ((I 17).toNatClampNeg) y10716)) 246 [(3, .int x6262), (2, .int (I 4)), (1, .int y6248), (0, .ref (r 0))] [.int 0, .ref (r 11)]
                            refine g_dup2 hk dX12_tellQuery_246 rfl rfl ?_
                            refine lM_10 (v := (A 10 0)) hk (vp_in_iff.mpr ⟨by decide, by decide⟩) ((congrFun (hA10702 10 rfl) _).trans ((congrFun (hA10696 10 rfl) _).trans ((congrFun (hA10354 10 rfl) _).trans ((congrFun (hA6266 10 rfl) _).trans (congrFun (hA6252 10 rfl) _))))) dX12_tellQuery_247 ?_
                            refine g_iconst (v := 1) hk dX12_tellQuery_248 (by decide) ?_
                            refine g_iadd hk dX12_tellQuery_249 ?_
                            refine g_topi (fun y10719 ey10719 => ?_)
                            have hy10719 : y10719.toInt = (A 10 0).toInt + 1 := i32_add ey10719 rfl rfl (by omega) (by omega)
                            refine sM_10 (j := 0) hk (vp_in_iff.mpr ⟨by decide, by decide⟩) (by decide) dX12_tellQuery_250 ?_
                            have f10720 := IvM_s10_0 hV10702
                            have f10721 := IvM_s10_1 hV10702
                            have g10722 : (I10702 15).toInt = (I 15).toInt := by rw [show (I10702 15) = (I 15) from ((hI10702 15 rfl).trans ((hI10696 15 rfl).trans ((hI10354 15 rfl).trans ((hI6266 15 rfl).trans (hI6252 15 rfl)))))]
                            have g10723 := IvM_s10_0 (I := I10702) (A := A10702) hV10702
                            have g10724 := IvM_s10_1 (I := I10702) (A := A10702) hV10702
                            have g10725 : (I10702 8).toInt = (I10696 8).toInt := by rw [show (I10702 8) = (I10696 8) from (hI10702 8 rfl)]
                            have q10726 := cl_int (y := y6248) (by omega)
                            have g10727 : (A10702 11 y6248.toNatClampNeg).toInt = (A10354 11 y6248.toNatClampNeg).toInt := by rw [show (A10702 11 y6248.toNatClampNeg) = (A10354 11 y6248.toNatClampNeg) from ((congrFun (hA10702 11 rfl) _).trans (congrFun (hA10696 11 rfl) _))]
                            have u10728 : 0 < (I6252 6).toInt ∨ ((I 6).toInt = 0 ∧ (A 2 (I 4).toNatClampNeg).toInt = (1 : Int32).toInt) := r6257
                            have u10729 : 0 < (I10702 6).toInt ∨ ((I10354 6).toInt = 0 ∧ (A 2 (I10354 4).toNatClampNeg).toInt = (4 : Int32).toInt) := r10707
                            exact g_vret hk hR ⟨(upd (upd I10702 11 (-2)) 17 y10717), (up3 A10702 10 0 y10719), (up3L L10702 7 ((I 17).toNatClampNeg) y10716), (show Md [4, 6, 7, 8, 9, 11, 12, 13, 17] I (upd (upd I10702 11 (-2)) 17 y10717) from (Md.up (Md.up (Md.tr (Md.tr (Md.tr (Md.tr (Md.tr (Md.up Md.rf rfl) hI6252 rfl) hI6266 rfl) hI10354 rfl) hI10696 rfl) hI10702 rfl) rfl) rfl)), (show Md [10, 11, 12] A (up3 A10702 10 0 y10719) from (Md.up3 (Md.tr (Md.tr (Md.tr (Md.up3 (Md.tr (Md.tr Md.rf hA6252 rfl) hA6266 rfl) rfl) hA10354 rfl) hA10696 rfl) hA10702 rfl) rfl)), ⟨(IvM_f1 (I := I10702) (A := A10702) hV10702), (IvM_f2 (I := I10702) (A := A10702) hV10702), (IvM_f3 (I := I10702) (A := A10702) hV10702), (IvM_f4 (I := I10702) (A := A10702) hV10702), (IvM_f6 (I := I10702) (A := A10702) hV10702), (IvM_f8 (I := I10702) (A := A10702) hV10702), (IvM_f15 (I := I10702) (A := A10702) hV10702), (IvM_f16 (I := I10702) (A := A10702) hV10702), (show 0 ≤ y10717.toInt ∧ y10717.toInt ≤ 5 from ⟨by omega, by omega⟩), (IvM_f18 (I := I10702) (A := A10702) hV10702), (IvM_f22 (I := I10702) (A := A10702) hV10702), (IvM_f23 (I := I10702) (A := A10702) hV10702), (IvM_f24 (I := I10702) (A := A10702) hV10702), (IvM_a11 (I := I10702) (A := A10702) hV10702), (IvM_a26 (I := I10702) (A := A10702) hV10702), (IvM_s8_0 (I := I10702) (A := A10702) hV10702), (IvM_s8_1 (I := I10702) (A := A10702) hV10702), (show 0 ≤ ((up3 A10702 10 0 y10719) 10 0).toInt ∧ ((up3 A10702 10 0 y10719) 10 0).toInt ≤ 5 from by rw [show (up3 A10702 10 0 y10719) 10 0 = y10719 from rfl]; exact ⟨by omega, by omega⟩), (show 0 ≤ ((up3 A10702 10 0 y10719) 10 1).toInt ∧ ((up3 A10702 10 0 y10719) 10 1).toInt ≤ 5 from by rw [show (up3 A10702 10 0 y10719) 10 1 = (A10702 10 1) from rfl]; exact ⟨by omega, by omega⟩), (IvM_s17_0 (I := I10702) (A := A10702) hV10702), (IvM_s17_164 (I := I10702) (A := A10702) hV10702), ⟨fun e => by have e : (I10702 15).toInt = 0 := e; first | exact (IvM_lv (I := I10702) (A := A10702) hV10702).1 e | (exfalso; omega), fun e => by have e : (I10702 15).toInt = 1 := e; first | exact (IvM_lv (I := I10702) (A := A10702) hV10702).2 e | (exfalso; omega)⟩, (by first | (exfalso; omega) | (by_cases g8 : (I10702 8).toInt ≠ 0; exact Or.inr (Or.inl g8); rcases (IvM_sd (I := I10702) (A := A10702) hV10702) with h9 | h9 | h9; exact absurd h9 (by omega); exact absurd h9 g8; exact Or.inr (Or.inr ⟨fun e => by have e : (I10702 16).toInt = 0 := e; first | exact ghf_add (n := (A10702 10 0)) (f := (A10702 11)) (n2 := y10719) (p := y6248.toNatClampNeg) (h9.1 e) (by omega) (by omega) (by omega) | (exfalso; omega), fun e => by have e : (I10702 16).toInt = 1 := e; first | exact ghf_add (n := (A10702 10 1)) (f := (A10702 11)) (n2 := y10719) (p := y6248.toNatClampNeg) (h9.2 e) (by omega) (by omega) (by omega) | (exfalso; omega)⟩))), ⟨fun e => by have e : (I10702 16).toInt = 0 := e; first | (exfalso; omega) | (show y10717.toInt = y10719.toInt; omega), fun e => by have e : (I10702 16).toInt = 1 := e; first | (exfalso; omega) | (show y10717.toInt = (A10702 10 1).toInt; omega)⟩, (IvM_hr (I := I10702) (A := A10702) hV10702), (IvM_hh (I := I10702) (A := A10702) hV10702), trivial⟩, (by rw [show ((upd (upd I10702 11 (-2)) 17 y10717) 4) = (I10702 4) from rfl] <;> omega), (by rw [show ((upd (upd I10702 11 (-2)) 17 y10717) 6) = (I10702 6) from rfl] <;> omega), (by rw [show ((upd (upd I10702 11 (-2)) 17 y10717) 8) = (I10696 8) from (hI10702 8 rfl)] <;> omega), rfl, rfl⟩ dX12_tellQuery_251
                          exfalso; omega
                        · skip
                          exact g_vret hk hR ⟨I10702, A10702, L10702, (show Md [4, 6, 7, 8, 9, 11, 12, 13, 17] I I10702 from (Md.tr (Md.tr (Md.tr (Md.tr (Md.tr (Md.up Md.rf rfl) hI6252 rfl) hI6266 rfl) hI10354 rfl) hI10696 rfl) hI10702 rfl)), (show Md [10, 11, 12] A A10702 from (Md.tr (Md.tr (Md.tr (Md.up3 (Md.tr (Md.tr Md.rf hA6252 rfl) hA6266 rfl) rfl) hA10354 rfl) hA10696 rfl) hA10702 rfl)), hV10702, (by omega), (by omega), (by rw [show (I10702 8) = (I10696 8) from (hI10702 8 rfl)] <;> omega), rfl, rfl⟩ dX12_tellQuery_206
                  · skip
                    show GW κ 4 0 0 (wM r g I10354 A10354 L10354) 88 [(3, .int x6262), (2, .int (I 4)), (1, .int y6248), (0, .ref (r 0))] [.int 1]
                    refine g_if_eq (tgt := 166) (a := 1) hk dX12_tellQuery_88 (by decide) rfl (fun z9 => absurd z9 (show ¬ ((1 : Int) = (0 : Int)) from by decide)) (fun _ => ?_)
                    refine g_aload_n hk dX12_tellQuery_91 rfl ?_
                    refine gM_r0_29 hk hin12 (List.mem_cons_of_mem _ (List.mem_append_left _ (List.mem_of_getElem? (i := 9) rfl))) dX12_tellQuery_92 ?_
                    refine g_iload_n hk dX12_tellQuery_95 rfl ?_
                    refine lM_11 (v := (A10354 11 y6248.toNatClampNeg)) hk (vp_in_iff.mpr ⟨by omega, by omega⟩) rfl dX12_tellQuery_96 ?_
                    have f10730 := IvM_a11 hV10354 (y6248.toNatClampNeg)
                    refine g_bipush (v := 16) hk dX12_tellQuery_97 (by decide) ?_
                    refine g_icmp_ne (tgt := 107) (a := (A10354 11 y6248.toNatClampNeg).toInt) (b := 16) hk dX12_tellQuery_99 (by decide) rfl rfl (fun c10731 => ?_) (fun c10731 => ?_)
                    · skip
                      refine g_aload_n hk dX12_tellQuery_107 rfl ?_
                      refine gM_i6 (v := (I10354 6)) hk hin12 (List.mem_cons_of_mem _ (List.mem_append_left _ (List.mem_of_getElem? (i := 16) rfl))) dX12_tellQuery_108 rfl ?_
                      refine g_if_le (tgt := 115) (a := (I10354 6).toInt) hk dX12_tellQuery_111 (by decide) rfl (fun c10732 => ?_) (fun c10732 => ?_)
                      · skip
                        refine g_aload_n hk dX12_tellQuery_115 rfl ?_
                        refine gM_r0_30 hk hin12 (List.mem_cons_of_mem _ (List.mem_append_left _ (List.mem_of_getElem? (i := 22) rfl))) dX12_tellQuery_116 ?_
                        refine g_bipush (v := 16) hk dX12_tellQuery_119 (by decide) ?_
                        refine g_iload_n hk dX12_tellQuery_121 rfl ?_
                        refine g_imul hk dX12_tellQuery_122 ?_
                        refine g_topi (fun y10733 ey10733 => ?_)
                        have hy10733 : y10733.toInt = 16 * y6248.toInt := i32_mul ey10733 rfl rfl (by omega) (by omega)
                        refine g_aload_n hk dX12_tellQuery_123 rfl ?_
                        refine gM_r0_29 hk hin12 (List.mem_cons_of_mem _ (List.mem_append_left _ (List.mem_of_getElem? (i := 9) rfl))) dX12_tellQuery_124 ?_
                        refine g_iload_n hk dX12_tellQuery_127 rfl ?_
                        refine lM_11 (v := (A10354 11 y6248.toNatClampNeg)) hk (vp_in_iff.mpr ⟨by omega, by omega⟩) rfl dX12_tellQuery_128 ?_
                        refine g_iadd hk dX12_tellQuery_129 ?_
                        refine g_topi (fun y10734 ey10734 => ?_)
                        have hy10734 : y10734.toInt = y10733.toInt + (A10354 11 y6248.toNatClampNeg).toInt := i32_add ey10734 rfl rfl (by omega) (by omega)
                        refine g_aload_n hk dX12_tellQuery_130 rfl ?_
                        refine g_callV (n := 0) hk (j132_X12_readingTold l D zt r g I10354 A10354 L10354  hV10354) (SP.same _) (fun _ h => h) (gi_V (List.mem_cons_of_mem _ (List.mem_append_left _ (List.mem_of_getElem? (i := 23) rfl))) (List.mem_cons_of_mem _ (List.mem_append_left _ (List.mem_of_getElem? (i := 24) rfl))) (List.mem_cons_of_mem _ (List.mem_append_left _ (List.mem_of_getElem? (i := 25) rfl))) (List.mem_cons_of_mem _ (List.mem_append_left _ (List.mem_of_getElem? (i := 7) rfl))) (gi_sub (fun w h => (List.mem_cons_of_mem _ (List.mem_append_right _ (List.mem_append_right _ (List.mem_append_right _ (List.mem_append_right _ (List.mem_append_right _ (List.mem_append_right _ (List.mem_append_left _ h))))))))) zg_j132_X12_readingTold)) rfl rfl rfl (by decide +kernel) ⟨Nat.le_of_ble_eq_true rfl, Nat.le_of_ble_eq_true rfl⟩ 0 rfl rfl rfl rfl (Nat.le_of_ble_eq_true rfl) ⟨Nat.le_of_ble_eq_true rfl, Nat.le_of_ble_eq_true rfl⟩ dX12_tellQuery_131 (fun v ty' w' hp hk' => ?_)
                        obtain ⟨I10736, A10736, L10736, hI10736, hA10736, hV10736, y10735, r10737, r10738, r10739, r10740, rfl, rfl⟩ := hp
                        have f10741 := IvM_f4 hV10736
                        have f10742 := IvM_f6 hV10736
                        have f10743 := IvM_f8 hV10736
                        show GW κ 4 0 0 (wM r g I10736 A10736 L10736) 134 [(3, .int x6262), (2, .int (I 4)), (1, .int y6248), (0, .ref (r 0))] [.int y10735, .int y10734, .ref (r 13)]
                        refine sM_12 (j := y10734.toNatClampNeg) hk (vp_in_iff.mpr ⟨by omega, by omega⟩) rfl dX12_tellQuery_134 ?_
                        refine g_aload_n hk dX12_tellQuery_135 rfl ?_
                        refine gM_i6 (v := (I10736 6)) hk hin12 (List.mem_cons_of_mem _ (List.mem_append_left _ (List.mem_of_getElem? (i := 16) rfl))) dX12_tellQuery_136 rfl ?_
                        refine g_if_le (tgt := 143) (a := (I10736 6).toInt) hk dX12_tellQuery_139 (by decide) rfl (fun c10744 => ?_) (fun c10744 => ?_)
                        · skip
                          refine g_aload_n hk dX12_tellQuery_143 rfl ?_
                          refine gM_r0_29 hk hin12 (List.mem_cons_of_mem _ (List.mem_append_left _ (List.mem_of_getElem? (i := 9) rfl))) dX12_tellQuery_144 ?_
                          refine g_iload_n hk dX12_tellQuery_147 rfl ?_
                          refine g_dup2 hk dX12_tellQuery_148 rfl rfl ?_
                          refine lM_11 (v := (A10354 11 y6248.toNatClampNeg)) hk (vp_in_iff.mpr ⟨by omega, by omega⟩) (congrFun (hA10736 11 rfl) _) dX12_tellQuery_149 ?_
                          refine g_iconst (v := 1) hk dX12_tellQuery_150 (by decide) ?_
                          refine g_iadd hk dX12_tellQuery_151 ?_
                          refine g_topi (fun y10745 ey10745 => ?_)
                          have hy10745 : y10745.toInt = (A10354 11 y6248.toNatClampNeg).toInt + 1 := i32_add ey10745 rfl rfl (by omega) (by omega)
                          refine sM_11 (j := y6248.toNatClampNeg) hk (vp_in_iff.mpr ⟨by omega, by omega⟩) rfl dX12_tellQuery_152 ?_
                          have hA10746 : ∀ j, 0 ≤ ((up3 (up3 A10736 12 (y10734.toNatClampNeg) y10735) 11 (y6248.toNatClampNeg) y10745) 11 j).toInt ∧ ((up3 (up3 A10736 12 (y10734.toNatClampNeg) y10735) 11 (y6248.toNatClampNeg) y10745) 11 j).toInt ≤ 16 := ai_st ((IvM_a11 hV10736)) ⟨by omega, by omega⟩
                          refine g_aload_n hk dX12_tellQuery_153 rfl ?_
                          refine g_dup hk dX12_tellQuery_154 rfl ?_
                          refine gM_i11 (v := (I10354 11)) hk hin12 (List.mem_cons_of_mem _ (List.mem_append_left _ (List.mem_of_getElem? (i := 0) rfl))) dX12_tellQuery_155 (hI10736 11 rfl) ?_
                          refine g_iconst (v := 1) hk dX12_tellQuery_158 (by decide) ?_
                          have b10747l := Int32.le_toInt (I10354 11)
                          have b10747h := Int32.toInt_lt (I10354 11)
                          refine g_iadd hk dX12_tellQuery_159 ?_
                          refine g_topi (fun y10748 ey10748 => ?_)
                          refine pM_i11 hk hin12 (List.mem_cons_of_mem _ (List.mem_append_left _ (List.mem_of_getElem? (i := 0) rfl))) dX12_tellQuery_160 ?_
                          refine g_goto (tgt := 84) hk dX12_tellQuery_163 (by decide) ?_
                          have g10749 : (I10736 15).toInt = (I 15).toInt := by rw [show (I10736 15) = (I 15) from ((hI10736 15 rfl).trans ((hI10354 15 rfl).trans ((hI6266 15 rfl).trans (hI6252 15 rfl))))]
                          have g10750 : (I10736 16).toInt = (I 16).toInt := by rw [show (I10736 16) = (I 16) from ((hI10736 16 rfl).trans ((hI10354 16 rfl).trans ((hI6266 16 rfl).trans (hI6252 16 rfl))))]
                          have g10751 := IvM_s10_0 (I := I10736) (A := A10736) hV10736
                          have g10752 := IvM_s10_1 (I := I10736) (A := A10736) hV10736
                          have q10753 := cl_int (y := y6248) (by omega)
                          have g10754 : (A10736 10 0).toInt = (A 10 0).toInt := by rw [show (A10736 10 0) = (A 10 0) from ((congrFun (hA10736 10 rfl) _).trans ((congrFun (hA10354 10 rfl) _).trans ((congrFun (hA6266 10 rfl) _).trans (congrFun (hA6252 10 rfl) _))))]
                          have g10755 : (A10736 10 1).toInt = (A 10 1).toInt := by rw [show (A10736 10 1) = (A 10 1) from ((congrFun (hA10736 10 rfl) _).trans ((congrFun (hA10354 10 rfl) _).trans ((congrFun (hA6266 10 rfl) _).trans (congrFun (hA6252 10 rfl) _))))]
                          have q10756 := cl_int (y := y6248) (by omega)
                          exact g_lv (List.forall_mem_cons.mpr ⟨List.mem_of_getElem? (i := 0) rfl, (List.forall_mem_cons.mpr ⟨List.mem_of_getElem? (i := 1) rfl, (List.forall_mem_cons.mpr ⟨List.mem_of_getElem? (i := 2) rfl, (List.forall_mem_cons.mpr ⟨List.mem_of_getElem? (i := 3) rfl, (fun _ h => absurd h List.not_mem_nil)⟩)⟩)⟩)⟩) (ih10623 (upd I10736 11 y10748) (up3 (up3 A10736 12 (y10734.toNatClampNeg) y10735) 11 (y6248.toNatClampNeg) y10745) L10736 (show Md [4, 6, 7, 8, 9, 11, 12, 13] I6266 (upd I10736 11 y10748) from Md.tr hI10354 (show Md [4, 6, 7, 8, 9, 11, 12, 13] I10354 (upd I10736 11 y10748) from (Md.up (Md.tr Md.rf hI10736 rfl) rfl)) rfl) (show Md [11, 12] (up3 A6266 11 (y6248.toNatClampNeg) 0) (up3 (up3 A10736 12 (y10734.toNatClampNeg) y10735) 11 (y6248.toNatClampNeg) y10745) from Md.tr hA10354 (show Md [11, 12] A10354 (up3 (up3 A10736 12 (y10734.toNatClampNeg) y10735) 11 (y6248.toNatClampNeg) y10745) from (Md.up3 (Md.up3 (Md.tr Md.rf hA10736 rfl) rfl) rfl)) rfl) ⟨(IvM_f1 (I := I10736) (A := A10736) hV10736), (IvM_f2 (I := I10736) (A := A10736) hV10736), (IvM_f3 (I := I10736) (A := A10736) hV10736), (IvM_f4 (I := I10736) (A := A10736) hV10736), (IvM_f6 (I := I10736) (A := A10736) hV10736), (IvM_f8 (I := I10736) (A := A10736) hV10736), (IvM_f15 (I := I10736) (A := A10736) hV10736), (IvM_f16 (I := I10736) (A := A10736) hV10736), (IvM_f17 (I := I10736) (A := A10736) hV10736), (IvM_f18 (I := I10736) (A := A10736) hV10736), (IvM_f22 (I := I10736) (A := A10736) hV10736), (IvM_f23 (I := I10736) (A := A10736) hV10736), (IvM_f24 (I := I10736) (A := A10736) hV10736), hA10746, (IvM_a26 (I := I10736) (A := A10736) hV10736), (IvM_s8_0 (I := I10736) (A := A10736) hV10736), (IvM_s8_1 (I := I10736) (A := A10736) hV10736), (IvM_s10_0 (I := I10736) (A := A10736) hV10736), (IvM_s10_1 (I := I10736) (A := A10736) hV10736), (IvM_s17_0 (I := I10736) (A := A10736) hV10736), (IvM_s17_164 (I := I10736) (A := A10736) hV10736), ⟨fun e => by have e : (I10736 15).toInt = 0 := e; first | exact ghf_upd (n := (A10736 10 0)) ((IvM_lv (I := I10736) (A := A10736) hV10736).1 e) (fun q hq => by omega) | (exfalso; omega), fun e => by have e : (I10736 15).toInt = 1 := e; first | exact ghf_upd (n := (A10736 10 1)) ((IvM_lv (I := I10736) (A := A10736) hV10736).2 e) (fun q hq => by omega) | (exfalso; omega)⟩, (by rcases (IvM_sd (I := I10736) (A := A10736) hV10736) with h9 | h9 | h9; exact Or.inl h9; exact Or.inr (Or.inl h9); exact Or.inr (Or.inr ⟨fun e => by have e : (I10736 16).toInt = 0 := e; first | exact ghf_upd (n := (A10736 10 0)) (h9.1 e) (fun q hq => by omega) | (exfalso; omega), fun e => by have e : (I10736 16).toInt = 1 := e; first | exact ghf_upd (n := (A10736 10 1)) (h9.2 e) (fun q hq => by omega) | (exfalso; omega)⟩)), (IvM_nq (I := I10736) (A := A10736) hV10736), (IvM_hr (I := I10736) (A := A10736) hV10736), (IvM_hh (I := I10736) (A := A10736) hV10736), trivial⟩ (by first | (rw [show ((upd I10736 11 y10748) 4) = (I10736 4) from rfl] <;> omega) | omega) (by first | (rw [show ((upd I10736 11 y10748) 6) = (I10736 6) from rfl] <;> omega) | omega) (by first | (rw [show ((upd I10736 11 y10748) 8) = (I10736 8) from rfl] <;> omega) | omega) (by first | (rw [show ((upd I10736 11 y10748) 4) = (I10736 4) from rfl] <;> omega) | omega) (by omega))
                        · skip
                          exact g_vret hk hR ⟨I10736, (up3 A10736 12 (y10734.toNatClampNeg) y10735), L10736, (show Md [4, 6, 7, 8, 9, 11, 12, 13, 17] I I10736 from (Md.tr (Md.tr (Md.tr (Md.tr (Md.up Md.rf rfl) hI6252 rfl) hI6266 rfl) hI10354 rfl) hI10736 rfl)), (show Md [10, 11, 12] A (up3 A10736 12 (y10734.toNatClampNeg) y10735) from (Md.up3 (Md.tr (Md.tr (Md.up3 (Md.tr (Md.tr Md.rf hA6252 rfl) hA6266 rfl) rfl) hA10354 rfl) hA10736 rfl) rfl)), ⟨(IvM_f1 (I := I10736) (A := A10736) hV10736), (IvM_f2 (I := I10736) (A := A10736) hV10736), (IvM_f3 (I := I10736) (A := A10736) hV10736), (IvM_f4 (I := I10736) (A := A10736) hV10736), (IvM_f6 (I := I10736) (A := A10736) hV10736), (IvM_f8 (I := I10736) (A := A10736) hV10736), (IvM_f15 (I := I10736) (A := A10736) hV10736), (IvM_f16 (I := I10736) (A := A10736) hV10736), (IvM_f17 (I := I10736) (A := A10736) hV10736), (IvM_f18 (I := I10736) (A := A10736) hV10736), (IvM_f22 (I := I10736) (A := A10736) hV10736), (IvM_f23 (I := I10736) (A := A10736) hV10736), (IvM_f24 (I := I10736) (A := A10736) hV10736), (IvM_a11 (I := I10736) (A := A10736) hV10736), (IvM_a26 (I := I10736) (A := A10736) hV10736), (IvM_s8_0 (I := I10736) (A := A10736) hV10736), (IvM_s8_1 (I := I10736) (A := A10736) hV10736), (IvM_s10_0 (I := I10736) (A := A10736) hV10736), (IvM_s10_1 (I := I10736) (A := A10736) hV10736), (IvM_s17_0 (I := I10736) (A := A10736) hV10736), (IvM_s17_164 (I := I10736) (A := A10736) hV10736), (IvM_lv (I := I10736) (A := A10736) hV10736), (IvM_sd (I := I10736) (A := A10736) hV10736), (IvM_nq (I := I10736) (A := A10736) hV10736), (IvM_hr (I := I10736) (A := A10736) hV10736), (IvM_hh (I := I10736) (A := A10736) hV10736), trivial⟩, (by omega), (by omega), (by omega), rfl, rfl⟩ dX12_tellQuery_142
                      · skip
                        exact g_vret hk hR ⟨I10354, A10354, L10354, (show Md [4, 6, 7, 8, 9, 11, 12, 13, 17] I I10354 from (Md.tr (Md.tr (Md.tr (Md.up Md.rf rfl) hI6252 rfl) hI6266 rfl) hI10354 rfl)), (show Md [10, 11, 12] A A10354 from (Md.tr (Md.up3 (Md.tr (Md.tr Md.rf hA6252 rfl) hA6266 rfl) rfl) hA10354 rfl)), hV10354, (by omega), (by omega), (by omega), rfl, rfl⟩ dX12_tellQuery_114
                    · skip
                      refine g_aload_n hk dX12_tellQuery_102 rfl ?_
                      refine g_iconst (v := 2) hk dX12_tellQuery_103 (by decide) ?_
                      have k10757 : (2 : Int32).toInt = 2 := rfl
                      refine g_callV (n := 1) hk (j128_X12_fail l D zt r g I10354 A10354 L10354 2 hV10354 (by decide) (by decide)) (SP.same _) (fun _ h => h) (gi_V (List.mem_cons_of_mem _ (List.mem_append_left _ (List.mem_of_getElem? (i := 26) rfl))) (List.mem_cons_of_mem _ (List.mem_append_left _ (List.mem_of_getElem? (i := 27) rfl))) (List.mem_cons_of_mem _ (List.mem_append_left _ (List.mem_of_getElem? (i := 28) rfl))) (List.mem_cons_of_mem _ (List.mem_append_left _ (List.mem_of_getElem? (i := 7) rfl))) (gi_sub (fun w h => (List.mem_cons_of_mem _ (List.mem_append_right _ (List.mem_append_right _ (List.mem_append_right _ (List.mem_append_right _ (List.mem_append_right _ (List.mem_append_right _ (List.mem_append_right _ (List.mem_append_left _ h)))))))))) zg_j128_X12_fail)) rfl rfl rfl (by decide +kernel) ⟨Nat.le_of_ble_eq_true rfl, Nat.le_of_ble_eq_true rfl⟩ 0 rfl rfl rfl rfl (Nat.le_of_ble_eq_true rfl) ⟨Nat.le_of_ble_eq_true rfl, Nat.le_of_ble_eq_true rfl⟩ dX12_tellQuery_104 (fun v ty' w' hp hk' => ?_)
                      obtain ⟨I10759, A10759, L10759, hI10759, hA10759, hV10759, r10760, r10761, r10762, rfl, rfl⟩ := hp
                      have f10763 := IvM_f6 hV10759
                      rw [show (I10759 8) = (I10354 8) from (hI10759 8 rfl)] at r10761
                      show GW κ 4 0 0 (wM r g I10759 A10759 L10759) 107 [(3, .int x6262), (2, .int (I 4)), (1, .int y6248), (0, .ref (r 0))] []
                      refine g_aload_n hk dX12_tellQuery_107 rfl ?_
                      refine gM_i6 (v := (I10759 6)) hk hin12 (List.mem_cons_of_mem _ (List.mem_append_left _ (List.mem_of_getElem? (i := 16) rfl))) dX12_tellQuery_108 rfl ?_
                      refine g_if_le (tgt := 115) (a := (I10759 6).toInt) hk dX12_tellQuery_111 (by decide) rfl (fun c10764 => ?_) (fun c10764 => ?_)
                      · skip
                        refine g_aload_n hk dX12_tellQuery_115 rfl ?_
                        refine gM_r0_30 hk hin12 (List.mem_cons_of_mem _ (List.mem_append_left _ (List.mem_of_getElem? (i := 22) rfl))) dX12_tellQuery_116 ?_
                        refine g_bipush (v := 16) hk dX12_tellQuery_119 (by decide) ?_
                        refine g_iload_n hk dX12_tellQuery_121 rfl ?_
                        refine g_imul hk dX12_tellQuery_122 ?_
                        refine g_topi (fun y10765 ey10765 => ?_)
                        have hy10765 : y10765.toInt = 16 * y6248.toInt := i32_mul ey10765 rfl rfl (by omega) (by omega)
                        refine g_aload_n hk dX12_tellQuery_123 rfl ?_
                        refine gM_r0_29 hk hin12 (List.mem_cons_of_mem _ (List.mem_append_left _ (List.mem_of_getElem? (i := 9) rfl))) dX12_tellQuery_124 ?_
                        refine g_iload_n hk dX12_tellQuery_127 rfl ?_
                        refine lM_11 (v := (A10354 11 y6248.toNatClampNeg)) hk (vp_in_iff.mpr ⟨by omega, by omega⟩) (congrFun (hA10759 11 rfl) _) dX12_tellQuery_128 ?_
                        refine g_iadd hk dX12_tellQuery_129 ?_
                        refine g_topi (fun y10766 ey10766 => ?_)
                        have hy10766 : y10766.toInt = y10765.toInt + (A10354 11 y6248.toNatClampNeg).toInt := i32_add ey10766 rfl rfl (by omega) (by omega)
                        refine g_aload_n hk dX12_tellQuery_130 rfl ?_
                        refine g_callV (n := 0) hk (j132_X12_readingTold l D zt r g I10759 A10759 L10759  hV10759) (SP.same _) (fun _ h => h) (gi_V (List.mem_cons_of_mem _ (List.mem_append_left _ (List.mem_of_getElem? (i := 23) rfl))) (List.mem_cons_of_mem _ (List.mem_append_left _ (List.mem_of_getElem? (i := 24) rfl))) (List.mem_cons_of_mem _ (List.mem_append_left _ (List.mem_of_getElem? (i := 25) rfl))) (List.mem_cons_of_mem _ (List.mem_append_left _ (List.mem_of_getElem? (i := 7) rfl))) (gi_sub (fun w h => (List.mem_cons_of_mem _ (List.mem_append_right _ (List.mem_append_right _ (List.mem_append_right _ (List.mem_append_right _ (List.mem_append_right _ (List.mem_append_right _ (List.mem_append_left _ h))))))))) zg_j132_X12_readingTold)) rfl rfl rfl (by decide +kernel) ⟨Nat.le_of_ble_eq_true rfl, Nat.le_of_ble_eq_true rfl⟩ 0 rfl rfl rfl rfl (Nat.le_of_ble_eq_true rfl) ⟨Nat.le_of_ble_eq_true rfl, Nat.le_of_ble_eq_true rfl⟩ dX12_tellQuery_131 (fun v ty' w' hp hk' => ?_)
                        obtain ⟨I10768, A10768, L10768, hI10768, hA10768, hV10768, y10767, r10769, r10770, r10771, r10772, rfl, rfl⟩ := hp
                        have f10773 := IvM_f4 hV10768
                        rw [show (I10759 4) = (I10354 4) from (hI10759 4 rfl)] at r10769
                        have f10774 := IvM_f6 hV10768
                        have f10775 := IvM_f8 hV10768
                        rw [show (I10759 8) = (I10354 8) from (hI10759 8 rfl)] at r10771
                        rw [show (I10759 4) = (I10354 4) from (hI10759 4 rfl)] at r10772
                        show GW κ 4 0 0 (wM r g I10768 A10768 L10768) 134 [(3, .int x6262), (2, .int (I 4)), (1, .int y6248), (0, .ref (r 0))] [.int y10767, .int y10766, .ref (r 13)]
                        refine sM_12 (j := y10766.toNatClampNeg) hk (vp_in_iff.mpr ⟨by omega, by omega⟩) rfl dX12_tellQuery_134 ?_
                        refine g_aload_n hk dX12_tellQuery_135 rfl ?_
                        refine gM_i6 (v := (I10768 6)) hk hin12 (List.mem_cons_of_mem _ (List.mem_append_left _ (List.mem_of_getElem? (i := 16) rfl))) dX12_tellQuery_136 rfl ?_
                        refine g_if_le (tgt := 143) (a := (I10768 6).toInt) hk dX12_tellQuery_139 (by decide) rfl (fun c10776 => ?_) (fun c10776 => ?_)
                        · skip
                          refine g_aload_n hk dX12_tellQuery_143 rfl ?_
                          refine gM_r0_29 hk hin12 (List.mem_cons_of_mem _ (List.mem_append_left _ (List.mem_of_getElem? (i := 9) rfl))) dX12_tellQuery_144 ?_
                          refine g_iload_n hk dX12_tellQuery_147 rfl ?_
                          refine g_dup2 hk dX12_tellQuery_148 rfl rfl ?_
                          refine lM_11 (v := (A10354 11 y6248.toNatClampNeg)) hk (vp_in_iff.mpr ⟨by omega, by omega⟩) ((congrFun (hA10768 11 rfl) _).trans (congrFun (hA10759 11 rfl) _)) dX12_tellQuery_149 ?_
                          refine g_iconst (v := 1) hk dX12_tellQuery_150 (by decide) ?_
                          refine g_iadd hk dX12_tellQuery_151 ?_
                          refine g_topi (fun y10777 ey10777 => ?_)
                          have hy10777 : y10777.toInt = (A10354 11 y6248.toNatClampNeg).toInt + 1 := i32_add ey10777 rfl rfl (by omega) (by omega)
                          refine sM_11 (j := y6248.toNatClampNeg) hk (vp_in_iff.mpr ⟨by omega, by omega⟩) rfl dX12_tellQuery_152 ?_
                          have hA10778 : ∀ j, 0 ≤ ((up3 (up3 A10768 12 (y10766.toNatClampNeg) y10767) 11 (y6248.toNatClampNeg) y10777) 11 j).toInt ∧ ((up3 (up3 A10768 12 (y10766.toNatClampNeg) y10767) 11 (y6248.toNatClampNeg) y10777) 11 j).toInt ≤ 16 := ai_st ((IvM_a11 hV10768)) ⟨by omega, by omega⟩
                          refine g_aload_n hk dX12_tellQuery_153 rfl ?_
                          refine g_dup hk dX12_tellQuery_154 rfl ?_
                          refine gM_i11 (v := (I10354 11)) hk hin12 (List.mem_cons_of_mem _ (List.mem_append_left _ (List.mem_of_getElem? (i := 0) rfl))) dX12_tellQuery_155 ((hI10768 11 rfl).trans (hI10759 11 rfl)) ?_
                          refine g_iconst (v := 1) hk dX12_tellQuery_158 (by decide) ?_
                          have b10779l := Int32.le_toInt (I10354 11)
                          have b10779h := Int32.toInt_lt (I10354 11)
                          refine g_iadd hk dX12_tellQuery_159 ?_
                          refine g_topi (fun y10780 ey10780 => ?_)
                          refine pM_i11 hk hin12 (List.mem_cons_of_mem _ (List.mem_append_left _ (List.mem_of_getElem? (i := 0) rfl))) dX12_tellQuery_160 ?_
                          refine g_goto (tgt := 84) hk dX12_tellQuery_163 (by decide) ?_
                          have g10781 : (I10768 15).toInt = (I 15).toInt := by rw [show (I10768 15) = (I 15) from ((hI10768 15 rfl).trans ((hI10759 15 rfl).trans ((hI10354 15 rfl).trans ((hI6266 15 rfl).trans (hI6252 15 rfl)))))]
                          have g10782 : (I10768 16).toInt = (I 16).toInt := by rw [show (I10768 16) = (I 16) from ((hI10768 16 rfl).trans ((hI10759 16 rfl).trans ((hI10354 16 rfl).trans ((hI6266 16 rfl).trans (hI6252 16 rfl)))))]
                          have g10783 := IvM_s10_0 (I := I10768) (A := A10768) hV10768
                          have g10784 := IvM_s10_1 (I := I10768) (A := A10768) hV10768
                          have q10785 := cl_int (y := y6248) (by omega)
                          have g10786 : (A10768 10 0).toInt = (A 10 0).toInt := by rw [show (A10768 10 0) = (A 10 0) from ((congrFun (hA10768 10 rfl) _).trans ((congrFun (hA10759 10 rfl) _).trans ((congrFun (hA10354 10 rfl) _).trans ((congrFun (hA6266 10 rfl) _).trans (congrFun (hA6252 10 rfl) _)))))]
                          have g10787 : (A10768 10 1).toInt = (A 10 1).toInt := by rw [show (A10768 10 1) = (A 10 1) from ((congrFun (hA10768 10 rfl) _).trans ((congrFun (hA10759 10 rfl) _).trans ((congrFun (hA10354 10 rfl) _).trans ((congrFun (hA6266 10 rfl) _).trans (congrFun (hA6252 10 rfl) _)))))]
                          have q10788 := cl_int (y := y6248) (by omega)
                          exact g_lv (List.forall_mem_cons.mpr ⟨List.mem_of_getElem? (i := 0) rfl, (List.forall_mem_cons.mpr ⟨List.mem_of_getElem? (i := 1) rfl, (List.forall_mem_cons.mpr ⟨List.mem_of_getElem? (i := 2) rfl, (List.forall_mem_cons.mpr ⟨List.mem_of_getElem? (i := 3) rfl, (fun _ h => absurd h List.not_mem_nil)⟩)⟩)⟩)⟩) (ih10623 (upd I10768 11 y10780) (up3 (up3 A10768 12 (y10766.toNatClampNeg) y10767) 11 (y6248.toNatClampNeg) y10777) L10768 (show Md [4, 6, 7, 8, 9, 11, 12, 13] I6266 (upd I10768 11 y10780) from Md.tr hI10354 (show Md [4, 6, 7, 8, 9, 11, 12, 13] I10354 (upd I10768 11 y10780) from (Md.up (Md.tr (Md.tr Md.rf hI10759 rfl) hI10768 rfl) rfl)) rfl) (show Md [11, 12] (up3 A6266 11 (y6248.toNatClampNeg) 0) (up3 (up3 A10768 12 (y10766.toNatClampNeg) y10767) 11 (y6248.toNatClampNeg) y10777) from Md.tr hA10354 (show Md [11, 12] A10354 (up3 (up3 A10768 12 (y10766.toNatClampNeg) y10767) 11 (y6248.toNatClampNeg) y10777) from (Md.up3 (Md.up3 (Md.tr (Md.tr Md.rf hA10759 rfl) hA10768 rfl) rfl) rfl)) rfl) ⟨(IvM_f1 (I := I10768) (A := A10768) hV10768), (IvM_f2 (I := I10768) (A := A10768) hV10768), (IvM_f3 (I := I10768) (A := A10768) hV10768), (IvM_f4 (I := I10768) (A := A10768) hV10768), (IvM_f6 (I := I10768) (A := A10768) hV10768), (IvM_f8 (I := I10768) (A := A10768) hV10768), (IvM_f15 (I := I10768) (A := A10768) hV10768), (IvM_f16 (I := I10768) (A := A10768) hV10768), (IvM_f17 (I := I10768) (A := A10768) hV10768), (IvM_f18 (I := I10768) (A := A10768) hV10768), (IvM_f22 (I := I10768) (A := A10768) hV10768), (IvM_f23 (I := I10768) (A := A10768) hV10768), (IvM_f24 (I := I10768) (A := A10768) hV10768), hA10778, (IvM_a26 (I := I10768) (A := A10768) hV10768), (IvM_s8_0 (I := I10768) (A := A10768) hV10768), (IvM_s8_1 (I := I10768) (A := A10768) hV10768), (IvM_s10_0 (I := I10768) (A := A10768) hV10768), (IvM_s10_1 (I := I10768) (A := A10768) hV10768), (IvM_s17_0 (I := I10768) (A := A10768) hV10768), (IvM_s17_164 (I := I10768) (A := A10768) hV10768), ⟨fun e => by have e : (I10768 15).toInt = 0 := e; first | exact ghf_upd (n := (A10768 10 0)) ((IvM_lv (I := I10768) (A := A10768) hV10768).1 e) (fun q hq => by omega) | (exfalso; omega), fun e => by have e : (I10768 15).toInt = 1 := e; first | exact ghf_upd (n := (A10768 10 1)) ((IvM_lv (I := I10768) (A := A10768) hV10768).2 e) (fun q hq => by omega) | (exfalso; omega)⟩, (by rcases (IvM_sd (I := I10768) (A := A10768) hV10768) with h9 | h9 | h9; exact Or.inl h9; exact Or.inr (Or.inl h9); exact Or.inr (Or.inr ⟨fun e => by have e : (I10768 16).toInt = 0 := e; first | exact ghf_upd (n := (A10768 10 0)) (h9.1 e) (fun q hq => by omega) | (exfalso; omega), fun e => by have e : (I10768 16).toInt = 1 := e; first | exact ghf_upd (n := (A10768 10 1)) (h9.2 e) (fun q hq => by omega) | (exfalso; omega)⟩)), (IvM_nq (I := I10768) (A := A10768) hV10768), (IvM_hr (I := I10768) (A := A10768) hV10768), (IvM_hh (I := I10768) (A := A10768) hV10768), trivial⟩ (by first | (rw [show ((upd I10768 11 y10780) 4) = (I10768 4) from rfl] <;> omega) | omega) (by first | (rw [show ((upd I10768 11 y10780) 6) = (I10768 6) from rfl] <;> omega) | omega) (by first | (rw [show ((upd I10768 11 y10780) 8) = (I10768 8) from rfl] <;> omega) | omega) (by first | (rw [show ((upd I10768 11 y10780) 4) = (I10768 4) from rfl] <;> omega) | omega) (by omega))
                        · skip
                          exact g_vret hk hR ⟨I10768, (up3 A10768 12 (y10766.toNatClampNeg) y10767), L10768, (show Md [4, 6, 7, 8, 9, 11, 12, 13, 17] I I10768 from (Md.tr (Md.tr (Md.tr (Md.tr (Md.tr (Md.up Md.rf rfl) hI6252 rfl) hI6266 rfl) hI10354 rfl) hI10759 rfl) hI10768 rfl)), (show Md [10, 11, 12] A (up3 A10768 12 (y10766.toNatClampNeg) y10767) from (Md.up3 (Md.tr (Md.tr (Md.tr (Md.up3 (Md.tr (Md.tr Md.rf hA6252 rfl) hA6266 rfl) rfl) hA10354 rfl) hA10759 rfl) hA10768 rfl) rfl)), ⟨(IvM_f1 (I := I10768) (A := A10768) hV10768), (IvM_f2 (I := I10768) (A := A10768) hV10768), (IvM_f3 (I := I10768) (A := A10768) hV10768), (IvM_f4 (I := I10768) (A := A10768) hV10768), (IvM_f6 (I := I10768) (A := A10768) hV10768), (IvM_f8 (I := I10768) (A := A10768) hV10768), (IvM_f15 (I := I10768) (A := A10768) hV10768), (IvM_f16 (I := I10768) (A := A10768) hV10768), (IvM_f17 (I := I10768) (A := A10768) hV10768), (IvM_f18 (I := I10768) (A := A10768) hV10768), (IvM_f22 (I := I10768) (A := A10768) hV10768), (IvM_f23 (I := I10768) (A := A10768) hV10768), (IvM_f24 (I := I10768) (A := A10768) hV10768), (IvM_a11 (I := I10768) (A := A10768) hV10768), (IvM_a26 (I := I10768) (A := A10768) hV10768), (IvM_s8_0 (I := I10768) (A := A10768) hV10768), (IvM_s8_1 (I := I10768) (A := A10768) hV10768), (IvM_s10_0 (I := I10768) (A := A10768) hV10768), (IvM_s10_1 (I := I10768) (A := A10768) hV10768), (IvM_s17_0 (I := I10768) (A := A10768) hV10768), (IvM_s17_164 (I := I10768) (A := A10768) hV10768), (IvM_lv (I := I10768) (A := A10768) hV10768), (IvM_sd (I := I10768) (A := A10768) hV10768), (IvM_nq (I := I10768) (A := A10768) hV10768), (IvM_hr (I := I10768) (A := A10768) hV10768), (IvM_hh (I := I10768) (A := A10768) hV10768), trivial⟩, (by omega), (by omega), (by omega), rfl, rfl⟩ dX12_tellQuery_142
                      · skip
                        exact g_vret hk hR ⟨I10759, A10759, L10759, (show Md [4, 6, 7, 8, 9, 11, 12, 13, 17] I I10759 from (Md.tr (Md.tr (Md.tr (Md.tr (Md.up Md.rf rfl) hI6252 rfl) hI6266 rfl) hI10354 rfl) hI10759 rfl)), (show Md [10, 11, 12] A A10759 from (Md.tr (Md.tr (Md.up3 (Md.tr (Md.tr Md.rf hA6252 rfl) hA6266 rfl) rfl) hA10354 rfl) hA10759 rfl)), hV10759, (by rw [show (I10759 4) = (I10354 4) from (hI10759 4 rfl)] <;> omega), (by omega), (by rw [show (I10759 8) = (I10354 8) from (hI10759 8 rfl)] <;> omega), rfl, rfl⟩ dX12_tellQuery_114
              obtain ⟨n10789, n10789a, n10789b⟩ : ∃ n : Nat, 401 - (I6252 4).toInt < (n : Int) ∧ 0 < n := ⟨((401 - (I6252 4).toInt : Int)).toNat + 1, by omega, by omega⟩
              have g10790 : (I6266 15).toInt = (I 15).toInt := by rw [show (I6266 15) = (I 15) from ((hI6266 15 rfl).trans (hI6252 15 rfl))]
              have g10791 : (I6266 16).toInt = (I 16).toInt := by rw [show (I6266 16) = (I 16) from ((hI6266 16 rfl).trans (hI6252 16 rfl))]
              have g10792 := IvM_s10_0 (I := I6266) (A := A6266) hV6266
              have g10793 := IvM_s10_1 (I := I6266) (A := A6266) hV6266
              have q10794 := cl_int (y := y6248) (by omega)
              have g10795 : (A6266 10 0).toInt = (A 10 0).toInt := by rw [show (A6266 10 0) = (A 10 0) from ((congrFun (hA6266 10 rfl) _).trans (congrFun (hA6252 10 rfl) _))]
              have g10796 : (A6266 10 1).toInt = (A 10 1).toInt := by rw [show (A6266 10 1) = (A 10 1) from ((congrFun (hA6266 10 rfl) _).trans (congrFun (hA6252 10 rfl) _))]
              have g10797 : (I6266 6).toInt = (I6252 6).toInt := by rw [show (I6266 6) = (I6252 6) from (hI6266 6 rfl)]
              have q10798 := cl_int (y := y6248) (by omega)
              exact lp10620 n10789 I6266 (up3 A6266 11 (y6248.toNatClampNeg) 0) L6266 Md.rf Md.rf ⟨(IvM_f1 (I := I6266) (A := A6266) hV6266), (IvM_f2 (I := I6266) (A := A6266) hV6266), (IvM_f3 (I := I6266) (A := A6266) hV6266), (IvM_f4 (I := I6266) (A := A6266) hV6266), (IvM_f6 (I := I6266) (A := A6266) hV6266), (IvM_f8 (I := I6266) (A := A6266) hV6266), (IvM_f15 (I := I6266) (A := A6266) hV6266), (IvM_f16 (I := I6266) (A := A6266) hV6266), (IvM_f17 (I := I6266) (A := A6266) hV6266), (IvM_f18 (I := I6266) (A := A6266) hV6266), (IvM_f22 (I := I6266) (A := A6266) hV6266), (IvM_f23 (I := I6266) (A := A6266) hV6266), (IvM_f24 (I := I6266) (A := A6266) hV6266), hA10349, (IvM_a26 (I := I6266) (A := A6266) hV6266), (IvM_s8_0 (I := I6266) (A := A6266) hV6266), (IvM_s8_1 (I := I6266) (A := A6266) hV6266), (IvM_s10_0 (I := I6266) (A := A6266) hV6266), (IvM_s10_1 (I := I6266) (A := A6266) hV6266), (IvM_s17_0 (I := I6266) (A := A6266) hV6266), (IvM_s17_164 (I := I6266) (A := A6266) hV6266), ⟨fun e => by have e : (I6266 15).toInt = 0 := e; first | exact ghf_upd (n := (A6266 10 0)) ((IvM_lv (I := I6266) (A := A6266) hV6266).1 e) (fun q hq => by omega) | (exfalso; omega), fun e => by have e : (I6266 15).toInt = 1 := e; first | exact ghf_upd (n := (A6266 10 1)) ((IvM_lv (I := I6266) (A := A6266) hV6266).2 e) (fun q hq => by omega) | (exfalso; omega)⟩, (by rcases (IvM_sd (I := I6266) (A := A6266) hV6266) with h9 | h9 | h9; exact Or.inl h9; exact Or.inr (Or.inl h9); exact Or.inr (Or.inr ⟨fun e => by have e : (I6266 16).toInt = 0 := e; first | exact ghf_upd (n := (A6266 10 0)) (h9.1 e) (fun q hq => by omega) | (exfalso; omega), fun e => by have e : (I6266 16).toInt = 1 := e; first | exact ghf_upd (n := (A6266 10 1)) (h9.2 e) (fun q hq => by omega) | (exfalso; omega)⟩)), (IvM_nq (I := I6266) (A := A6266) hV6266), (IvM_hr (I := I6266) (A := A6266) hV6266), (IvM_hh (I := I6266) (A := A6266) hV6266), trivial⟩ (by first | (rw [show (I6266 4) = (I6252 4) from (hI6266 4 rfl)] <;> omega) | omega) (by first | (rw [show (I6266 6) = (I6252 6) from (hI6266 6 rfl)] <;> omega) | omega) (by omega) (by first | exact n10789a | (rw [show (I6266 4) = (I6252 4) from (hI6266 4 rfl)] <;> exact n10789a)) n10789b
            · skip
              refine g_aload_n hk dX12_tellQuery_49 rfl ?_
              refine gM_r0_25 hk hin12 (List.mem_cons_of_mem _ (List.mem_append_left _ (List.mem_of_getElem? (i := 17) rfl))) dX12_tellQuery_50 ?_
              refine g_iload_n hk dX12_tellQuery_53 rfl ?_
              refine lM_7 hk (vp_in_iff.mpr ⟨by omega, by omega⟩) rfl dX12_tellQuery_54 ?_
              refine g_topl (fun y10799 ey10799 => ?_)
              refine g_aload_n hk dX12_tellQuery_55 rfl ?_
              refine gM_r0_8 hk hin12 (List.mem_cons_of_mem _ (List.mem_append_left _ (List.mem_of_getElem? (i := 18) rfl))) dX12_tellQuery_56 ?_
              refine g_iload_n hk dX12_tellQuery_59 rfl ?_
              refine lM_5 hk (vp_in_iff.mpr ⟨by omega, by omega⟩) rfl dX12_tellQuery_60 ?_
              refine g_topl (fun y10800 ey10800 => ?_)
              refine g_lcmp hk dX12_tellQuery_61 ?_
              refine g_topi (fun y10801 ey10801 => ?_)
              have b10802l := Int32.le_toInt y10801
              have b10802h := Int32.toInt_lt y10801
              refine g_if_ne (tgt := 71) (a := y10801.toInt) hk dX12_tellQuery_62 (by decide) rfl (fun c10803 => ?_) (fun c10803 => ?_)
              · skip
                obtain ⟨y10804, ey10804⟩ : ∃ y : Int32, y = x6262 + Int32.ofInt 1 := ⟨_, rfl⟩
                have hy10804 : y10804.toInt = x6262.toInt + 1 := i32_add ey10804 rfl (by decide) (by omega) (by omega)
                refine g_iinc (v := y10804) (lv' := [(3, .int y10804), (2, .int (I 4)), (1, .int y6248), (0, .ref (r 0))]) hk 0 dX12_tellQuery_71 rfl ey10804.symm (by decide) rfl ?_
                refine g_goto (tgt := 34) hk dX12_tellQuery_74 (by decide) ?_
                exact g_lv (List.forall_mem_cons.mpr ⟨List.mem_of_getElem? (i := 0) rfl, (List.forall_mem_cons.mpr ⟨List.mem_of_getElem? (i := 1) rfl, (List.forall_mem_cons.mpr ⟨List.mem_of_getElem? (i := 2) rfl, (List.forall_mem_cons.mpr ⟨List.mem_of_getElem? (i := 3) rfl, (fun _ h => absurd h List.not_mem_nil)⟩)⟩)⟩)⟩) (ih9873 y10804 I6266 A6266 L6266 (show Md [8, 9, 13] I6252 I6266 from Md.tr hI6266 (show Md [8, 9, 13] I6266 I6266 from Md.rf) rfl) (show Md [] A6252 A6266 from Md.tr hA6266 (show Md [] A6266 A6266 from Md.rf) rfl) hV6266 (by omega) (by omega) (by first | (rw [show (I6266 4) = (I6252 4) from (hI6266 4 rfl)] <;> omega) | omega) (by first | (rw [show (I6266 6) = (I6252 6) from (hI6266 6 rfl)] <;> omega) | omega) (by omega) (by omega) (by omega))
              · skip
                refine g_aload_n hk dX12_tellQuery_65 rfl ?_
                refine g_iconst (v := 3) hk dX12_tellQuery_66 (by decide) ?_
                refine g_iload_n hk dX12_tellQuery_67 rfl ?_
                have k10805 : (3 : Int32).toInt = 3 := rfl
                refine g_callV (n := 2) hk (j134_X12_wrong l D zt r g I6266 A6266 L6266 3 (I 4) hV6266 (by decide) (by decide) (by omega) (by omega)) (SP.same _) (fun _ h => h) (gi_V (List.mem_cons_of_mem _ (List.mem_append_left _ (List.mem_of_getElem? (i := 19) rfl))) (List.mem_cons_of_mem _ (List.mem_append_left _ (List.mem_of_getElem? (i := 20) rfl))) (List.mem_cons_of_mem _ (List.mem_append_left _ (List.mem_of_getElem? (i := 21) rfl))) (List.mem_cons_of_mem _ (List.mem_append_left _ (List.mem_of_getElem? (i := 7) rfl))) (gi_sub (fun w h => (List.mem_cons_of_mem _ (List.mem_append_right _ (List.mem_append_right _ (List.mem_append_right _ (List.mem_append_right _ (List.mem_append_right _ (List.mem_append_left _ h)))))))) zg_j134_X12_wrong)) rfl rfl rfl (by decide +kernel) ⟨Nat.le_of_ble_eq_true rfl, Nat.le_of_ble_eq_true rfl⟩ 0 rfl rfl rfl rfl (Nat.le_of_ble_eq_true rfl) ⟨Nat.le_of_ble_eq_true rfl, Nat.le_of_ble_eq_true rfl⟩ dX12_tellQuery_68 (fun v ty' w' hp hk' => ?_)
                obtain ⟨I10807, A10807, L10807, hI10807, hA10807, hV10807, r10808, r10809, r10810, rfl, rfl⟩ := hp
                rw [show (I6266 6) = (I6252 6) from (hI6266 6 rfl), show (I10807 6) = (I6252 6) from ((hI10807 6 rfl).trans (hI6266 6 rfl))] at r10808
                have f10811 := IvM_f8 hV10807
                rw [show (I10807 6) = (I6252 6) from ((hI10807 6 rfl).trans (hI6266 6 rfl))] at r10810
                show GW κ 4 0 0 (wM r g I10807 A10807 L10807) 71 [(3, .int x6262), (2, .int (I 4)), (1, .int y6248), (0, .ref (r 0))] []
                obtain ⟨y10812, ey10812⟩ : ∃ y : Int32, y = x6262 + Int32.ofInt 1 := ⟨_, rfl⟩
                have hy10812 : y10812.toInt = x6262.toInt + 1 := i32_add ey10812 rfl (by decide) (by omega) (by omega)
                refine g_iinc (v := y10812) (lv' := [(3, .int y10812), (2, .int (I 4)), (1, .int y6248), (0, .ref (r 0))]) hk 0 dX12_tellQuery_71 rfl ey10812.symm (by decide) rfl ?_
                refine g_goto (tgt := 34) hk dX12_tellQuery_74 (by decide) ?_
                exact g_lv (List.forall_mem_cons.mpr ⟨List.mem_of_getElem? (i := 0) rfl, (List.forall_mem_cons.mpr ⟨List.mem_of_getElem? (i := 1) rfl, (List.forall_mem_cons.mpr ⟨List.mem_of_getElem? (i := 2) rfl, (List.forall_mem_cons.mpr ⟨List.mem_of_getElem? (i := 3) rfl, (fun _ h => absurd h List.not_mem_nil)⟩)⟩)⟩)⟩) (ih9873 y10812 I10807 A10807 L10807 (show Md [8, 9, 13] I6252 I10807 from Md.tr hI6266 (show Md [8, 9, 13] I6266 I10807 from (Md.tr Md.rf hI10807 rfl)) rfl) (show Md [] A6252 A10807 from Md.tr hA6266 (show Md [] A6266 A10807 from (Md.tr Md.rf hA10807 rfl)) rfl) hV10807 (by omega) (by omega) (by first | (rw [show (I10807 4) = (I6252 4) from ((hI10807 4 rfl).trans (hI6266 4 rfl))] <;> omega) | omega) (by first | (rw [show (I10807 6) = (I6252 6) from ((hI10807 6 rfl).trans (hI6266 6 rfl))] <;> omega) | omega) (by omega) (by omega) (by omega))
      have k10813 : (0 : Int32).toInt = 0 := rfl
      obtain ⟨n10814, n10814a, n10814b⟩ : ∃ n : Nat, 6 - (0 : Int32).toInt < (n : Int) ∧ 0 < n := ⟨((6 - (0 : Int32).toInt : Int)).toNat + 1, by omega, by omega⟩
      exact lp9870 n10814 0 I6252 A6252 L6252 Md.rf Md.rf hV6252 (by omega) (by omega) (by omega) (by omega) (by first | (rw [show (I6252 8) = (I 8) from (hI6252 8 rfl)] <;> omega) | omega) n10814a n10814b
    exfalso; omega
  by_cases c10815 : (I 16).toInt = 1
  · have ec10815 : (I 16) = 1 := Int32.toInt_inj.mp c10815
    rw [ec10815]
    show GW κ 4 0 0 (wM r g (upd I 11 0) A L) 10 [(0, .ref (r 0))] [.int 1, .int 5]
    refine g_imul hk dX12_tellQuery_10 ?_
    refine g_norm (v := 5) (by decide) ?_
    refine g_aload_n hk dX12_tellQuery_11 rfl ?_
    refine gM_r0_28 hk hin12 (List.mem_cons_of_mem _ (List.mem_append_left _ (List.mem_of_getElem? (i := 2) rfl))) dX12_tellQuery_12 ?_
    refine g_aload_n hk dX12_tellQuery_15 rfl ?_
    refine gM_i16 (v := (I 16)) hk hin12 (List.mem_cons_of_mem _ (List.mem_append_left _ (List.mem_of_getElem? (i := 1) rfl))) dX12_tellQuery_16 rfl ?_
    by_cases c10816 : (I 16).toInt = 1
    · have ec10816 : (I 16) = 1 := Int32.toInt_inj.mp c10816
      rw [ec10816]
      show GW κ 4 0 0 (wM r g (upd I 11 0) A L) 19 [(0, .ref (r 0))] [.int 1, .ref (r 11), .int 5]
      refine lM_10 (v := (A 10 1)) hk (vp_in_iff.mpr ⟨by decide, by decide⟩) rfl dX12_tellQuery_19 ?_
      have f10817 := IvM_s10_1 hIv
      refine g_iadd hk dX12_tellQuery_20 ?_
      refine g_topi (fun y10818 ey10818 => ?_)
      have hy10818 : y10818.toInt = 5 + (A 10 1).toInt := i32_add ey10818 rfl rfl (by omega) (by omega)
      refine g_istore_n (lv' := [(1, .int y10818), (0, .ref (r 0))]) hk dX12_tellQuery_21 (by decide) rfl ?_
      refine g_aload_n hk dX12_tellQuery_22 rfl ?_
      refine gM_i4 (v := (I 4)) hk hin12 (List.mem_cons_of_mem _ (List.mem_append_left _ (List.mem_of_getElem? (i := 3) rfl))) dX12_tellQuery_23 rfl ?_
      have f10819 := IvM_f4 hIv
      refine g_istore_n (lv' := [(2, .int (I 4)), (1, .int y10818), (0, .ref (r 0))]) hk dX12_tellQuery_26 (by decide) rfl ?_
      refine g_aload_n hk dX12_tellQuery_27 rfl ?_
      refine g_iconst (v := 1) hk dX12_tellQuery_28 (by decide) ?_
      have k10820 : (1 : Int32).toInt = 1 := rfl
      refine g_callV (n := 1) hk (j131_X12_must l D zt r g (upd I 11 0) A L 1 ⟨(IvM_f1 (I := I) (A := A) hIv), (IvM_f2 (I := I) (A := A) hIv), (IvM_f3 (I := I) (A := A) hIv), (IvM_f4 (I := I) (A := A) hIv), (IvM_f6 (I := I) (A := A) hIv), (IvM_f8 (I := I) (A := A) hIv), (IvM_f15 (I := I) (A := A) hIv), (IvM_f16 (I := I) (A := A) hIv), (IvM_f17 (I := I) (A := A) hIv), (IvM_f18 (I := I) (A := A) hIv), (IvM_f22 (I := I) (A := A) hIv), (IvM_f23 (I := I) (A := A) hIv), (IvM_f24 (I := I) (A := A) hIv), (IvM_a11 (I := I) (A := A) hIv), (IvM_a26 (I := I) (A := A) hIv), (IvM_s8_0 (I := I) (A := A) hIv), (IvM_s8_1 (I := I) (A := A) hIv), (IvM_s10_0 (I := I) (A := A) hIv), (IvM_s10_1 (I := I) (A := A) hIv), (IvM_s17_0 (I := I) (A := A) hIv), (IvM_s17_164 (I := I) (A := A) hIv), (IvM_lv (I := I) (A := A) hIv), (IvM_sd (I := I) (A := A) hIv), (IvM_nq (I := I) (A := A) hIv), (IvM_hr (I := I) (A := A) hIv), (IvM_hh (I := I) (A := A) hIv), trivial⟩) (SP.same _) (fun _ h => h) (gi_V (List.mem_cons_of_mem _ (List.mem_append_left _ (List.mem_of_getElem? (i := 4) rfl))) (List.mem_cons_of_mem _ (List.mem_append_left _ (List.mem_of_getElem? (i := 5) rfl))) (List.mem_cons_of_mem _ (List.mem_append_left _ (List.mem_of_getElem? (i := 6) rfl))) (List.mem_cons_of_mem _ (List.mem_append_left _ (List.mem_of_getElem? (i := 7) rfl))) (gi_sub (fun w h => (List.mem_cons_of_mem _ (List.mem_append_right _ (List.mem_append_right _ (List.mem_append_left _ h))))) zg_j131_X12_must)) rfl rfl rfl (by decide +kernel) ⟨Nat.le_of_ble_eq_true rfl, Nat.le_of_ble_eq_true rfl⟩ 0 rfl rfl rfl rfl (Nat.le_of_ble_eq_true rfl) ⟨Nat.le_of_ble_eq_true rfl, Nat.le_of_ble_eq_true rfl⟩ dX12_tellQuery_29 (fun v ty' w' hp hk' => ?_)
      obtain ⟨I10822, A10822, L10822, hI10822, hA10822, hV10822, r10823, r10824, r10825, r10826, r10827, rfl, rfl⟩ := hp
      have f10828 := IvM_f4 hV10822
      rw [show ((upd I 11 0) 4) = (I 4) from rfl] at r10823
      have f10829 := IvM_f6 hIv
      have f10830 := IvM_f6 hV10822
      rw [show ((upd I 11 0) 6) = (I 6) from rfl] at r10824
      have f10831 := IvM_f8 hIv
      rw [show ((upd I 11 0) 8) = (I 8) from rfl, show (I10822 8) = (I 8) from (hI10822 8 rfl)] at r10825
      rw [show ((upd I 11 0) 4) = (I 4) from rfl] at r10826
      rw [show ((upd I 11 0) 6) = (I 6) from rfl, show (A 2 ((upd I 11 0) 4).toNatClampNeg) = (A 2 (I 4).toNatClampNeg) from rfl] at r10827
      show GW κ 4 0 0 (wM r g I10822 A10822 L10822) 32 [(2, .int (I 4)), (1, .int y10818), (0, .ref (r 0))] []
      refine g_iconst (v := 0) hk dX12_tellQuery_32 (by decide) ?_
      refine g_istore_n (lv' := [(3, .int 0), (2, .int (I 4)), (1, .int y10818), (0, .ref (r 0))]) hk dX12_tellQuery_33 (by decide) rfl ?_
      have f14432 := IvM_f4 hIv
      have f14433 := IvM_f6 hIv
      have f14434 := IvM_f8 hIv
      have lp14440 : ∀ (n14441 : Nat) (x10832 : Int32) (I10836 : Nat → Int32) (A10836 : Nat → Nat → Int32) (L10836 : Nat → Nat → Int64), (Md [8, 9, 13] I10822 I10836) → (Md [] A10822 A10836) → (IvM I10836 A10836) → (0 ≤ x10832.toInt) → (x10832.toInt ≤ 5) → ((I 4).toInt ≤ (I10822 4).toInt) → ((I 6).toInt ≤ (I10822 6).toInt) → ((I 8).toInt ≤ 9 * (I10836 8).toInt) → (6 - x10832.toInt < (n14441 : Int)) → (0 < n14441) → GW κ 4 0 0 (wM r g I10836 A10836 L10836) 34 [(3, .int x10832), (2, .int (I 4)), (1, .int y10818), (0, .ref (r 0))] [] := by
        intro n14441
        induction n14441 with
        | zero =>
          intro x10832 I10836 A10836 L10836 hI10836 hA10836 hV10836 h14435 h14436 h14437 h14438 h14439 m14442 m14442z
          exact absurd m14442z (Nat.lt_irrefl 0)
        | succ n14441 ih14443 =>
          intro x10832 I10836 A10836 L10836 hI10836 hA10836 hV10836 h14435 h14436 h14437 h14438 h14439 m14442 m14442z
          have f14444 := IvM_f8 hV10836
          refine g_iload_n hk dX12_tellQuery_34 rfl ?_
          refine g_aload_n hk dX12_tellQuery_35 rfl ?_
          refine gM_i17 (v := (I 17)) hk hin12 (List.mem_cons_of_mem _ (List.mem_append_left _ (List.mem_of_getElem? (i := 8) rfl))) dX12_tellQuery_36 ((hI10836 17 rfl).trans (hI10822 17 rfl)) ?_
          have f14445 := IvM_f17 hIv
          refine g_icmp_ge (tgt := 77) (a := x10832.toInt) (b := (I 17).toInt) hk dX12_tellQuery_39 (by decide) rfl rfl (fun c14446 => ?_) (fun c14446 => ?_)
          · skip
            refine g_aload_n hk dX12_tellQuery_77 rfl ?_
            refine gM_r0_29 hk hin12 (List.mem_cons_of_mem _ (List.mem_append_left _ (List.mem_of_getElem? (i := 9) rfl))) dX12_tellQuery_78 ?_
            refine g_iload_n hk dX12_tellQuery_81 rfl ?_
            refine g_iconst (v := 0) hk dX12_tellQuery_82 (by decide) ?_
            have k14447 : (0 : Int32).toInt = 0 := rfl
            refine sM_11 (j := y10818.toNatClampNeg) hk (vp_in_iff.mpr ⟨by omega, by omega⟩) rfl dX12_tellQuery_83 ?_
            have hA14448 : ∀ j, 0 ≤ ((up3 A10836 11 (y10818.toNatClampNeg) 0) 11 j).toInt ∧ ((up3 A10836 11 (y10818.toNatClampNeg) 0) 11 j).toInt ≤ 16 := ai_st ((IvM_a11 hV10836)) ⟨by omega, by omega⟩
            have f14732 := IvM_f4 hIv
            have f14733 := IvM_f6 hIv
            have f14734 := IvM_f8 hIv
            have lp14738 : ∀ (n14739 : Nat) (I14453 : Nat → Int32) (A14453 : Nat → Nat → Int32) (L14453 : Nat → Nat → Int64), (Md [4, 6, 7, 8, 9, 11, 12, 13] I10836 I14453) → (Md [11, 12] (up3 A10836 11 (y10818.toNatClampNeg) 0) A14453) → (IvM I14453 A14453) → ((I 4).toInt ≤ (I14453 4).toInt) → ((I 6).toInt ≤ (I14453 6).toInt) → ((I 8).toInt ≤ 9 * (I14453 8).toInt) → (401 - (I14453 4).toInt < (n14739 : Int)) → (0 < n14739) → GW κ 4 0 0 (wM r g I14453 A14453 L14453) 84 [(3, .int x10832), (2, .int (I 4)), (1, .int y10818), (0, .ref (r 0))] [] := by
              intro n14739
              induction n14739 with
              | zero =>
                intro I14453 A14453 L14453 hI14453 hA14453 hV14453 h14735 h14736 h14737 m14740 m14740z
                exact absurd m14740z (Nat.lt_irrefl 0)
              | succ n14739 ih14741 =>
                intro I14453 A14453 L14453 hI14453 hA14453 hV14453 h14735 h14736 h14737 m14740 m14740z
                have f14742 := IvM_f4 hV14453
                have f14743 := IvM_f6 hV14453
                have f14744 := IvM_f8 hV14453
                refine g_aload_n hk dX12_tellQuery_84 rfl ?_
                refine g_callV (n := 0) hk (j130_X12_isReading l D zt r g I14453 A14453 L14453  hV14453) (SP.same _) (fun _ h => h) (gi_V (List.mem_cons_of_mem _ (List.mem_append_left _ (List.mem_of_getElem? (i := 10) rfl))) (List.mem_cons_of_mem _ (List.mem_append_left _ (List.mem_of_getElem? (i := 11) rfl))) (List.mem_cons_of_mem _ (List.mem_append_left _ (List.mem_of_getElem? (i := 12) rfl))) (List.mem_cons_of_mem _ (List.mem_append_left _ (List.mem_of_getElem? (i := 7) rfl))) (gi_sub (fun w h => (List.mem_cons_of_mem _ (List.mem_append_right _ (List.mem_append_right _ (List.mem_append_right _ (List.mem_append_left _ h)))))) zg_j130_X12_isReading)) rfl rfl rfl (by decide +kernel) ⟨Nat.le_of_ble_eq_true rfl, Nat.le_of_ble_eq_true rfl⟩ 0 rfl rfl rfl rfl (Nat.le_of_ble_eq_true rfl) ⟨Nat.le_of_ble_eq_true rfl, Nat.le_of_ble_eq_true rfl⟩ dX12_tellQuery_85 (fun v ty' w' hp hk' => ?_)
                rcases hp with ⟨rfl, rfl⟩ | ⟨rfl, rfl⟩
                · skip
                  show GW κ 4 0 0 (wM r g I14453 A14453 L14453) 88 [(3, .int x10832), (2, .int (I 4)), (1, .int y10818), (0, .ref (r 0))] [.int 0]
                  refine g_if_eq (tgt := 166) (a := 0) hk dX12_tellQuery_88 (by decide) rfl (fun _ => ?_) (fun z9 => absurd (show (0 : Int) = (0 : Int) from by decide) z9)
                  refine g_aload_n hk dX12_tellQuery_166 rfl ?_
                  refine g_iconst (v := 4) hk dX12_tellQuery_167 (by decide) ?_
                  have k14747 : (4 : Int32).toInt = 4 := rfl
                  refine g_callV (n := 1) hk (j125_X12_is l D zt r g I14453 A14453 L14453 4 hV14453) (SP.same _) (fun _ h => h) (gi_V (List.mem_cons_of_mem _ (List.mem_append_left _ (List.mem_of_getElem? (i := 13) rfl))) (List.mem_cons_of_mem _ (List.mem_append_left _ (List.mem_of_getElem? (i := 14) rfl))) (List.mem_cons_of_mem _ (List.mem_append_left _ (List.mem_of_getElem? (i := 15) rfl))) (List.mem_cons_of_mem _ (List.mem_append_left _ (List.mem_of_getElem? (i := 7) rfl))) (gi_sub (fun w h => (List.mem_cons_of_mem _ (List.mem_append_right _ (List.mem_append_right _ (List.mem_append_right _ (List.mem_append_right _ (List.mem_append_left _ h))))))) zg_j125_X12_is)) rfl rfl rfl (by decide +kernel) ⟨Nat.le_of_ble_eq_true rfl, Nat.le_of_ble_eq_true rfl⟩ 0 rfl rfl rfl rfl (Nat.le_of_ble_eq_true rfl) ⟨Nat.le_of_ble_eq_true rfl, Nat.le_of_ble_eq_true rfl⟩ dX12_tellQuery_168 (fun v ty' w' hp hk' => ?_)
                  rcases hp with ⟨c14748, rfl, rfl⟩ | ⟨c14750, rfl, rfl⟩
                  · skip
                    rw [show (A14453 2 (I14453 4).toNatClampNeg) = (A 2 (I14453 4).toNatClampNeg) from ((congrFun (hA14453 2 rfl) _).trans ((congrFun (hA10836 2 rfl) _).trans (congrFun (hA10822 2 rfl) _)))] at c14748
                    show GW κ 4 0 0 (wM r g I14453 A14453 L14453) 171 [(3, .int x10832), (2, .int (I 4)), (1, .int y10818), (0, .ref (r 0))] [.int 0]
                    refine g_if_eq (tgt := 194) (a := 0) hk dX12_tellQuery_171 (by decide) rfl (fun _ => ?_) (fun z9 => absurd (show (0 : Int) = (0 : Int) from by decide) z9)
                    refine g_aload_n hk dX12_tellQuery_194 rfl ?_
                    refine g_iconst (v := 4) hk dX12_tellQuery_195 (by decide) ?_
                    refine g_callV (n := 1) hk (j131_X12_must l D zt r g I14453 A14453 L14453 4 hV14453) (SP.same _) (fun _ h => h) (gi_V (List.mem_cons_of_mem _ (List.mem_append_left _ (List.mem_of_getElem? (i := 4) rfl))) (List.mem_cons_of_mem _ (List.mem_append_left _ (List.mem_of_getElem? (i := 5) rfl))) (List.mem_cons_of_mem _ (List.mem_append_left _ (List.mem_of_getElem? (i := 6) rfl))) (List.mem_cons_of_mem _ (List.mem_append_left _ (List.mem_of_getElem? (i := 7) rfl))) (gi_sub (fun w h => (List.mem_cons_of_mem _ (List.mem_append_right _ (List.mem_append_right _ (List.mem_append_left _ h))))) zg_j131_X12_must)) rfl rfl rfl (by decide +kernel) ⟨Nat.le_of_ble_eq_true rfl, Nat.le_of_ble_eq_true rfl⟩ 0 rfl rfl rfl rfl (Nat.le_of_ble_eq_true rfl) ⟨Nat.le_of_ble_eq_true rfl, Nat.le_of_ble_eq_true rfl⟩ dX12_tellQuery_196 (fun v ty' w' hp hk' => ?_)
                    obtain ⟨I14753, A14753, L14753, hI14753, hA14753, hV14753, r14754, r14755, r14756, r14757, r14758, rfl, rfl⟩ := hp
                    have f14759 := IvM_f4 hV14753
                    have f14760 := IvM_f6 hV14753
                    rw [show (I14753 8) = (I14453 8) from (hI14753 8 rfl)] at r14756
                    rw [show (A14453 2 (I14453 4).toNatClampNeg) = (A 2 (I14453 4).toNatClampNeg) from ((congrFun (hA14453 2 rfl) _).trans ((congrFun (hA10836 2 rfl) _).trans (congrFun (hA10822 2 rfl) _)))] at r14758
                    show GW κ 4 0 0 (wM r g I14753 A14753 L14753) 199 [(3, .int x10832), (2, .int (I 4)), (1, .int y10818), (0, .ref (r 0))] []
                    refine g_aload_n hk dX12_tellQuery_199 rfl ?_
                    refine gM_i6 (v := (I14753 6)) hk hin12 (List.mem_cons_of_mem _ (List.mem_append_left _ (List.mem_of_getElem? (i := 16) rfl))) dX12_tellQuery_200 rfl ?_
                    refine g_if_le (tgt := 207) (a := (I14753 6).toInt) hk dX12_tellQuery_203 (by decide) rfl (fun c14761 => ?_) (fun c14761 => ?_)
                    · skip
                      refine g_aload_n hk dX12_tellQuery_207 rfl ?_
                      refine g_bipush (v := (-2)) hk dX12_tellQuery_208 (by decide) ?_
                      refine pM_i11 hk hin12 (List.mem_cons_of_mem _ (List.mem_append_left _ (List.mem_of_getElem? (i := 0) rfl))) dX12_tellQuery_210 ?_
                      refine g_aload_n hk dX12_tellQuery_213 rfl ?_
                      refine gM_r0_25 hk hin12 (List.mem_cons_of_mem _ (List.mem_append_left _ (List.mem_of_getElem? (i := 17) rfl))) dX12_tellQuery_214 ?_
                      refine g_aload_n hk dX12_tellQuery_217 rfl ?_
                      refine gM_i17 (v := (I 17)) hk hin12 (List.mem_cons_of_mem _ (List.mem_append_left _ (List.mem_of_getElem? (i := 8) rfl))) dX12_tellQuery_218 ((hI14753 17 rfl).trans ((hI14453 17 rfl).trans ((hI10836 17 rfl).trans (hI10822 17 rfl)))) ?_
                      have g14762 : (I14753 16).toInt = (I 16).toInt := by rw [show (I14753 16) = (I 16) from ((hI14753 16 rfl).trans ((hI14453 16 rfl).trans ((hI10836 16 rfl).trans (hI10822 16 rfl))))]
                      have g14763 : (I14753 17).toInt = (I 17).toInt := by rw [show (I14753 17) = (I 17) from ((hI14753 17 rfl).trans ((hI14453 17 rfl).trans ((hI10836 17 rfl).trans (hI10822 17 rfl))))]
                      have g14764 : (A14753 10 0).toInt = (A 10 0).toInt := by rw [show (A14753 10 0) = (A 10 0) from ((congrFun (hA14753 10 rfl) _).trans ((congrFun (hA14453 10 rfl) _).trans ((congrFun (hA10836 10 rfl) _).trans (congrFun (hA10822 10 rfl) _))))]
                      have g14765 : (A14753 10 1).toInt = (A 10 1).toInt := by rw [show (A14753 10 1) = (A 10 1) from ((congrFun (hA14753 10 rfl) _).trans ((congrFun (hA14453 10 rfl) _).trans ((congrFun (hA10836 10 rfl) _).trans (congrFun (hA10822 10 rfl) _))))]
                      have g14766 := (IvM_nq (I := I14753) (A := A14753) hV14753).2 (by omega)
                      refine g_aload_n hk dX12_tellQuery_221 rfl ?_
                      refine gM_r0_8 hk hin12 (List.mem_cons_of_mem _ (List.mem_append_left _ (List.mem_of_getElem? (i := 18) rfl))) dX12_tellQuery_222 ?_
                      refine g_iload_n hk dX12_tellQuery_225 rfl ?_
                      refine lM_5 hk (vp_in_iff.mpr ⟨by omega, by omega⟩) rfl dX12_tellQuery_226 ?_
                      refine g_topl (fun y14767 ey14767 => ?_)
                      refine sM_7 (j := (I 17).toNatClampNeg) hk (vp_in_iff.mpr ⟨by omega, by omega⟩) rfl dX12_tellQuery_227 ?_
                      refine g_aload_n hk dX12_tellQuery_228 rfl ?_
                      refine g_dup hk dX12_tellQuery_229 rfl ?_
                      refine gM_i17 (v := (I 17)) hk hin12 (List.mem_cons_of_mem _ (List.mem_append_left _ (List.mem_of_getElem? (i := 8) rfl))) dX12_tellQuery_230 ((hI14753 17 rfl).trans ((hI14453 17 rfl).trans ((hI10836 17 rfl).trans (hI10822 17 rfl)))) ?_
                      refine g_iconst (v := 1) hk dX12_tellQuery_233 (by decide) ?_
                      refine g_iadd hk dX12_tellQuery_234 ?_
                      refine g_topi (fun y14768 ey14768 => ?_)
                      have hy14768 : y14768.toInt = (I 17).toInt + 1 := i32_add ey14768 rfl rfl (by omega) (by omega)
                      refine pM_i17 hk hin12 (List.mem_cons_of_mem _ (List.mem_append_left _ (List.mem_of_getElem? (i := 8) rfl))) dX12_tellQuery_235 ?_
                      refine g_aload_n hk dX12_tellQuery_238 rfl ?_
                      refine gM_r0_28 hk hin12 (List.mem_cons_of_mem _ (List.mem_append_left _ (List.mem_of_getElem? (i := 2) rfl))) dX12_tellQuery_239 ?_
                      refine g_aload_n hk dX12_tellQuery_242 rfl ?_
                      refine gM_i16 (v := (I 16)) hk hin12 (List.mem_cons_of_mem _ (List.mem_append_left _ (List.mem_of_getElem? (i := 1) rfl))) dX12_tellQuery_243 ((hI14753 16 rfl).trans ((hI14453 16 rfl).trans ((hI10836 16 rfl).trans (hI10822 16 rfl)))) ?_
                      by_cases c14769 : (I 16).toInt = 1
                      · have ec14769 : (I 16) = 1 := Int32.toInt_inj.mp c14769
                        rw [ec14769]
                        show GW κ 4 0 0 (wM r g (upd (upd I14753 11 (-2)) 17 y14768) A14753 (up3L L14753 7 ((I 17).toNatClampNeg) y14767)) 246 [(3, .int x10832), (2, .int (I 4)), (1, .int y10818), (0, .ref (r 0))] [.int 1, .ref (r 11)]
                        refine g_dup2 hk dX12_tellQuery_246 rfl rfl ?_
                        refine lM_10 (v := (A 10 1)) hk (vp_in_iff.mpr ⟨by decide, by decide⟩) ((congrFun (hA14753 10 rfl) _).trans ((congrFun (hA14453 10 rfl) _).trans ((congrFun (hA10836 10 rfl) _).trans (congrFun (hA10822 10 rfl) _)))) dX12_tellQuery_247 ?_
                        refine g_iconst (v := 1) hk dX12_tellQuery_248 (by decide) ?_
                        refine g_iadd hk dX12_tellQuery_249 ?_
                        refine g_topi (fun y14770 ey14770 => ?_)
                        have hy14770 : y14770.toInt = (A 10 1).toInt + 1 := i32_add ey14770 rfl rfl (by omega) (by omega)
                        refine sM_10 (j := 1) hk (vp_in_iff.mpr ⟨by decide, by decide⟩) (by decide) dX12_tellQuery_250 ?_
                        have f14771 := IvM_s10_0 hV14753
                        have f14772 := IvM_s10_1 hV14753
                        have g14773 : (I14753 15).toInt = (I 15).toInt := by rw [show (I14753 15) = (I 15) from ((hI14753 15 rfl).trans ((hI14453 15 rfl).trans ((hI10836 15 rfl).trans (hI10822 15 rfl))))]
                        have g14774 := IvM_s10_0 (I := I14753) (A := A14753) hV14753
                        have g14775 := IvM_s10_1 (I := I14753) (A := A14753) hV14753
                        have g14776 : (I14753 8).toInt = (I14453 8).toInt := by rw [show (I14753 8) = (I14453 8) from (hI14753 8 rfl)]
                        have q14777 := cl_int (y := y10818) (by omega)
                        have g14778 : (A14753 11 y10818.toNatClampNeg).toInt = (A14453 11 y10818.toNatClampNeg).toInt := by rw [show (A14753 11 y10818.toNatClampNeg) = (A14453 11 y10818.toNatClampNeg) from (congrFun (hA14753 11 rfl) _)]
                        have u14779 : (I14453 6).toInt ≠ 0 ∨ (A 2 (I14453 4).toNatClampNeg).toInt ≠ (4 : Int32).toInt := c14748
                        have u14780 : 0 < (I14753 6).toInt ∨ ((I14453 6).toInt = 0 ∧ (A 2 (I14453 4).toNatClampNeg).toInt = (4 : Int32).toInt) := r14758
                        exact g_vret hk hR ⟨(upd (upd I14753 11 (-2)) 17 y14768), (up3 A14753 10 1 y14770), (up3L L14753 7 ((I 17).toNatClampNeg) y14767), (show Md [4, 6, 7, 8, 9, 11, 12, 13, 17] I (upd (upd I14753 11 (-2)) 17 y14768) from (Md.up (Md.up (Md.tr (Md.tr (Md.tr (Md.tr (Md.up Md.rf rfl) hI10822 rfl) hI10836 rfl) hI14453 rfl) hI14753 rfl) rfl) rfl)), (show Md [10, 11, 12] A (up3 A14753 10 1 y14770) from (Md.up3 (Md.tr (Md.tr (Md.up3 (Md.tr (Md.tr Md.rf hA10822 rfl) hA10836 rfl) rfl) hA14453 rfl) hA14753 rfl) rfl)), ⟨(IvM_f1 (I := I14753) (A := A14753) hV14753), (IvM_f2 (I := I14753) (A := A14753) hV14753), (IvM_f3 (I := I14753) (A := A14753) hV14753), (IvM_f4 (I := I14753) (A := A14753) hV14753), (IvM_f6 (I := I14753) (A := A14753) hV14753), (IvM_f8 (I := I14753) (A := A14753) hV14753), (IvM_f15 (I := I14753) (A := A14753) hV14753), (IvM_f16 (I := I14753) (A := A14753) hV14753), (show 0 ≤ y14768.toInt ∧ y14768.toInt ≤ 5 from ⟨by omega, by omega⟩), (IvM_f18 (I := I14753) (A := A14753) hV14753), (IvM_f22 (I := I14753) (A := A14753) hV14753), (IvM_f23 (I := I14753) (A := A14753) hV14753), (IvM_f24 (I := I14753) (A := A14753) hV14753), (IvM_a11 (I := I14753) (A := A14753) hV14753), (IvM_a26 (I := I14753) (A := A14753) hV14753), (IvM_s8_0 (I := I14753) (A := A14753) hV14753), (IvM_s8_1 (I := I14753) (A := A14753) hV14753), (show 0 ≤ ((up3 A14753 10 1 y14770) 10 0).toInt ∧ ((up3 A14753 10 1 y14770) 10 0).toInt ≤ 5 from by rw [show (up3 A14753 10 1 y14770) 10 0 = (A14753 10 0) from rfl]; exact ⟨by omega, by omega⟩), (show 0 ≤ ((up3 A14753 10 1 y14770) 10 1).toInt ∧ ((up3 A14753 10 1 y14770) 10 1).toInt ≤ 5 from by rw [show (up3 A14753 10 1 y14770) 10 1 = y14770 from rfl]; exact ⟨by omega, by omega⟩), (IvM_s17_0 (I := I14753) (A := A14753) hV14753), (IvM_s17_164 (I := I14753) (A := A14753) hV14753), ⟨fun e => by have e : (I14753 15).toInt = 0 := e; first | exact (IvM_lv (I := I14753) (A := A14753) hV14753).1 e | (exfalso; omega), fun e => by have e : (I14753 15).toInt = 1 := e; first | exact (IvM_lv (I := I14753) (A := A14753) hV14753).2 e | (exfalso; omega)⟩, (by first | (exfalso; omega) | (by_cases g8 : (I14753 8).toInt ≠ 0; exact Or.inr (Or.inl g8); rcases (IvM_sd (I := I14753) (A := A14753) hV14753) with h9 | h9 | h9; exact absurd h9 (by omega); exact absurd h9 g8; exact Or.inr (Or.inr ⟨fun e => by have e : (I14753 16).toInt = 0 := e; first | exact ghf_add (n := (A14753 10 0)) (f := (A14753 11)) (n2 := y14770) (p := y10818.toNatClampNeg) (h9.1 e) (by omega) (by omega) (by omega) | (exfalso; omega), fun e => by have e : (I14753 16).toInt = 1 := e; first | exact ghf_add (n := (A14753 10 1)) (f := (A14753 11)) (n2 := y14770) (p := y10818.toNatClampNeg) (h9.2 e) (by omega) (by omega) (by omega) | (exfalso; omega)⟩))), ⟨fun e => by have e : (I14753 16).toInt = 0 := e; first | (exfalso; omega) | (show y14768.toInt = (A14753 10 0).toInt; omega), fun e => by have e : (I14753 16).toInt = 1 := e; first | (exfalso; omega) | (show y14768.toInt = y14770.toInt; omega)⟩, (IvM_hr (I := I14753) (A := A14753) hV14753), (IvM_hh (I := I14753) (A := A14753) hV14753), trivial⟩, (by rw [show ((upd (upd I14753 11 (-2)) 17 y14768) 4) = (I14753 4) from rfl] <;> omega), (by rw [show ((upd (upd I14753 11 (-2)) 17 y14768) 6) = (I14753 6) from rfl] <;> omega), (by rw [show ((upd (upd I14753 11 (-2)) 17 y14768) 8) = (I14453 8) from (hI14753 8 rfl)] <;> omega), rfl, rfl⟩ dX12_tellQuery_251
                      exfalso; omega
                    · skip
                      exact g_vret hk hR ⟨I14753, A14753, L14753, (show Md [4, 6, 7, 8, 9, 11, 12, 13, 17] I I14753 from (Md.tr (Md.tr (Md.tr (Md.tr (Md.up Md.rf rfl) hI10822 rfl) hI10836 rfl) hI14453 rfl) hI14753 rfl)), (show Md [10, 11, 12] A A14753 from (Md.tr (Md.tr (Md.up3 (Md.tr (Md.tr Md.rf hA10822 rfl) hA10836 rfl) rfl) hA14453 rfl) hA14753 rfl)), hV14753, (by omega), (by omega), (by rw [show (I14753 8) = (I14453 8) from (hI14753 8 rfl)] <;> omega), rfl, rfl⟩ dX12_tellQuery_206
                  · skip
                    rw [show (A14453 2 (I14453 4).toNatClampNeg) = (A 2 (I14453 4).toNatClampNeg) from ((congrFun (hA14453 2 rfl) _).trans ((congrFun (hA10836 2 rfl) _).trans (congrFun (hA10822 2 rfl) _)))] at c14750
                    show GW κ 4 0 0 (wM r g I14453 A14453 L14453) 171 [(3, .int x10832), (2, .int (I 4)), (1, .int y10818), (0, .ref (r 0))] [.int 1]
                    refine g_if_eq (tgt := 194) (a := 1) hk dX12_tellQuery_171 (by decide) rfl (fun z9 => absurd z9 (show ¬ ((1 : Int) = (0 : Int)) from by decide)) (fun _ => ?_)
                    refine g_aload_n hk dX12_tellQuery_174 rfl ?_
                    refine gM_r0_29 hk hin12 (List.mem_cons_of_mem _ (List.mem_append_left _ (List.mem_of_getElem? (i := 9) rfl))) dX12_tellQuery_175 ?_
                    refine g_iload_n hk dX12_tellQuery_178 rfl ?_
                    refine lM_11 (v := (A14453 11 y10818.toNatClampNeg)) hk (vp_in_iff.mpr ⟨by omega, by omega⟩) rfl dX12_tellQuery_179 ?_
                    have f14781 := IvM_a11 hV14453 (y10818.toNatClampNeg)
                    refine g_iconst (v := 2) hk dX12_tellQuery_180 (by decide) ?_
                    refine g_icmp_ge (tgt := 194) (a := (A14453 11 y10818.toNatClampNeg).toInt) (b := 2) hk dX12_tellQuery_181 (by decide) rfl rfl (fun c14782 => ?_) (fun c14782 => ?_)
                    · skip
                      refine g_aload_n hk dX12_tellQuery_194 rfl ?_
                      refine g_iconst (v := 4) hk dX12_tellQuery_195 (by decide) ?_
                      refine g_callV (n := 1) hk (j131_X12_must l D zt r g I14453 A14453 L14453 4 hV14453) (SP.same _) (fun _ h => h) (gi_V (List.mem_cons_of_mem _ (List.mem_append_left _ (List.mem_of_getElem? (i := 4) rfl))) (List.mem_cons_of_mem _ (List.mem_append_left _ (List.mem_of_getElem? (i := 5) rfl))) (List.mem_cons_of_mem _ (List.mem_append_left _ (List.mem_of_getElem? (i := 6) rfl))) (List.mem_cons_of_mem _ (List.mem_append_left _ (List.mem_of_getElem? (i := 7) rfl))) (gi_sub (fun w h => (List.mem_cons_of_mem _ (List.mem_append_right _ (List.mem_append_right _ (List.mem_append_left _ h))))) zg_j131_X12_must)) rfl rfl rfl (by decide +kernel) ⟨Nat.le_of_ble_eq_true rfl, Nat.le_of_ble_eq_true rfl⟩ 0 rfl rfl rfl rfl (Nat.le_of_ble_eq_true rfl) ⟨Nat.le_of_ble_eq_true rfl, Nat.le_of_ble_eq_true rfl⟩ dX12_tellQuery_196 (fun v ty' w' hp hk' => ?_)
                      obtain ⟨I14784, A14784, L14784, hI14784, hA14784, hV14784, r14785, r14786, r14787, r14788, r14789, rfl, rfl⟩ := hp
                      have f14790 := IvM_f4 hV14784
                      have f14791 := IvM_f6 hV14784
                      rw [show (I14784 8) = (I14453 8) from (hI14784 8 rfl)] at r14787
                      rw [show (A14453 2 (I14453 4).toNatClampNeg) = (A 2 (I14453 4).toNatClampNeg) from ((congrFun (hA14453 2 rfl) _).trans ((congrFun (hA10836 2 rfl) _).trans (congrFun (hA10822 2 rfl) _)))] at r14789
                      show GW κ 4 0 0 (wM r g I14784 A14784 L14784) 199 [(3, .int x10832), (2, .int (I 4)), (1, .int y10818), (0, .ref (r 0))] []
                      refine g_aload_n hk dX12_tellQuery_199 rfl ?_
                      refine gM_i6 (v := (I14784 6)) hk hin12 (List.mem_cons_of_mem _ (List.mem_append_left _ (List.mem_of_getElem? (i := 16) rfl))) dX12_tellQuery_200 rfl ?_
                      refine g_if_le (tgt := 207) (a := (I14784 6).toInt) hk dX12_tellQuery_203 (by decide) rfl (fun c14792 => ?_) (fun c14792 => ?_)
                      · skip
                        refine g_aload_n hk dX12_tellQuery_207 rfl ?_
                        refine g_bipush (v := (-2)) hk dX12_tellQuery_208 (by decide) ?_
                        refine pM_i11 hk hin12 (List.mem_cons_of_mem _ (List.mem_append_left _ (List.mem_of_getElem? (i := 0) rfl))) dX12_tellQuery_210 ?_
                        refine g_aload_n hk dX12_tellQuery_213 rfl ?_
                        refine gM_r0_25 hk hin12 (List.mem_cons_of_mem _ (List.mem_append_left _ (List.mem_of_getElem? (i := 17) rfl))) dX12_tellQuery_214 ?_
                        refine g_aload_n hk dX12_tellQuery_217 rfl ?_
                        refine gM_i17 (v := (I 17)) hk hin12 (List.mem_cons_of_mem _ (List.mem_append_left _ (List.mem_of_getElem? (i := 8) rfl))) dX12_tellQuery_218 ((hI14784 17 rfl).trans ((hI14453 17 rfl).trans ((hI10836 17 rfl).trans (hI10822 17 rfl)))) ?_
                        have g14793 : (I14784 16).toInt = (I 16).toInt := by rw [show (I14784 16) = (I 16) from ((hI14784 16 rfl).trans ((hI14453 16 rfl).trans ((hI10836 16 rfl).trans (hI10822 16 rfl))))]
                        have g14794 : (I14784 17).toInt = (I 17).toInt := by rw [show (I14784 17) = (I 17) from ((hI14784 17 rfl).trans ((hI14453 17 rfl).trans ((hI10836 17 rfl).trans (hI10822 17 rfl))))]
                        have g14795 : (A14784 10 0).toInt = (A 10 0).toInt := by rw [show (A14784 10 0) = (A 10 0) from ((congrFun (hA14784 10 rfl) _).trans ((congrFun (hA14453 10 rfl) _).trans ((congrFun (hA10836 10 rfl) _).trans (congrFun (hA10822 10 rfl) _))))]
                        have g14796 : (A14784 10 1).toInt = (A 10 1).toInt := by rw [show (A14784 10 1) = (A 10 1) from ((congrFun (hA14784 10 rfl) _).trans ((congrFun (hA14453 10 rfl) _).trans ((congrFun (hA10836 10 rfl) _).trans (congrFun (hA10822 10 rfl) _))))]
                        have g14797 := (IvM_nq (I := I14784) (A := A14784) hV14784).2 (by omega)
                        refine g_aload_n hk dX12_tellQuery_221 rfl ?_
                        refine gM_r0_8 hk hin12 (List.mem_cons_of_mem _ (List.mem_append_left _ (List.mem_of_getElem? (i := 18) rfl))) dX12_tellQuery_222 ?_
                        refine g_iload_n hk dX12_tellQuery_225 rfl ?_
                        refine lM_5 hk (vp_in_iff.mpr ⟨by omega, by omega⟩) rfl dX12_tellQuery_226 ?_
                        refine g_topl (fun y14798 ey14798 => ?_)
                        refine sM_7 (j := (I 17).toNatClampNeg) hk (vp_in_iff.mpr ⟨by omega, by omega⟩) rfl dX12_tellQuery_227 ?_
                        refine g_aload_n hk dX12_tellQuery_228 rfl ?_
                        refine g_dup hk dX12_tellQuery_229 rfl ?_
                        refine gM_i17 (v := (I 17)) hk hin12 (List.mem_cons_of_mem _ (List.mem_append_left _ (List.mem_of_getElem? (i := 8) rfl))) dX12_tellQuery_230 ((hI14784 17 rfl).trans ((hI14453 17 rfl).trans ((hI10836 17 rfl).trans (hI10822 17 rfl)))) ?_
                        refine g_iconst (v := 1) hk dX12_tellQuery_233 (by decide) ?_
                        refine g_iadd hk dX12_tellQuery_234 ?_
                        refine g_topi (fun y14799 ey14799 => ?_)
                        have hy14799 : y14799.toInt = (I 17).toInt + 1 := i32_add ey14799 rfl rfl (by omega) (by omega)
                        refine pM_i17 hk hin12 (List.mem_cons_of_mem _ (List.mem_append_left _ (List.mem_of_getElem? (i := 8) rfl))) dX12_tellQuery_235 ?_
                        refine g_aload_n hk dX12_tellQuery_238 rfl ?_
                        refine gM_r0_28 hk hin12 (List.mem_cons_of_mem _ (List.mem_append_left _ (List.mem_of_getElem? (i := 2) rfl))) dX12_tellQuery_239 ?_
                        refine g_aload_n hk dX12_tellQuery_242 rfl ?_
                        refine gM_i16 (v := (I 16)) hk hin12 (List.mem_cons_of_mem _ (List.mem_append_left _ (List.mem_of_getElem? (i := 1) rfl))) dX12_tellQuery_243 ((hI14784 16 rfl).trans ((hI14453 16 rfl).trans ((hI10836 16 rfl).trans (hI10822 16 rfl)))) ?_
                        by_cases c14800 : (I 16).toInt = 1
                        · have ec14800 : (I 16) = 1 := Int32.toInt_inj.mp c14800
                          rw [ec14800]
                          show GW κ 4 0 0 (wM r g (upd (upd I14784 11 (-2)) 17 y14799) A14784 (up3L L14784 7 ((I 17).toNatClampNeg) y14798)) 246 [(3, .int x10832), (2, .int (I 4)), (1, .int y10818), (0, .ref (r 0))] [.int 1, .ref (r 11)]
                          refine g_dup2 hk dX12_tellQuery_246 rfl rfl ?_
                          refine lM_10 (v := (A 10 1)) hk (vp_in_iff.mpr ⟨by decide, by decide⟩) ((congrFun (hA14784 10 rfl) _).trans ((congrFun (hA14453 10 rfl) _).trans ((congrFun (hA10836 10 rfl) _).trans (congrFun (hA10822 10 rfl) _)))) dX12_tellQuery_247 ?_
                          refine g_iconst (v := 1) hk dX12_tellQuery_248 (by decide) ?_
                          refine g_iadd hk dX12_tellQuery_249 ?_
                          refine g_topi (fun y14801 ey14801 => ?_)
                          have hy14801 : y14801.toInt = (A 10 1).toInt + 1 := i32_add ey14801 rfl rfl (by omega) (by omega)
                          refine sM_10 (j := 1) hk (vp_in_iff.mpr ⟨by decide, by decide⟩) (by decide) dX12_tellQuery_250 ?_
                          have f14802 := IvM_s10_0 hV14784
                          have f14803 := IvM_s10_1 hV14784
                          have g14804 : (I14784 15).toInt = (I 15).toInt := by rw [show (I14784 15) = (I 15) from ((hI14784 15 rfl).trans ((hI14453 15 rfl).trans ((hI10836 15 rfl).trans (hI10822 15 rfl))))]
                          have g14805 := IvM_s10_0 (I := I14784) (A := A14784) hV14784
                          have g14806 := IvM_s10_1 (I := I14784) (A := A14784) hV14784
                          have g14807 : (I14784 8).toInt = (I14453 8).toInt := by rw [show (I14784 8) = (I14453 8) from (hI14784 8 rfl)]
                          have q14808 := cl_int (y := y10818) (by omega)
                          have g14809 : (A14784 11 y10818.toNatClampNeg).toInt = (A14453 11 y10818.toNatClampNeg).toInt := by rw [show (A14784 11 y10818.toNatClampNeg) = (A14453 11 y10818.toNatClampNeg) from (congrFun (hA14784 11 rfl) _)]
                          have u14810 : 0 < (I10822 6).toInt ∨ ((I 6).toInt = 0 ∧ (A 2 (I 4).toNatClampNeg).toInt = (1 : Int32).toInt) := r10827
                          have u14811 : 0 < (I14784 6).toInt ∨ ((I14453 6).toInt = 0 ∧ (A 2 (I14453 4).toNatClampNeg).toInt = (4 : Int32).toInt) := r14789
                          exact g_vret hk hR ⟨(upd (upd I14784 11 (-2)) 17 y14799), (up3 A14784 10 1 y14801), (up3L L14784 7 ((I 17).toNatClampNeg) y14798), (show Md [4, 6, 7, 8, 9, 11, 12, 13, 17] I (upd (upd I14784 11 (-2)) 17 y14799) from (Md.up (Md.up (Md.tr (Md.tr (Md.tr (Md.tr (Md.up Md.rf rfl) hI10822 rfl) hI10836 rfl) hI14453 rfl) hI14784 rfl) rfl) rfl)), (show Md [10, 11, 12] A (up3 A14784 10 1 y14801) from (Md.up3 (Md.tr (Md.tr (Md.up3 (Md.tr (Md.tr Md.rf hA10822 rfl) hA10836 rfl) rfl) hA14453 rfl) hA14784 rfl) rfl)), ⟨(IvM_f1 (I := I14784) (A := A14784) hV14784), (IvM_f2 (I := I14784) (A := A14784) hV14784), (IvM_f3 (I := I14784) (A := A14784) hV14784), (IvM_f4 (I := I14784) (A := A14784) hV14784), (IvM_f6 (I := I14784) (A := A14784) hV14784), (IvM_f8 (I := I14784) (A := A14784) hV14784), (IvM_f15 (I := I14784) (A := A14784) hV14784), (IvM_f16 (I := I14784) (A := A14784) hV14784), (show 0 ≤ y14799.toInt ∧ y14799.toInt ≤ 5 from ⟨by omega, by omega⟩), (IvM_f18 (I := I14784) (A := A14784) hV14784), (IvM_f22 (I := I14784) (A := A14784) hV14784), (IvM_f23 (I := I14784) (A := A14784) hV14784), (IvM_f24 (I := I14784) (A := A14784) hV14784), (IvM_a11 (I := I14784) (A := A14784) hV14784), (IvM_a26 (I := I14784) (A := A14784) hV14784), (IvM_s8_0 (I := I14784) (A := A14784) hV14784), (IvM_s8_1 (I := I14784) (A := A14784) hV14784), (show 0 ≤ ((up3 A14784 10 1 y14801) 10 0).toInt ∧ ((up3 A14784 10 1 y14801) 10 0).toInt ≤ 5 from by rw [show (up3 A14784 10 1 y14801) 10 0 = (A14784 10 0) from rfl]; exact ⟨by omega, by omega⟩), (show 0 ≤ ((up3 A14784 10 1 y14801) 10 1).toInt ∧ ((up3 A14784 10 1 y14801) 10 1).toInt ≤ 5 from by rw [show (up3 A14784 10 1 y14801) 10 1 = y14801 from rfl]; exact ⟨by omega, by omega⟩), (IvM_s17_0 (I := I14784) (A := A14784) hV14784), (IvM_s17_164 (I := I14784) (A := A14784) hV14784), ⟨fun e => by have e : (I14784 15).toInt = 0 := e; first | exact (IvM_lv (I := I14784) (A := A14784) hV14784).1 e | (exfalso; omega), fun e => by have e : (I14784 15).toInt = 1 := e; first | exact (IvM_lv (I := I14784) (A := A14784) hV14784).2 e | (exfalso; omega)⟩, (by first | (exfalso; omega) | (by_cases g8 : (I14784 8).toInt ≠ 0; exact Or.inr (Or.inl g8); rcases (IvM_sd (I := I14784) (A := A14784) hV14784) with h9 | h9 | h9; exact absurd h9 (by omega); exact absurd h9 g8; exact Or.inr (Or.inr ⟨fun e => by have e : (I14784 16).toInt = 0 := e; first | exact ghf_add (n := (A14784 10 0)) (f := (A14784 11)) (n2 := y14801) (p := y10818.toNatClampNeg) (h9.1 e) (by omega) (by omega) (by omega) | (exfalso; omega), fun e => by have e : (I14784 16).toInt = 1 := e; first | exact ghf_add (n := (A14784 10 1)) (f := (A14784 11)) (n2 := y14801) (p := y10818.toNatClampNeg) (h9.2 e) (by omega) (by omega) (by omega) | (exfalso; omega)⟩))), ⟨fun e => by have e : (I14784 16).toInt = 0 := e; first | (exfalso; omega) | (show y14799.toInt = (A14784 10 0).toInt; omega), fun e => by have e : (I14784 16).toInt = 1 := e; first | (exfalso; omega) | (show y14799.toInt = y14801.toInt; omega)⟩, (IvM_hr (I := I14784) (A := A14784) hV14784), (IvM_hh (I := I14784) (A := A14784) hV14784), trivial⟩, (by rw [show ((upd (upd I14784 11 (-2)) 17 y14799) 4) = (I14784 4) from rfl] <;> omega), (by rw [show ((upd (upd I14784 11 (-2)) 17 y14799) 6) = (I14784 6) from rfl] <;> omega), (by rw [show ((upd (upd I14784 11 (-2)) 17 y14799) 8) = (I14453 8) from (hI14784 8 rfl)] <;> omega), rfl, rfl⟩ dX12_tellQuery_251
                        exfalso; omega
                      · skip
                        exact g_vret hk hR ⟨I14784, A14784, L14784, (show Md [4, 6, 7, 8, 9, 11, 12, 13, 17] I I14784 from (Md.tr (Md.tr (Md.tr (Md.tr (Md.up Md.rf rfl) hI10822 rfl) hI10836 rfl) hI14453 rfl) hI14784 rfl)), (show Md [10, 11, 12] A A14784 from (Md.tr (Md.tr (Md.up3 (Md.tr (Md.tr Md.rf hA10822 rfl) hA10836 rfl) rfl) hA14453 rfl) hA14784 rfl)), hV14784, (by omega), (by omega), (by rw [show (I14784 8) = (I14453 8) from (hI14784 8 rfl)] <;> omega), rfl, rfl⟩ dX12_tellQuery_206
                    · skip
                      refine g_aload_n hk dX12_tellQuery_184 rfl ?_
                      refine g_bipush (v := 6) hk dX12_tellQuery_185 (by decide) ?_
                      refine g_aload_n hk dX12_tellQuery_187 rfl ?_
                      refine gM_i4 (v := (I14453 4)) hk hin12 (List.mem_cons_of_mem _ (List.mem_append_left _ (List.mem_of_getElem? (i := 3) rfl))) dX12_tellQuery_188 rfl ?_
                      have k14812 : (6 : Int32).toInt = 6 := rfl
                      refine g_callV (n := 2) hk (j134_X12_wrong l D zt r g I14453 A14453 L14453 6 (I14453 4) hV14453 (by decide) (by decide) (by omega) (by omega)) (SP.same _) (fun _ h => h) (gi_V (List.mem_cons_of_mem _ (List.mem_append_left _ (List.mem_of_getElem? (i := 19) rfl))) (List.mem_cons_of_mem _ (List.mem_append_left _ (List.mem_of_getElem? (i := 20) rfl))) (List.mem_cons_of_mem _ (List.mem_append_left _ (List.mem_of_getElem? (i := 21) rfl))) (List.mem_cons_of_mem _ (List.mem_append_left _ (List.mem_of_getElem? (i := 7) rfl))) (gi_sub (fun w h => (List.mem_cons_of_mem _ (List.mem_append_right _ (List.mem_append_right _ (List.mem_append_right _ (List.mem_append_right _ (List.mem_append_right _ (List.mem_append_left _ h)))))))) zg_j134_X12_wrong)) rfl rfl rfl (by decide +kernel) ⟨Nat.le_of_ble_eq_true rfl, Nat.le_of_ble_eq_true rfl⟩ 0 rfl rfl rfl rfl (Nat.le_of_ble_eq_true rfl) ⟨Nat.le_of_ble_eq_true rfl, Nat.le_of_ble_eq_true rfl⟩ dX12_tellQuery_191 (fun v ty' w' hp hk' => ?_)
                      obtain ⟨I14814, A14814, L14814, hI14814, hA14814, hV14814, r14815, r14816, r14817, rfl, rfl⟩ := hp
                      rw [show (I14814 6) = (I14453 6) from (hI14814 6 rfl)] at r14815
                      have f14818 := IvM_f8 hV14814
                      rw [show (I14814 6) = (I14453 6) from (hI14814 6 rfl)] at r14817
                      show GW κ 4 0 0 (wM r g I14814 A14814 L14814) 194 [(3, .int x10832), (2, .int (I 4)), (1, .int y10818), (0, .ref (r 0))] []
                      refine g_aload_n hk dX12_tellQuery_194 rfl ?_
                      refine g_iconst (v := 4) hk dX12_tellQuery_195 (by decide) ?_
                      refine g_callV (n := 1) hk (j131_X12_must l D zt r g I14814 A14814 L14814 4 hV14814) (SP.same _) (fun _ h => h) (gi_V (List.mem_cons_of_mem _ (List.mem_append_left _ (List.mem_of_getElem? (i := 4) rfl))) (List.mem_cons_of_mem _ (List.mem_append_left _ (List.mem_of_getElem? (i := 5) rfl))) (List.mem_cons_of_mem _ (List.mem_append_left _ (List.mem_of_getElem? (i := 6) rfl))) (List.mem_cons_of_mem _ (List.mem_append_left _ (List.mem_of_getElem? (i := 7) rfl))) (gi_sub (fun w h => (List.mem_cons_of_mem _ (List.mem_append_right _ (List.mem_append_right _ (List.mem_append_left _ h))))) zg_j131_X12_must)) rfl rfl rfl (by decide +kernel) ⟨Nat.le_of_ble_eq_true rfl, Nat.le_of_ble_eq_true rfl⟩ 0 rfl rfl rfl rfl (Nat.le_of_ble_eq_true rfl) ⟨Nat.le_of_ble_eq_true rfl, Nat.le_of_ble_eq_true rfl⟩ dX12_tellQuery_196 (fun v ty' w' hp hk' => ?_)
                      obtain ⟨I14820, A14820, L14820, hI14820, hA14820, hV14820, r14821, r14822, r14823, r14824, r14825, rfl, rfl⟩ := hp
                      have f14826 := IvM_f4 hV14820
                      rw [show (I14814 4) = (I14453 4) from (hI14814 4 rfl)] at r14821
                      have f14827 := IvM_f6 hV14820
                      rw [show (I14814 6) = (I14453 6) from (hI14814 6 rfl)] at r14822
                      rw [show (I14820 8) = (I14814 8) from (hI14820 8 rfl)] at r14823
                      rw [show (I14814 4) = (I14453 4) from (hI14814 4 rfl)] at r14824
                      rw [show (I14814 6) = (I14453 6) from (hI14814 6 rfl), show (A14814 2 (I14814 4).toNatClampNeg) = (A 2 (I14453 4).toNatClampNeg) from (by rw [show I14814 4 = (I14453 4) from (hI14814 4 rfl)]; exact ((congrFun (hA14814 2 rfl) _).trans ((congrFun (hA14453 2 rfl) _).trans ((congrFun (hA10836 2 rfl) _).trans (congrFun (hA10822 2 rfl) _)))))] at r14825
                      show GW κ 4 0 0 (wM r g I14820 A14820 L14820) 199 [(3, .int x10832), (2, .int (I 4)), (1, .int y10818), (0, .ref (r 0))] []
                      refine g_aload_n hk dX12_tellQuery_199 rfl ?_
                      refine gM_i6 (v := (I14820 6)) hk hin12 (List.mem_cons_of_mem _ (List.mem_append_left _ (List.mem_of_getElem? (i := 16) rfl))) dX12_tellQuery_200 rfl ?_
                      refine g_if_le (tgt := 207) (a := (I14820 6).toInt) hk dX12_tellQuery_203 (by decide) rfl (fun c14828 => ?_) (fun c14828 => ?_)
                      · skip
                        refine g_aload_n hk dX12_tellQuery_207 rfl ?_
                        refine g_bipush (v := (-2)) hk dX12_tellQuery_208 (by decide) ?_
                        refine pM_i11 hk hin12 (List.mem_cons_of_mem _ (List.mem_append_left _ (List.mem_of_getElem? (i := 0) rfl))) dX12_tellQuery_210 ?_
                        refine g_aload_n hk dX12_tellQuery_213 rfl ?_
                        refine gM_r0_25 hk hin12 (List.mem_cons_of_mem _ (List.mem_append_left _ (List.mem_of_getElem? (i := 17) rfl))) dX12_tellQuery_214 ?_
                        refine g_aload_n hk dX12_tellQuery_217 rfl ?_
                        refine gM_i17 (v := (I 17)) hk hin12 (List.mem_cons_of_mem _ (List.mem_append_left _ (List.mem_of_getElem? (i := 8) rfl))) dX12_tellQuery_218 ((hI14820 17 rfl).trans ((hI14814 17 rfl).trans ((hI14453 17 rfl).trans ((hI10836 17 rfl).trans (hI10822 17 rfl))))) ?_
                        have g14829 : (I14820 16).toInt = (I 16).toInt := by rw [show (I14820 16) = (I 16) from ((hI14820 16 rfl).trans ((hI14814 16 rfl).trans ((hI14453 16 rfl).trans ((hI10836 16 rfl).trans (hI10822 16 rfl)))))]
                        have g14830 : (I14820 17).toInt = (I 17).toInt := by rw [show (I14820 17) = (I 17) from ((hI14820 17 rfl).trans ((hI14814 17 rfl).trans ((hI14453 17 rfl).trans ((hI10836 17 rfl).trans (hI10822 17 rfl)))))]
                        have g14831 : (A14820 10 0).toInt = (A 10 0).toInt := by rw [show (A14820 10 0) = (A 10 0) from ((congrFun (hA14820 10 rfl) _).trans ((congrFun (hA14814 10 rfl) _).trans ((congrFun (hA14453 10 rfl) _).trans ((congrFun (hA10836 10 rfl) _).trans (congrFun (hA10822 10 rfl) _)))))]
                        have g14832 : (A14820 10 1).toInt = (A 10 1).toInt := by rw [show (A14820 10 1) = (A 10 1) from ((congrFun (hA14820 10 rfl) _).trans ((congrFun (hA14814 10 rfl) _).trans ((congrFun (hA14453 10 rfl) _).trans ((congrFun (hA10836 10 rfl) _).trans (congrFun (hA10822 10 rfl) _)))))]
                        have g14833 := (IvM_nq (I := I14820) (A := A14820) hV14820).2 (by omega)
                        refine g_aload_n hk dX12_tellQuery_221 rfl ?_
                        refine gM_r0_8 hk hin12 (List.mem_cons_of_mem _ (List.mem_append_left _ (List.mem_of_getElem? (i := 18) rfl))) dX12_tellQuery_222 ?_
                        refine g_iload_n hk dX12_tellQuery_225 rfl ?_
                        refine lM_5 hk (vp_in_iff.mpr ⟨by omega, by omega⟩) rfl dX12_tellQuery_226 ?_
                        refine g_topl (fun y14834 ey14834 => ?_)
                        refine sM_7 (j := (I 17).toNatClampNeg) hk (vp_in_iff.mpr ⟨by omega, by omega⟩) rfl dX12_tellQuery_227 ?_
                        refine g_aload_n hk dX12_tellQuery_228 rfl ?_
                        refine g_dup hk dX12_tellQuery_229 rfl ?_
                        refine gM_i17 (v := (I 17)) hk hin12 (List.mem_cons_of_mem _ (List.mem_append_left _ (List.mem_of_getElem? (i := 8) rfl))) dX12_tellQuery_230 ((hI14820 17 rfl).trans ((hI14814 17 rfl).trans ((hI14453 17 rfl).trans ((hI10836 17 rfl).trans (hI10822 17 rfl))))) ?_
                        refine g_iconst (v := 1) hk dX12_tellQuery_233 (by decide) ?_
                        refine g_iadd hk dX12_tellQuery_234 ?_
                        refine g_topi (fun y14835 ey14835 => ?_)
                        have hy14835 : y14835.toInt = (I 17).toInt + 1 := i32_add ey14835 rfl rfl (by omega) (by omega)
                        refine pM_i17 hk hin12 (List.mem_cons_of_mem _ (List.mem_append_left _ (List.mem_of_getElem? (i := 8) rfl))) dX12_tellQuery_235 ?_
                        refine g_aload_n hk dX12_tellQuery_238 rfl ?_
                        refine gM_r0_28 hk hin12 (List.mem_cons_of_mem _ (List.mem_append_left _ (List.mem_of_getElem? (i := 2) rfl))) dX12_tellQuery_239 ?_
                        refine g_aload_n hk dX12_tellQuery_242 rfl ?_
                        refine gM_i16 (v := (I 16)) hk hin12 (List.mem_cons_of_mem _ (List.mem_append_left _ (List.mem_of_getElem? (i := 1) rfl))) dX12_tellQuery_243 ((hI14820 16 rfl).trans ((hI14814 16 rfl).trans ((hI14453 16 rfl).trans ((hI10836 16 rfl).trans (hI10822 16 rfl))))) ?_
                        by_cases c14836 : (I 16).toInt = 1
                        · have ec14836 : (I 16) = 1 := Int32.toInt_inj.mp c14836
                          rw [ec14836]
                          show GW κ 4 0 0 (wM r g (upd (upd I14820 11 (-2)) 17 y14835) A14820 (up3L L14820 7 ((I 17).toNatClampNeg) y14834)) 246 [(3, .int x10832), (2, .int (I 4)), (1, .int y10818), (0, .ref (r 0))] [.int 1, .ref (r 11)]
                          refine g_dup2 hk dX12_tellQuery_246 rfl rfl ?_
                          refine lM_10 (v := (A 10 1)) hk (vp_in_iff.mpr ⟨by decide, by decide⟩) ((congrFun (hA14820 10 rfl) _).trans ((congrFun (hA14814 10 rfl) _).trans ((congrFun (hA14453 10 rfl) _).trans ((congrFun (hA10836 10 rfl) _).trans (congrFun (hA10822 10 rfl) _))))) dX12_tellQuery_247 ?_
                          refine g_iconst (v := 1) hk dX12_tellQuery_248 (by decide) ?_
                          refine g_iadd hk dX12_tellQuery_249 ?_
                          refine g_topi (fun y14837 ey14837 => ?_)
                          have hy14837 : y14837.toInt = (A 10 1).toInt + 1 := i32_add ey14837 rfl rfl (by omega) (by omega)
                          refine sM_10 (j := 1) hk (vp_in_iff.mpr ⟨by decide, by decide⟩) (by decide) dX12_tellQuery_250 ?_
                          have f14838 := IvM_s10_0 hV14820
                          have f14839 := IvM_s10_1 hV14820
                          have g14840 : (I14820 15).toInt = (I 15).toInt := by rw [show (I14820 15) = (I 15) from ((hI14820 15 rfl).trans ((hI14814 15 rfl).trans ((hI14453 15 rfl).trans ((hI10836 15 rfl).trans (hI10822 15 rfl)))))]
                          have g14841 := IvM_s10_0 (I := I14820) (A := A14820) hV14820
                          have g14842 := IvM_s10_1 (I := I14820) (A := A14820) hV14820
                          have g14843 : (I14820 8).toInt = (I14814 8).toInt := by rw [show (I14820 8) = (I14814 8) from (hI14820 8 rfl)]
                          have q14844 := cl_int (y := y10818) (by omega)
                          have g14845 : (A14820 11 y10818.toNatClampNeg).toInt = (A14453 11 y10818.toNatClampNeg).toInt := by rw [show (A14820 11 y10818.toNatClampNeg) = (A14453 11 y10818.toNatClampNeg) from ((congrFun (hA14820 11 rfl) _).trans (congrFun (hA14814 11 rfl) _))]
                          have u14846 : 0 < (I10822 6).toInt ∨ ((I 6).toInt = 0 ∧ (A 2 (I 4).toNatClampNeg).toInt = (1 : Int32).toInt) := r10827
                          have u14847 : 0 < (I14820 6).toInt ∨ ((I14453 6).toInt = 0 ∧ (A 2 (I14453 4).toNatClampNeg).toInt = (4 : Int32).toInt) := r14825
                          exact g_vret hk hR ⟨(upd (upd I14820 11 (-2)) 17 y14835), (up3 A14820 10 1 y14837), (up3L L14820 7 ((I 17).toNatClampNeg) y14834), (show Md [4, 6, 7, 8, 9, 11, 12, 13, 17] I (upd (upd I14820 11 (-2)) 17 y14835) from (Md.up (Md.up (Md.tr (Md.tr (Md.tr (Md.tr (Md.tr (Md.up Md.rf rfl) hI10822 rfl) hI10836 rfl) hI14453 rfl) hI14814 rfl) hI14820 rfl) rfl) rfl)), (show Md [10, 11, 12] A (up3 A14820 10 1 y14837) from (Md.up3 (Md.tr (Md.tr (Md.tr (Md.up3 (Md.tr (Md.tr Md.rf hA10822 rfl) hA10836 rfl) rfl) hA14453 rfl) hA14814 rfl) hA14820 rfl) rfl)), ⟨(IvM_f1 (I := I14820) (A := A14820) hV14820), (IvM_f2 (I := I14820) (A := A14820) hV14820), (IvM_f3 (I := I14820) (A := A14820) hV14820), (IvM_f4 (I := I14820) (A := A14820) hV14820), (IvM_f6 (I := I14820) (A := A14820) hV14820), (IvM_f8 (I := I14820) (A := A14820) hV14820), (IvM_f15 (I := I14820) (A := A14820) hV14820), (IvM_f16 (I := I14820) (A := A14820) hV14820), (show 0 ≤ y14835.toInt ∧ y14835.toInt ≤ 5 from ⟨by omega, by omega⟩), (IvM_f18 (I := I14820) (A := A14820) hV14820), (IvM_f22 (I := I14820) (A := A14820) hV14820), (IvM_f23 (I := I14820) (A := A14820) hV14820), (IvM_f24 (I := I14820) (A := A14820) hV14820), (IvM_a11 (I := I14820) (A := A14820) hV14820), (IvM_a26 (I := I14820) (A := A14820) hV14820), (IvM_s8_0 (I := I14820) (A := A14820) hV14820), (IvM_s8_1 (I := I14820) (A := A14820) hV14820), (show 0 ≤ ((up3 A14820 10 1 y14837) 10 0).toInt ∧ ((up3 A14820 10 1 y14837) 10 0).toInt ≤ 5 from by rw [show (up3 A14820 10 1 y14837) 10 0 = (A14820 10 0) from rfl]; exact ⟨by omega, by omega⟩), (show 0 ≤ ((up3 A14820 10 1 y14837) 10 1).toInt ∧ ((up3 A14820 10 1 y14837) 10 1).toInt ≤ 5 from by rw [show (up3 A14820 10 1 y14837) 10 1 = y14837 from rfl]; exact ⟨by omega, by omega⟩), (IvM_s17_0 (I := I14820) (A := A14820) hV14820), (IvM_s17_164 (I := I14820) (A := A14820) hV14820), ⟨fun e => by have e : (I14820 15).toInt = 0 := e; first | exact (IvM_lv (I := I14820) (A := A14820) hV14820).1 e | (exfalso; omega), fun e => by have e : (I14820 15).toInt = 1 := e; first | exact (IvM_lv (I := I14820) (A := A14820) hV14820).2 e | (exfalso; omega)⟩, (by first | (exfalso; omega) | (by_cases g8 : (I14820 8).toInt ≠ 0; exact Or.inr (Or.inl g8); rcases (IvM_sd (I := I14820) (A := A14820) hV14820) with h9 | h9 | h9; exact absurd h9 (by omega); exact absurd h9 g8; exact Or.inr (Or.inr ⟨fun e => by have e : (I14820 16).toInt = 0 := e; first | exact ghf_add (n := (A14820 10 0)) (f := (A14820 11)) (n2 := y14837) (p := y10818.toNatClampNeg) (h9.1 e) (by omega) (by omega) (by omega) | (exfalso; omega), fun e => by have e : (I14820 16).toInt = 1 := e; first | exact ghf_add (n := (A14820 10 1)) (f := (A14820 11)) (n2 := y14837) (p := y10818.toNatClampNeg) (h9.2 e) (by omega) (by omega) (by omega) | (exfalso; omega)⟩))), ⟨fun e => by have e : (I14820 16).toInt = 0 := e; first | (exfalso; omega) | (show y14835.toInt = (A14820 10 0).toInt; omega), fun e => by have e : (I14820 16).toInt = 1 := e; first | (exfalso; omega) | (show y14835.toInt = y14837.toInt; omega)⟩, (IvM_hr (I := I14820) (A := A14820) hV14820), (IvM_hh (I := I14820) (A := A14820) hV14820), trivial⟩, (by rw [show ((upd (upd I14820 11 (-2)) 17 y14835) 4) = (I14820 4) from rfl] <;> omega), (by rw [show ((upd (upd I14820 11 (-2)) 17 y14835) 6) = (I14820 6) from rfl] <;> omega), (by rw [show ((upd (upd I14820 11 (-2)) 17 y14835) 8) = (I14814 8) from (hI14820 8 rfl)] <;> omega), rfl, rfl⟩ dX12_tellQuery_251
                        exfalso; omega
                      · skip
                        exact g_vret hk hR ⟨I14820, A14820, L14820, (show Md [4, 6, 7, 8, 9, 11, 12, 13, 17] I I14820 from (Md.tr (Md.tr (Md.tr (Md.tr (Md.tr (Md.up Md.rf rfl) hI10822 rfl) hI10836 rfl) hI14453 rfl) hI14814 rfl) hI14820 rfl)), (show Md [10, 11, 12] A A14820 from (Md.tr (Md.tr (Md.tr (Md.up3 (Md.tr (Md.tr Md.rf hA10822 rfl) hA10836 rfl) rfl) hA14453 rfl) hA14814 rfl) hA14820 rfl)), hV14820, (by omega), (by omega), (by rw [show (I14820 8) = (I14814 8) from (hI14820 8 rfl)] <;> omega), rfl, rfl⟩ dX12_tellQuery_206
                · skip
                  show GW κ 4 0 0 (wM r g I14453 A14453 L14453) 88 [(3, .int x10832), (2, .int (I 4)), (1, .int y10818), (0, .ref (r 0))] [.int 1]
                  refine g_if_eq (tgt := 166) (a := 1) hk dX12_tellQuery_88 (by decide) rfl (fun z9 => absurd z9 (show ¬ ((1 : Int) = (0 : Int)) from by decide)) (fun _ => ?_)
                  refine g_aload_n hk dX12_tellQuery_91 rfl ?_
                  refine gM_r0_29 hk hin12 (List.mem_cons_of_mem _ (List.mem_append_left _ (List.mem_of_getElem? (i := 9) rfl))) dX12_tellQuery_92 ?_
                  refine g_iload_n hk dX12_tellQuery_95 rfl ?_
                  refine lM_11 (v := (A14453 11 y10818.toNatClampNeg)) hk (vp_in_iff.mpr ⟨by omega, by omega⟩) rfl dX12_tellQuery_96 ?_
                  have f14848 := IvM_a11 hV14453 (y10818.toNatClampNeg)
                  refine g_bipush (v := 16) hk dX12_tellQuery_97 (by decide) ?_
                  refine g_icmp_ne (tgt := 107) (a := (A14453 11 y10818.toNatClampNeg).toInt) (b := 16) hk dX12_tellQuery_99 (by decide) rfl rfl (fun c14849 => ?_) (fun c14849 => ?_)
                  · skip
                    refine g_aload_n hk dX12_tellQuery_107 rfl ?_
                    refine gM_i6 (v := (I14453 6)) hk hin12 (List.mem_cons_of_mem _ (List.mem_append_left _ (List.mem_of_getElem? (i := 16) rfl))) dX12_tellQuery_108 rfl ?_
                    refine g_if_le (tgt := 115) (a := (I14453 6).toInt) hk dX12_tellQuery_111 (by decide) rfl (fun c14850 => ?_) (fun c14850 => ?_)
                    · skip
                      refine g_aload_n hk dX12_tellQuery_115 rfl ?_
                      refine gM_r0_30 hk hin12 (List.mem_cons_of_mem _ (List.mem_append_left _ (List.mem_of_getElem? (i := 22) rfl))) dX12_tellQuery_116 ?_
                      refine g_bipush (v := 16) hk dX12_tellQuery_119 (by decide) ?_
                      refine g_iload_n hk dX12_tellQuery_121 rfl ?_
                      refine g_imul hk dX12_tellQuery_122 ?_
                      refine g_topi (fun y14851 ey14851 => ?_)
                      have hy14851 : y14851.toInt = 16 * y10818.toInt := i32_mul ey14851 rfl rfl (by omega) (by omega)
                      refine g_aload_n hk dX12_tellQuery_123 rfl ?_
                      refine gM_r0_29 hk hin12 (List.mem_cons_of_mem _ (List.mem_append_left _ (List.mem_of_getElem? (i := 9) rfl))) dX12_tellQuery_124 ?_
                      refine g_iload_n hk dX12_tellQuery_127 rfl ?_
                      refine lM_11 (v := (A14453 11 y10818.toNatClampNeg)) hk (vp_in_iff.mpr ⟨by omega, by omega⟩) rfl dX12_tellQuery_128 ?_
                      refine g_iadd hk dX12_tellQuery_129 ?_
                      refine g_topi (fun y14852 ey14852 => ?_)
                      have hy14852 : y14852.toInt = y14851.toInt + (A14453 11 y10818.toNatClampNeg).toInt := i32_add ey14852 rfl rfl (by omega) (by omega)
                      refine g_aload_n hk dX12_tellQuery_130 rfl ?_
                      refine g_callV (n := 0) hk (j132_X12_readingTold l D zt r g I14453 A14453 L14453  hV14453) (SP.same _) (fun _ h => h) (gi_V (List.mem_cons_of_mem _ (List.mem_append_left _ (List.mem_of_getElem? (i := 23) rfl))) (List.mem_cons_of_mem _ (List.mem_append_left _ (List.mem_of_getElem? (i := 24) rfl))) (List.mem_cons_of_mem _ (List.mem_append_left _ (List.mem_of_getElem? (i := 25) rfl))) (List.mem_cons_of_mem _ (List.mem_append_left _ (List.mem_of_getElem? (i := 7) rfl))) (gi_sub (fun w h => (List.mem_cons_of_mem _ (List.mem_append_right _ (List.mem_append_right _ (List.mem_append_right _ (List.mem_append_right _ (List.mem_append_right _ (List.mem_append_right _ (List.mem_append_left _ h))))))))) zg_j132_X12_readingTold)) rfl rfl rfl (by decide +kernel) ⟨Nat.le_of_ble_eq_true rfl, Nat.le_of_ble_eq_true rfl⟩ 0 rfl rfl rfl rfl (Nat.le_of_ble_eq_true rfl) ⟨Nat.le_of_ble_eq_true rfl, Nat.le_of_ble_eq_true rfl⟩ dX12_tellQuery_131 (fun v ty' w' hp hk' => ?_)
                      obtain ⟨I14854, A14854, L14854, hI14854, hA14854, hV14854, y14853, r14855, r14856, r14857, r14858, rfl, rfl⟩ := hp
                      have f14859 := IvM_f4 hV14854
                      have f14860 := IvM_f6 hV14854
                      have f14861 := IvM_f8 hV14854
                      show GW κ 4 0 0 (wM r g I14854 A14854 L14854) 134 [(3, .int x10832), (2, .int (I 4)), (1, .int y10818), (0, .ref (r 0))] [.int y14853, .int y14852, .ref (r 13)]
                      refine sM_12 (j := y14852.toNatClampNeg) hk (vp_in_iff.mpr ⟨by omega, by omega⟩) rfl dX12_tellQuery_134 ?_
                      refine g_aload_n hk dX12_tellQuery_135 rfl ?_
                      refine gM_i6 (v := (I14854 6)) hk hin12 (List.mem_cons_of_mem _ (List.mem_append_left _ (List.mem_of_getElem? (i := 16) rfl))) dX12_tellQuery_136 rfl ?_
                      refine g_if_le (tgt := 143) (a := (I14854 6).toInt) hk dX12_tellQuery_139 (by decide) rfl (fun c14862 => ?_) (fun c14862 => ?_)
                      · skip
                        refine g_aload_n hk dX12_tellQuery_143 rfl ?_
                        refine gM_r0_29 hk hin12 (List.mem_cons_of_mem _ (List.mem_append_left _ (List.mem_of_getElem? (i := 9) rfl))) dX12_tellQuery_144 ?_
                        refine g_iload_n hk dX12_tellQuery_147 rfl ?_
                        refine g_dup2 hk dX12_tellQuery_148 rfl rfl ?_
                        refine lM_11 (v := (A14453 11 y10818.toNatClampNeg)) hk (vp_in_iff.mpr ⟨by omega, by omega⟩) (congrFun (hA14854 11 rfl) _) dX12_tellQuery_149 ?_
                        refine g_iconst (v := 1) hk dX12_tellQuery_150 (by decide) ?_
                        refine g_iadd hk dX12_tellQuery_151 ?_
                        refine g_topi (fun y14863 ey14863 => ?_)
                        have hy14863 : y14863.toInt = (A14453 11 y10818.toNatClampNeg).toInt + 1 := i32_add ey14863 rfl rfl (by omega) (by omega)
                        refine sM_11 (j := y10818.toNatClampNeg) hk (vp_in_iff.mpr ⟨by omega, by omega⟩) rfl dX12_tellQuery_152 ?_
                        have hA14864 : ∀ j, 0 ≤ ((up3 (up3 A14854 12 (y14852.toNatClampNeg) y14853) 11 (y10818.toNatClampNeg) y14863) 11 j).toInt ∧ ((up3 (up3 A14854 12 (y14852.toNatClampNeg) y14853) 11 (y10818.toNatClampNeg) y14863) 11 j).toInt ≤ 16 := ai_st ((IvM_a11 hV14854)) ⟨by omega, by omega⟩
                        refine g_aload_n hk dX12_tellQuery_153 rfl ?_
                        refine g_dup hk dX12_tellQuery_154 rfl ?_
                        refine gM_i11 (v := (I14453 11)) hk hin12 (List.mem_cons_of_mem _ (List.mem_append_left _ (List.mem_of_getElem? (i := 0) rfl))) dX12_tellQuery_155 (hI14854 11 rfl) ?_
                        refine g_iconst (v := 1) hk dX12_tellQuery_158 (by decide) ?_
                        have b14865l := Int32.le_toInt (I14453 11)
                        have b14865h := Int32.toInt_lt (I14453 11)
                        refine g_iadd hk dX12_tellQuery_159 ?_
                        refine g_topi (fun y14866 ey14866 => ?_)
                        refine pM_i11 hk hin12 (List.mem_cons_of_mem _ (List.mem_append_left _ (List.mem_of_getElem? (i := 0) rfl))) dX12_tellQuery_160 ?_
                        refine g_goto (tgt := 84) hk dX12_tellQuery_163 (by decide) ?_
                        have g14867 : (I14854 15).toInt = (I 15).toInt := by rw [show (I14854 15) = (I 15) from ((hI14854 15 rfl).trans ((hI14453 15 rfl).trans ((hI10836 15 rfl).trans (hI10822 15 rfl))))]
                        have g14868 : (I14854 16).toInt = (I 16).toInt := by rw [show (I14854 16) = (I 16) from ((hI14854 16 rfl).trans ((hI14453 16 rfl).trans ((hI10836 16 rfl).trans (hI10822 16 rfl))))]
                        have g14869 := IvM_s10_0 (I := I14854) (A := A14854) hV14854
                        have g14870 := IvM_s10_1 (I := I14854) (A := A14854) hV14854
                        have q14871 := cl_int (y := y10818) (by omega)
                        have g14872 : (A14854 10 0).toInt = (A 10 0).toInt := by rw [show (A14854 10 0) = (A 10 0) from ((congrFun (hA14854 10 rfl) _).trans ((congrFun (hA14453 10 rfl) _).trans ((congrFun (hA10836 10 rfl) _).trans (congrFun (hA10822 10 rfl) _))))]
                        have g14873 : (A14854 10 1).toInt = (A 10 1).toInt := by rw [show (A14854 10 1) = (A 10 1) from ((congrFun (hA14854 10 rfl) _).trans ((congrFun (hA14453 10 rfl) _).trans ((congrFun (hA10836 10 rfl) _).trans (congrFun (hA10822 10 rfl) _))))]
                        have q14874 := cl_int (y := y10818) (by omega)
                        exact g_lv (List.forall_mem_cons.mpr ⟨List.mem_of_getElem? (i := 0) rfl, (List.forall_mem_cons.mpr ⟨List.mem_of_getElem? (i := 1) rfl, (List.forall_mem_cons.mpr ⟨List.mem_of_getElem? (i := 2) rfl, (List.forall_mem_cons.mpr ⟨List.mem_of_getElem? (i := 3) rfl, (fun _ h => absurd h List.not_mem_nil)⟩)⟩)⟩)⟩) (ih14741 (upd I14854 11 y14866) (up3 (up3 A14854 12 (y14852.toNatClampNeg) y14853) 11 (y10818.toNatClampNeg) y14863) L14854 (show Md [4, 6, 7, 8, 9, 11, 12, 13] I10836 (upd I14854 11 y14866) from Md.tr hI14453 (show Md [4, 6, 7, 8, 9, 11, 12, 13] I14453 (upd I14854 11 y14866) from (Md.up (Md.tr Md.rf hI14854 rfl) rfl)) rfl) (show Md [11, 12] (up3 A10836 11 (y10818.toNatClampNeg) 0) (up3 (up3 A14854 12 (y14852.toNatClampNeg) y14853) 11 (y10818.toNatClampNeg) y14863) from Md.tr hA14453 (show Md [11, 12] A14453 (up3 (up3 A14854 12 (y14852.toNatClampNeg) y14853) 11 (y10818.toNatClampNeg) y14863) from (Md.up3 (Md.up3 (Md.tr Md.rf hA14854 rfl) rfl) rfl)) rfl) ⟨(IvM_f1 (I := I14854) (A := A14854) hV14854), (IvM_f2 (I := I14854) (A := A14854) hV14854), (IvM_f3 (I := I14854) (A := A14854) hV14854), (IvM_f4 (I := I14854) (A := A14854) hV14854), (IvM_f6 (I := I14854) (A := A14854) hV14854), (IvM_f8 (I := I14854) (A := A14854) hV14854), (IvM_f15 (I := I14854) (A := A14854) hV14854), (IvM_f16 (I := I14854) (A := A14854) hV14854), (IvM_f17 (I := I14854) (A := A14854) hV14854), (IvM_f18 (I := I14854) (A := A14854) hV14854), (IvM_f22 (I := I14854) (A := A14854) hV14854), (IvM_f23 (I := I14854) (A := A14854) hV14854), (IvM_f24 (I := I14854) (A := A14854) hV14854), hA14864, (IvM_a26 (I := I14854) (A := A14854) hV14854), (IvM_s8_0 (I := I14854) (A := A14854) hV14854), (IvM_s8_1 (I := I14854) (A := A14854) hV14854), (IvM_s10_0 (I := I14854) (A := A14854) hV14854), (IvM_s10_1 (I := I14854) (A := A14854) hV14854), (IvM_s17_0 (I := I14854) (A := A14854) hV14854), (IvM_s17_164 (I := I14854) (A := A14854) hV14854), ⟨fun e => by have e : (I14854 15).toInt = 0 := e; first | exact ghf_upd (n := (A14854 10 0)) ((IvM_lv (I := I14854) (A := A14854) hV14854).1 e) (fun q hq => by omega) | (exfalso; omega), fun e => by have e : (I14854 15).toInt = 1 := e; first | exact ghf_upd (n := (A14854 10 1)) ((IvM_lv (I := I14854) (A := A14854) hV14854).2 e) (fun q hq => by omega) | (exfalso; omega)⟩, (by rcases (IvM_sd (I := I14854) (A := A14854) hV14854) with h9 | h9 | h9; exact Or.inl h9; exact Or.inr (Or.inl h9); exact Or.inr (Or.inr ⟨fun e => by have e : (I14854 16).toInt = 0 := e; first | exact ghf_upd (n := (A14854 10 0)) (h9.1 e) (fun q hq => by omega) | (exfalso; omega), fun e => by have e : (I14854 16).toInt = 1 := e; first | exact ghf_upd (n := (A14854 10 1)) (h9.2 e) (fun q hq => by omega) | (exfalso; omega)⟩)), (IvM_nq (I := I14854) (A := A14854) hV14854), (IvM_hr (I := I14854) (A := A14854) hV14854), (IvM_hh (I := I14854) (A := A14854) hV14854), trivial⟩ (by first | (rw [show ((upd I14854 11 y14866) 4) = (I14854 4) from rfl] <;> omega) | omega) (by first | (rw [show ((upd I14854 11 y14866) 6) = (I14854 6) from rfl] <;> omega) | omega) (by first | (rw [show ((upd I14854 11 y14866) 8) = (I14854 8) from rfl] <;> omega) | omega) (by first | (rw [show ((upd I14854 11 y14866) 4) = (I14854 4) from rfl] <;> omega) | omega) (by omega))
                      · skip
                        exact g_vret hk hR ⟨I14854, (up3 A14854 12 (y14852.toNatClampNeg) y14853), L14854, (show Md [4, 6, 7, 8, 9, 11, 12, 13, 17] I I14854 from (Md.tr (Md.tr (Md.tr (Md.tr (Md.up Md.rf rfl) hI10822 rfl) hI10836 rfl) hI14453 rfl) hI14854 rfl)), (show Md [10, 11, 12] A (up3 A14854 12 (y14852.toNatClampNeg) y14853) from (Md.up3 (Md.tr (Md.tr (Md.up3 (Md.tr (Md.tr Md.rf hA10822 rfl) hA10836 rfl) rfl) hA14453 rfl) hA14854 rfl) rfl)), ⟨(IvM_f1 (I := I14854) (A := A14854) hV14854), (IvM_f2 (I := I14854) (A := A14854) hV14854), (IvM_f3 (I := I14854) (A := A14854) hV14854), (IvM_f4 (I := I14854) (A := A14854) hV14854), (IvM_f6 (I := I14854) (A := A14854) hV14854), (IvM_f8 (I := I14854) (A := A14854) hV14854), (IvM_f15 (I := I14854) (A := A14854) hV14854), (IvM_f16 (I := I14854) (A := A14854) hV14854), (IvM_f17 (I := I14854) (A := A14854) hV14854), (IvM_f18 (I := I14854) (A := A14854) hV14854), (IvM_f22 (I := I14854) (A := A14854) hV14854), (IvM_f23 (I := I14854) (A := A14854) hV14854), (IvM_f24 (I := I14854) (A := A14854) hV14854), (IvM_a11 (I := I14854) (A := A14854) hV14854), (IvM_a26 (I := I14854) (A := A14854) hV14854), (IvM_s8_0 (I := I14854) (A := A14854) hV14854), (IvM_s8_1 (I := I14854) (A := A14854) hV14854), (IvM_s10_0 (I := I14854) (A := A14854) hV14854), (IvM_s10_1 (I := I14854) (A := A14854) hV14854), (IvM_s17_0 (I := I14854) (A := A14854) hV14854), (IvM_s17_164 (I := I14854) (A := A14854) hV14854), (IvM_lv (I := I14854) (A := A14854) hV14854), (IvM_sd (I := I14854) (A := A14854) hV14854), (IvM_nq (I := I14854) (A := A14854) hV14854), (IvM_hr (I := I14854) (A := A14854) hV14854), (IvM_hh (I := I14854) (A := A14854) hV14854), trivial⟩, (by omega), (by omega), (by omega), rfl, rfl⟩ dX12_tellQuery_142
                    · skip
                      exact g_vret hk hR ⟨I14453, A14453, L14453, (show Md [4, 6, 7, 8, 9, 11, 12, 13, 17] I I14453 from (Md.tr (Md.tr (Md.tr (Md.up Md.rf rfl) hI10822 rfl) hI10836 rfl) hI14453 rfl)), (show Md [10, 11, 12] A A14453 from (Md.tr (Md.up3 (Md.tr (Md.tr Md.rf hA10822 rfl) hA10836 rfl) rfl) hA14453 rfl)), hV14453, (by omega), (by omega), (by omega), rfl, rfl⟩ dX12_tellQuery_114
                  · skip
                    refine g_aload_n hk dX12_tellQuery_102 rfl ?_
                    refine g_iconst (v := 2) hk dX12_tellQuery_103 (by decide) ?_
                    have k14875 : (2 : Int32).toInt = 2 := rfl
                    refine g_callV (n := 1) hk (j128_X12_fail l D zt r g I14453 A14453 L14453 2 hV14453 (by decide) (by decide)) (SP.same _) (fun _ h => h) (gi_V (List.mem_cons_of_mem _ (List.mem_append_left _ (List.mem_of_getElem? (i := 26) rfl))) (List.mem_cons_of_mem _ (List.mem_append_left _ (List.mem_of_getElem? (i := 27) rfl))) (List.mem_cons_of_mem _ (List.mem_append_left _ (List.mem_of_getElem? (i := 28) rfl))) (List.mem_cons_of_mem _ (List.mem_append_left _ (List.mem_of_getElem? (i := 7) rfl))) (gi_sub (fun w h => (List.mem_cons_of_mem _ (List.mem_append_right _ (List.mem_append_right _ (List.mem_append_right _ (List.mem_append_right _ (List.mem_append_right _ (List.mem_append_right _ (List.mem_append_right _ (List.mem_append_left _ h)))))))))) zg_j128_X12_fail)) rfl rfl rfl (by decide +kernel) ⟨Nat.le_of_ble_eq_true rfl, Nat.le_of_ble_eq_true rfl⟩ 0 rfl rfl rfl rfl (Nat.le_of_ble_eq_true rfl) ⟨Nat.le_of_ble_eq_true rfl, Nat.le_of_ble_eq_true rfl⟩ dX12_tellQuery_104 (fun v ty' w' hp hk' => ?_)
                    obtain ⟨I14877, A14877, L14877, hI14877, hA14877, hV14877, r14878, r14879, r14880, rfl, rfl⟩ := hp
                    have f14881 := IvM_f6 hV14877
                    rw [show (I14877 8) = (I14453 8) from (hI14877 8 rfl)] at r14879
                    show GW κ 4 0 0 (wM r g I14877 A14877 L14877) 107 [(3, .int x10832), (2, .int (I 4)), (1, .int y10818), (0, .ref (r 0))] []
                    refine g_aload_n hk dX12_tellQuery_107 rfl ?_
                    refine gM_i6 (v := (I14877 6)) hk hin12 (List.mem_cons_of_mem _ (List.mem_append_left _ (List.mem_of_getElem? (i := 16) rfl))) dX12_tellQuery_108 rfl ?_
                    refine g_if_le (tgt := 115) (a := (I14877 6).toInt) hk dX12_tellQuery_111 (by decide) rfl (fun c14882 => ?_) (fun c14882 => ?_)
                    · skip
                      refine g_aload_n hk dX12_tellQuery_115 rfl ?_
                      refine gM_r0_30 hk hin12 (List.mem_cons_of_mem _ (List.mem_append_left _ (List.mem_of_getElem? (i := 22) rfl))) dX12_tellQuery_116 ?_
                      refine g_bipush (v := 16) hk dX12_tellQuery_119 (by decide) ?_
                      refine g_iload_n hk dX12_tellQuery_121 rfl ?_
                      refine g_imul hk dX12_tellQuery_122 ?_
                      refine g_topi (fun y14883 ey14883 => ?_)
                      have hy14883 : y14883.toInt = 16 * y10818.toInt := i32_mul ey14883 rfl rfl (by omega) (by omega)
                      refine g_aload_n hk dX12_tellQuery_123 rfl ?_
                      refine gM_r0_29 hk hin12 (List.mem_cons_of_mem _ (List.mem_append_left _ (List.mem_of_getElem? (i := 9) rfl))) dX12_tellQuery_124 ?_
                      refine g_iload_n hk dX12_tellQuery_127 rfl ?_
                      refine lM_11 (v := (A14453 11 y10818.toNatClampNeg)) hk (vp_in_iff.mpr ⟨by omega, by omega⟩) (congrFun (hA14877 11 rfl) _) dX12_tellQuery_128 ?_
                      refine g_iadd hk dX12_tellQuery_129 ?_
                      refine g_topi (fun y14884 ey14884 => ?_)
                      have hy14884 : y14884.toInt = y14883.toInt + (A14453 11 y10818.toNatClampNeg).toInt := i32_add ey14884 rfl rfl (by omega) (by omega)
                      refine g_aload_n hk dX12_tellQuery_130 rfl ?_
                      refine g_callV (n := 0) hk (j132_X12_readingTold l D zt r g I14877 A14877 L14877  hV14877) (SP.same _) (fun _ h => h) (gi_V (List.mem_cons_of_mem _ (List.mem_append_left _ (List.mem_of_getElem? (i := 23) rfl))) (List.mem_cons_of_mem _ (List.mem_append_left _ (List.mem_of_getElem? (i := 24) rfl))) (List.mem_cons_of_mem _ (List.mem_append_left _ (List.mem_of_getElem? (i := 25) rfl))) (List.mem_cons_of_mem _ (List.mem_append_left _ (List.mem_of_getElem? (i := 7) rfl))) (gi_sub (fun w h => (List.mem_cons_of_mem _ (List.mem_append_right _ (List.mem_append_right _ (List.mem_append_right _ (List.mem_append_right _ (List.mem_append_right _ (List.mem_append_right _ (List.mem_append_left _ h))))))))) zg_j132_X12_readingTold)) rfl rfl rfl (by decide +kernel) ⟨Nat.le_of_ble_eq_true rfl, Nat.le_of_ble_eq_true rfl⟩ 0 rfl rfl rfl rfl (Nat.le_of_ble_eq_true rfl) ⟨Nat.le_of_ble_eq_true rfl, Nat.le_of_ble_eq_true rfl⟩ dX12_tellQuery_131 (fun v ty' w' hp hk' => ?_)
                      obtain ⟨I14886, A14886, L14886, hI14886, hA14886, hV14886, y14885, r14887, r14888, r14889, r14890, rfl, rfl⟩ := hp
                      have f14891 := IvM_f4 hV14886
                      rw [show (I14877 4) = (I14453 4) from (hI14877 4 rfl)] at r14887
                      have f14892 := IvM_f6 hV14886
                      have f14893 := IvM_f8 hV14886
                      rw [show (I14877 8) = (I14453 8) from (hI14877 8 rfl)] at r14889
                      rw [show (I14877 4) = (I14453 4) from (hI14877 4 rfl)] at r14890
                      show GW κ 4 0 0 (wM r g I14886 A14886 L14886) 134 [(3, .int x10832), (2, .int (I 4)), (1, .int y10818), (0, .ref (r 0))] [.int y14885, .int y14884, .ref (r 13)]
                      refine sM_12 (j := y14884.toNatClampNeg) hk (vp_in_iff.mpr ⟨by omega, by omega⟩) rfl dX12_tellQuery_134 ?_
                      refine g_aload_n hk dX12_tellQuery_135 rfl ?_
                      refine gM_i6 (v := (I14886 6)) hk hin12 (List.mem_cons_of_mem _ (List.mem_append_left _ (List.mem_of_getElem? (i := 16) rfl))) dX12_tellQuery_136 rfl ?_
                      refine g_if_le (tgt := 143) (a := (I14886 6).toInt) hk dX12_tellQuery_139 (by decide) rfl (fun c14894 => ?_) (fun c14894 => ?_)
                      · skip
                        refine g_aload_n hk dX12_tellQuery_143 rfl ?_
                        refine gM_r0_29 hk hin12 (List.mem_cons_of_mem _ (List.mem_append_left _ (List.mem_of_getElem? (i := 9) rfl))) dX12_tellQuery_144 ?_
                        refine g_iload_n hk dX12_tellQuery_147 rfl ?_
                        refine g_dup2 hk dX12_tellQuery_148 rfl rfl ?_
                        refine lM_11 (v := (A14453 11 y10818.toNatClampNeg)) hk (vp_in_iff.mpr ⟨by omega, by omega⟩) ((congrFun (hA14886 11 rfl) _).trans (congrFun (hA14877 11 rfl) _)) dX12_tellQuery_149 ?_
                        refine g_iconst (v := 1) hk dX12_tellQuery_150 (by decide) ?_
                        refine g_iadd hk dX12_tellQuery_151 ?_
                        refine g_topi (fun y14895 ey14895 => ?_)
                        have hy14895 : y14895.toInt = (A14453 11 y10818.toNatClampNeg).toInt + 1 := i32_add ey14895 rfl rfl (by omega) (by omega)
                        refine sM_11 (j := y10818.toNatClampNeg) hk (vp_in_iff.mpr ⟨by omega, by omega⟩) rfl dX12_tellQuery_152 ?_
                        have hA14896 : ∀ j, 0 ≤ ((up3 (up3 A14886 12 (y14884.toNatClampNeg) y14885) 11 (y10818.toNatClampNeg) y14895) 11 j).toInt ∧ ((up3 (up3 A14886 12 (y14884.toNatClampNeg) y14885) 11 (y10818.toNatClampNeg) y14895) 11 j).toInt ≤ 16 := ai_st ((IvM_a11 hV14886)) ⟨by omega, by omega⟩
                        refine g_aload_n hk dX12_tellQuery_153 rfl ?_
                        refine g_dup hk dX12_tellQuery_154 rfl ?_
                        refine gM_i11 (v := (I14453 11)) hk hin12 (List.mem_cons_of_mem _ (List.mem_append_left _ (List.mem_of_getElem? (i := 0) rfl))) dX12_tellQuery_155 ((hI14886 11 rfl).trans (hI14877 11 rfl)) ?_
                        refine g_iconst (v := 1) hk dX12_tellQuery_158 (by decide) ?_
                        have b14897l := Int32.le_toInt (I14453 11)
                        have b14897h := Int32.toInt_lt (I14453 11)
                        refine g_iadd hk dX12_tellQuery_159 ?_
                        refine g_topi (fun y14898 ey14898 => ?_)
                        refine pM_i11 hk hin12 (List.mem_cons_of_mem _ (List.mem_append_left _ (List.mem_of_getElem? (i := 0) rfl))) dX12_tellQuery_160 ?_
                        refine g_goto (tgt := 84) hk dX12_tellQuery_163 (by decide) ?_
                        have g14899 : (I14886 15).toInt = (I 15).toInt := by rw [show (I14886 15) = (I 15) from ((hI14886 15 rfl).trans ((hI14877 15 rfl).trans ((hI14453 15 rfl).trans ((hI10836 15 rfl).trans (hI10822 15 rfl)))))]
                        have g14900 : (I14886 16).toInt = (I 16).toInt := by rw [show (I14886 16) = (I 16) from ((hI14886 16 rfl).trans ((hI14877 16 rfl).trans ((hI14453 16 rfl).trans ((hI10836 16 rfl).trans (hI10822 16 rfl)))))]
                        have g14901 := IvM_s10_0 (I := I14886) (A := A14886) hV14886
                        have g14902 := IvM_s10_1 (I := I14886) (A := A14886) hV14886
                        have q14903 := cl_int (y := y10818) (by omega)
                        have g14904 : (A14886 10 0).toInt = (A 10 0).toInt := by rw [show (A14886 10 0) = (A 10 0) from ((congrFun (hA14886 10 rfl) _).trans ((congrFun (hA14877 10 rfl) _).trans ((congrFun (hA14453 10 rfl) _).trans ((congrFun (hA10836 10 rfl) _).trans (congrFun (hA10822 10 rfl) _)))))]
                        have g14905 : (A14886 10 1).toInt = (A 10 1).toInt := by rw [show (A14886 10 1) = (A 10 1) from ((congrFun (hA14886 10 rfl) _).trans ((congrFun (hA14877 10 rfl) _).trans ((congrFun (hA14453 10 rfl) _).trans ((congrFun (hA10836 10 rfl) _).trans (congrFun (hA10822 10 rfl) _)))))]
                        have q14906 := cl_int (y := y10818) (by omega)
                        exact g_lv (List.forall_mem_cons.mpr ⟨List.mem_of_getElem? (i := 0) rfl, (List.forall_mem_cons.mpr ⟨List.mem_of_getElem? (i := 1) rfl, (List.forall_mem_cons.mpr ⟨List.mem_of_getElem? (i := 2) rfl, (List.forall_mem_cons.mpr ⟨List.mem_of_getElem? (i := 3) rfl, (fun _ h => absurd h List.not_mem_nil)⟩)⟩)⟩)⟩) (ih14741 (upd I14886 11 y14898) (up3 (up3 A14886 12 (y14884.toNatClampNeg) y14885) 11 (y10818.toNatClampNeg) y14895) L14886 (show Md [4, 6, 7, 8, 9, 11, 12, 13] I10836 (upd I14886 11 y14898) from Md.tr hI14453 (show Md [4, 6, 7, 8, 9, 11, 12, 13] I14453 (upd I14886 11 y14898) from (Md.up (Md.tr (Md.tr Md.rf hI14877 rfl) hI14886 rfl) rfl)) rfl) (show Md [11, 12] (up3 A10836 11 (y10818.toNatClampNeg) 0) (up3 (up3 A14886 12 (y14884.toNatClampNeg) y14885) 11 (y10818.toNatClampNeg) y14895) from Md.tr hA14453 (show Md [11, 12] A14453 (up3 (up3 A14886 12 (y14884.toNatClampNeg) y14885) 11 (y10818.toNatClampNeg) y14895) from (Md.up3 (Md.up3 (Md.tr (Md.tr Md.rf hA14877 rfl) hA14886 rfl) rfl) rfl)) rfl) ⟨(IvM_f1 (I := I14886) (A := A14886) hV14886), (IvM_f2 (I := I14886) (A := A14886) hV14886), (IvM_f3 (I := I14886) (A := A14886) hV14886), (IvM_f4 (I := I14886) (A := A14886) hV14886), (IvM_f6 (I := I14886) (A := A14886) hV14886), (IvM_f8 (I := I14886) (A := A14886) hV14886), (IvM_f15 (I := I14886) (A := A14886) hV14886), (IvM_f16 (I := I14886) (A := A14886) hV14886), (IvM_f17 (I := I14886) (A := A14886) hV14886), (IvM_f18 (I := I14886) (A := A14886) hV14886), (IvM_f22 (I := I14886) (A := A14886) hV14886), (IvM_f23 (I := I14886) (A := A14886) hV14886), (IvM_f24 (I := I14886) (A := A14886) hV14886), hA14896, (IvM_a26 (I := I14886) (A := A14886) hV14886), (IvM_s8_0 (I := I14886) (A := A14886) hV14886), (IvM_s8_1 (I := I14886) (A := A14886) hV14886), (IvM_s10_0 (I := I14886) (A := A14886) hV14886), (IvM_s10_1 (I := I14886) (A := A14886) hV14886), (IvM_s17_0 (I := I14886) (A := A14886) hV14886), (IvM_s17_164 (I := I14886) (A := A14886) hV14886), ⟨fun e => by have e : (I14886 15).toInt = 0 := e; first | exact ghf_upd (n := (A14886 10 0)) ((IvM_lv (I := I14886) (A := A14886) hV14886).1 e) (fun q hq => by omega) | (exfalso; omega), fun e => by have e : (I14886 15).toInt = 1 := e; first | exact ghf_upd (n := (A14886 10 1)) ((IvM_lv (I := I14886) (A := A14886) hV14886).2 e) (fun q hq => by omega) | (exfalso; omega)⟩, (by rcases (IvM_sd (I := I14886) (A := A14886) hV14886) with h9 | h9 | h9; exact Or.inl h9; exact Or.inr (Or.inl h9); exact Or.inr (Or.inr ⟨fun e => by have e : (I14886 16).toInt = 0 := e; first | exact ghf_upd (n := (A14886 10 0)) (h9.1 e) (fun q hq => by omega) | (exfalso; omega), fun e => by have e : (I14886 16).toInt = 1 := e; first | exact ghf_upd (n := (A14886 10 1)) (h9.2 e) (fun q hq => by omega) | (exfalso; omega)⟩)), (IvM_nq (I := I14886) (A := A14886) hV14886), (IvM_hr (I := I14886) (A := A14886) hV14886), (IvM_hh (I := I14886) (A := A14886) hV14886), trivial⟩ (by first | (rw [show ((upd I14886 11 y14898) 4) = (I14886 4) from rfl] <;> omega) | omega) (by first | (rw [show ((upd I14886 11 y14898) 6) = (I14886 6) from rfl] <;> omega) | omega) (by first | (rw [show ((upd I14886 11 y14898) 8) = (I14886 8) from rfl] <;> omega) | omega) (by first | (rw [show ((upd I14886 11 y14898) 4) = (I14886 4) from rfl] <;> omega) | omega) (by omega))
                      · skip
                        exact g_vret hk hR ⟨I14886, (up3 A14886 12 (y14884.toNatClampNeg) y14885), L14886, (show Md [4, 6, 7, 8, 9, 11, 12, 13, 17] I I14886 from (Md.tr (Md.tr (Md.tr (Md.tr (Md.tr (Md.up Md.rf rfl) hI10822 rfl) hI10836 rfl) hI14453 rfl) hI14877 rfl) hI14886 rfl)), (show Md [10, 11, 12] A (up3 A14886 12 (y14884.toNatClampNeg) y14885) from (Md.up3 (Md.tr (Md.tr (Md.tr (Md.up3 (Md.tr (Md.tr Md.rf hA10822 rfl) hA10836 rfl) rfl) hA14453 rfl) hA14877 rfl) hA14886 rfl) rfl)), ⟨(IvM_f1 (I := I14886) (A := A14886) hV14886), (IvM_f2 (I := I14886) (A := A14886) hV14886), (IvM_f3 (I := I14886) (A := A14886) hV14886), (IvM_f4 (I := I14886) (A := A14886) hV14886), (IvM_f6 (I := I14886) (A := A14886) hV14886), (IvM_f8 (I := I14886) (A := A14886) hV14886), (IvM_f15 (I := I14886) (A := A14886) hV14886), (IvM_f16 (I := I14886) (A := A14886) hV14886), (IvM_f17 (I := I14886) (A := A14886) hV14886), (IvM_f18 (I := I14886) (A := A14886) hV14886), (IvM_f22 (I := I14886) (A := A14886) hV14886), (IvM_f23 (I := I14886) (A := A14886) hV14886), (IvM_f24 (I := I14886) (A := A14886) hV14886), (IvM_a11 (I := I14886) (A := A14886) hV14886), (IvM_a26 (I := I14886) (A := A14886) hV14886), (IvM_s8_0 (I := I14886) (A := A14886) hV14886), (IvM_s8_1 (I := I14886) (A := A14886) hV14886), (IvM_s10_0 (I := I14886) (A := A14886) hV14886), (IvM_s10_1 (I := I14886) (A := A14886) hV14886), (IvM_s17_0 (I := I14886) (A := A14886) hV14886), (IvM_s17_164 (I := I14886) (A := A14886) hV14886), (IvM_lv (I := I14886) (A := A14886) hV14886), (IvM_sd (I := I14886) (A := A14886) hV14886), (IvM_nq (I := I14886) (A := A14886) hV14886), (IvM_hr (I := I14886) (A := A14886) hV14886), (IvM_hh (I := I14886) (A := A14886) hV14886), trivial⟩, (by omega), (by omega), (by omega), rfl, rfl⟩ dX12_tellQuery_142
                    · skip
                      exact g_vret hk hR ⟨I14877, A14877, L14877, (show Md [4, 6, 7, 8, 9, 11, 12, 13, 17] I I14877 from (Md.tr (Md.tr (Md.tr (Md.tr (Md.up Md.rf rfl) hI10822 rfl) hI10836 rfl) hI14453 rfl) hI14877 rfl)), (show Md [10, 11, 12] A A14877 from (Md.tr (Md.tr (Md.up3 (Md.tr (Md.tr Md.rf hA10822 rfl) hA10836 rfl) rfl) hA14453 rfl) hA14877 rfl)), hV14877, (by rw [show (I14877 4) = (I14453 4) from (hI14877 4 rfl)] <;> omega), (by omega), (by rw [show (I14877 8) = (I14453 8) from (hI14877 8 rfl)] <;> omega), rfl, rfl⟩ dX12_tellQuery_114
            obtain ⟨n14907, n14907a, n14907b⟩ : ∃ n : Nat, 401 - (I10822 4).toInt < (n : Int) ∧ 0 < n := ⟨((401 - (I10822 4).toInt : Int)).toNat + 1, by omega, by omega⟩
            have g14908 : (I10836 15).toInt = (I 15).toInt := by rw [show (I10836 15) = (I 15) from ((hI10836 15 rfl).trans (hI10822 15 rfl))]
            have g14909 : (I10836 16).toInt = (I 16).toInt := by rw [show (I10836 16) = (I 16) from ((hI10836 16 rfl).trans (hI10822 16 rfl))]
            have g14910 := IvM_s10_0 (I := I10836) (A := A10836) hV10836
            have g14911 := IvM_s10_1 (I := I10836) (A := A10836) hV10836
            have q14912 := cl_int (y := y10818) (by omega)
            have g14913 : (A10836 10 0).toInt = (A 10 0).toInt := by rw [show (A10836 10 0) = (A 10 0) from ((congrFun (hA10836 10 rfl) _).trans (congrFun (hA10822 10 rfl) _))]
            have g14914 : (A10836 10 1).toInt = (A 10 1).toInt := by rw [show (A10836 10 1) = (A 10 1) from ((congrFun (hA10836 10 rfl) _).trans (congrFun (hA10822 10 rfl) _))]
            have g14915 : (I10836 6).toInt = (I10822 6).toInt := by rw [show (I10836 6) = (I10822 6) from (hI10836 6 rfl)]
            have q14916 := cl_int (y := y10818) (by omega)
            exact lp14738 n14907 I10836 (up3 A10836 11 (y10818.toNatClampNeg) 0) L10836 Md.rf Md.rf ⟨(IvM_f1 (I := I10836) (A := A10836) hV10836), (IvM_f2 (I := I10836) (A := A10836) hV10836), (IvM_f3 (I := I10836) (A := A10836) hV10836), (IvM_f4 (I := I10836) (A := A10836) hV10836), (IvM_f6 (I := I10836) (A := A10836) hV10836), (IvM_f8 (I := I10836) (A := A10836) hV10836), (IvM_f15 (I := I10836) (A := A10836) hV10836), (IvM_f16 (I := I10836) (A := A10836) hV10836), (IvM_f17 (I := I10836) (A := A10836) hV10836), (IvM_f18 (I := I10836) (A := A10836) hV10836), (IvM_f22 (I := I10836) (A := A10836) hV10836), (IvM_f23 (I := I10836) (A := A10836) hV10836), (IvM_f24 (I := I10836) (A := A10836) hV10836), hA14448, (IvM_a26 (I := I10836) (A := A10836) hV10836), (IvM_s8_0 (I := I10836) (A := A10836) hV10836), (IvM_s8_1 (I := I10836) (A := A10836) hV10836), (IvM_s10_0 (I := I10836) (A := A10836) hV10836), (IvM_s10_1 (I := I10836) (A := A10836) hV10836), (IvM_s17_0 (I := I10836) (A := A10836) hV10836), (IvM_s17_164 (I := I10836) (A := A10836) hV10836), ⟨fun e => by have e : (I10836 15).toInt = 0 := e; first | exact ghf_upd (n := (A10836 10 0)) ((IvM_lv (I := I10836) (A := A10836) hV10836).1 e) (fun q hq => by omega) | (exfalso; omega), fun e => by have e : (I10836 15).toInt = 1 := e; first | exact ghf_upd (n := (A10836 10 1)) ((IvM_lv (I := I10836) (A := A10836) hV10836).2 e) (fun q hq => by omega) | (exfalso; omega)⟩, (by rcases (IvM_sd (I := I10836) (A := A10836) hV10836) with h9 | h9 | h9; exact Or.inl h9; exact Or.inr (Or.inl h9); exact Or.inr (Or.inr ⟨fun e => by have e : (I10836 16).toInt = 0 := e; first | exact ghf_upd (n := (A10836 10 0)) (h9.1 e) (fun q hq => by omega) | (exfalso; omega), fun e => by have e : (I10836 16).toInt = 1 := e; first | exact ghf_upd (n := (A10836 10 1)) (h9.2 e) (fun q hq => by omega) | (exfalso; omega)⟩)), (IvM_nq (I := I10836) (A := A10836) hV10836), (IvM_hr (I := I10836) (A := A10836) hV10836), (IvM_hh (I := I10836) (A := A10836) hV10836), trivial⟩ (by first | (rw [show (I10836 4) = (I10822 4) from (hI10836 4 rfl)] <;> omega) | omega) (by first | (rw [show (I10836 6) = (I10822 6) from (hI10836 6 rfl)] <;> omega) | omega) (by omega) (by first | exact n14907a | (rw [show (I10836 4) = (I10822 4) from (hI10836 4 rfl)] <;> exact n14907a)) n14907b
          · skip
            refine g_aload_n hk dX12_tellQuery_42 rfl ?_
            refine gM_i6 (v := (I10822 6)) hk hin12 (List.mem_cons_of_mem _ (List.mem_append_left _ (List.mem_of_getElem? (i := 16) rfl))) dX12_tellQuery_43 (hI10836 6 rfl) ?_
            refine g_if_ne (tgt := 77) (a := (I10822 6).toInt) hk dX12_tellQuery_46 (by decide) rfl (fun c14917 => ?_) (fun c14917 => ?_)
            · skip
              refine g_aload_n hk dX12_tellQuery_77 rfl ?_
              refine gM_r0_29 hk hin12 (List.mem_cons_of_mem _ (List.mem_append_left _ (List.mem_of_getElem? (i := 9) rfl))) dX12_tellQuery_78 ?_
              refine g_iload_n hk dX12_tellQuery_81 rfl ?_
              refine g_iconst (v := 0) hk dX12_tellQuery_82 (by decide) ?_
              have k14918 : (0 : Int32).toInt = 0 := rfl
              refine sM_11 (j := y10818.toNatClampNeg) hk (vp_in_iff.mpr ⟨by omega, by omega⟩) rfl dX12_tellQuery_83 ?_
              have hA14919 : ∀ j, 0 ≤ ((up3 A10836 11 (y10818.toNatClampNeg) 0) 11 j).toInt ∧ ((up3 A10836 11 (y10818.toNatClampNeg) 0) 11 j).toInt ≤ 16 := ai_st ((IvM_a11 hV10836)) ⟨by omega, by omega⟩
              have f15184 := IvM_f4 hIv
              have f15185 := IvM_f6 hIv
              have f15186 := IvM_f8 hIv
              have lp15190 : ∀ (n15191 : Nat) (I14924 : Nat → Int32) (A14924 : Nat → Nat → Int32) (L14924 : Nat → Nat → Int64), (Md [4, 6, 7, 8, 9, 11, 12, 13] I10836 I14924) → (Md [11, 12] (up3 A10836 11 (y10818.toNatClampNeg) 0) A14924) → (IvM I14924 A14924) → ((I 4).toInt ≤ (I14924 4).toInt) → ((I 6).toInt ≤ (I14924 6).toInt) → ((I 8).toInt ≤ 9 * (I14924 8).toInt) → (401 - (I14924 4).toInt < (n15191 : Int)) → (0 < n15191) → GW κ 4 0 0 (wM r g I14924 A14924 L14924) 84 [(3, .int x10832), (2, .int (I 4)), (1, .int y10818), (0, .ref (r 0))] [] := by
                intro n15191
                induction n15191 with
                | zero =>
                  intro I14924 A14924 L14924 hI14924 hA14924 hV14924 h15187 h15188 h15189 m15192 m15192z
                  exact absurd m15192z (Nat.lt_irrefl 0)
                | succ n15191 ih15193 =>
                  intro I14924 A14924 L14924 hI14924 hA14924 hV14924 h15187 h15188 h15189 m15192 m15192z
                  have f15194 := IvM_f4 hV14924
                  have f15195 := IvM_f6 hV14924
                  have f15196 := IvM_f8 hV14924
                  refine g_aload_n hk dX12_tellQuery_84 rfl ?_
                  refine g_callV (n := 0) hk (j130_X12_isReading l D zt r g I14924 A14924 L14924  hV14924) (SP.same _) (fun _ h => h) (gi_V (List.mem_cons_of_mem _ (List.mem_append_left _ (List.mem_of_getElem? (i := 10) rfl))) (List.mem_cons_of_mem _ (List.mem_append_left _ (List.mem_of_getElem? (i := 11) rfl))) (List.mem_cons_of_mem _ (List.mem_append_left _ (List.mem_of_getElem? (i := 12) rfl))) (List.mem_cons_of_mem _ (List.mem_append_left _ (List.mem_of_getElem? (i := 7) rfl))) (gi_sub (fun w h => (List.mem_cons_of_mem _ (List.mem_append_right _ (List.mem_append_right _ (List.mem_append_right _ (List.mem_append_left _ h)))))) zg_j130_X12_isReading)) rfl rfl rfl (by decide +kernel) ⟨Nat.le_of_ble_eq_true rfl, Nat.le_of_ble_eq_true rfl⟩ 0 rfl rfl rfl rfl (Nat.le_of_ble_eq_true rfl) ⟨Nat.le_of_ble_eq_true rfl, Nat.le_of_ble_eq_true rfl⟩ dX12_tellQuery_85 (fun v ty' w' hp hk' => ?_)
                  rcases hp with ⟨rfl, rfl⟩ | ⟨rfl, rfl⟩
                  · skip
                    show GW κ 4 0 0 (wM r g I14924 A14924 L14924) 88 [(3, .int x10832), (2, .int (I 4)), (1, .int y10818), (0, .ref (r 0))] [.int 0]
                    refine g_if_eq (tgt := 166) (a := 0) hk dX12_tellQuery_88 (by decide) rfl (fun _ => ?_) (fun z9 => absurd (show (0 : Int) = (0 : Int) from by decide) z9)
                    refine g_aload_n hk dX12_tellQuery_166 rfl ?_
                    refine g_iconst (v := 4) hk dX12_tellQuery_167 (by decide) ?_
                    have k15199 : (4 : Int32).toInt = 4 := rfl
                    refine g_callV (n := 1) hk (j125_X12_is l D zt r g I14924 A14924 L14924 4 hV14924) (SP.same _) (fun _ h => h) (gi_V (List.mem_cons_of_mem _ (List.mem_append_left _ (List.mem_of_getElem? (i := 13) rfl))) (List.mem_cons_of_mem _ (List.mem_append_left _ (List.mem_of_getElem? (i := 14) rfl))) (List.mem_cons_of_mem _ (List.mem_append_left _ (List.mem_of_getElem? (i := 15) rfl))) (List.mem_cons_of_mem _ (List.mem_append_left _ (List.mem_of_getElem? (i := 7) rfl))) (gi_sub (fun w h => (List.mem_cons_of_mem _ (List.mem_append_right _ (List.mem_append_right _ (List.mem_append_right _ (List.mem_append_right _ (List.mem_append_left _ h))))))) zg_j125_X12_is)) rfl rfl rfl (by decide +kernel) ⟨Nat.le_of_ble_eq_true rfl, Nat.le_of_ble_eq_true rfl⟩ 0 rfl rfl rfl rfl (Nat.le_of_ble_eq_true rfl) ⟨Nat.le_of_ble_eq_true rfl, Nat.le_of_ble_eq_true rfl⟩ dX12_tellQuery_168 (fun v ty' w' hp hk' => ?_)
                    rcases hp with ⟨c15200, rfl, rfl⟩ | ⟨c15202, rfl, rfl⟩
                    · skip
                      rw [show (A14924 2 (I14924 4).toNatClampNeg) = (A 2 (I14924 4).toNatClampNeg) from ((congrFun (hA14924 2 rfl) _).trans ((congrFun (hA10836 2 rfl) _).trans (congrFun (hA10822 2 rfl) _)))] at c15200
                      show GW κ 4 0 0 (wM r g I14924 A14924 L14924) 171 [(3, .int x10832), (2, .int (I 4)), (1, .int y10818), (0, .ref (r 0))] [.int 0]
                      refine g_if_eq (tgt := 194) (a := 0) hk dX12_tellQuery_171 (by decide) rfl (fun _ => ?_) (fun z9 => absurd (show (0 : Int) = (0 : Int) from by decide) z9)
                      refine g_aload_n hk dX12_tellQuery_194 rfl ?_
                      refine g_iconst (v := 4) hk dX12_tellQuery_195 (by decide) ?_
                      refine g_callV (n := 1) hk (j131_X12_must l D zt r g I14924 A14924 L14924 4 hV14924) (SP.same _) (fun _ h => h) (gi_V (List.mem_cons_of_mem _ (List.mem_append_left _ (List.mem_of_getElem? (i := 4) rfl))) (List.mem_cons_of_mem _ (List.mem_append_left _ (List.mem_of_getElem? (i := 5) rfl))) (List.mem_cons_of_mem _ (List.mem_append_left _ (List.mem_of_getElem? (i := 6) rfl))) (List.mem_cons_of_mem _ (List.mem_append_left _ (List.mem_of_getElem? (i := 7) rfl))) (gi_sub (fun w h => (List.mem_cons_of_mem _ (List.mem_append_right _ (List.mem_append_right _ (List.mem_append_left _ h))))) zg_j131_X12_must)) rfl rfl rfl (by decide +kernel) ⟨Nat.le_of_ble_eq_true rfl, Nat.le_of_ble_eq_true rfl⟩ 0 rfl rfl rfl rfl (Nat.le_of_ble_eq_true rfl) ⟨Nat.le_of_ble_eq_true rfl, Nat.le_of_ble_eq_true rfl⟩ dX12_tellQuery_196 (fun v ty' w' hp hk' => ?_)
                      obtain ⟨I15205, A15205, L15205, hI15205, hA15205, hV15205, r15206, r15207, r15208, r15209, r15210, rfl, rfl⟩ := hp
                      have f15211 := IvM_f4 hV15205
                      have f15212 := IvM_f6 hV15205
                      rw [show (I15205 8) = (I14924 8) from (hI15205 8 rfl)] at r15208
                      rw [show (A14924 2 (I14924 4).toNatClampNeg) = (A 2 (I14924 4).toNatClampNeg) from ((congrFun (hA14924 2 rfl) _).trans ((congrFun (hA10836 2 rfl) _).trans (congrFun (hA10822 2 rfl) _)))] at r15210
                      show GW κ 4 0 0 (wM r g I15205 A15205 L15205) 199 [(3, .int x10832), (2, .int (I 4)), (1, .int y10818), (0, .ref (r 0))] []
                      refine g_aload_n hk dX12_tellQuery_199 rfl ?_
                      refine gM_i6 (v := (I15205 6)) hk hin12 (List.mem_cons_of_mem _ (List.mem_append_left _ (List.mem_of_getElem? (i := 16) rfl))) dX12_tellQuery_200 rfl ?_
                      refine g_if_le (tgt := 207) (a := (I15205 6).toInt) hk dX12_tellQuery_203 (by decide) rfl (fun c15213 => ?_) (fun c15213 => ?_)
                      · skip
                        refine g_aload_n hk dX12_tellQuery_207 rfl ?_
                        refine g_bipush (v := (-2)) hk dX12_tellQuery_208 (by decide) ?_
                        refine pM_i11 hk hin12 (List.mem_cons_of_mem _ (List.mem_append_left _ (List.mem_of_getElem? (i := 0) rfl))) dX12_tellQuery_210 ?_
                        refine g_aload_n hk dX12_tellQuery_213 rfl ?_
                        refine gM_r0_25 hk hin12 (List.mem_cons_of_mem _ (List.mem_append_left _ (List.mem_of_getElem? (i := 17) rfl))) dX12_tellQuery_214 ?_
                        refine g_aload_n hk dX12_tellQuery_217 rfl ?_
                        refine gM_i17 (v := (I 17)) hk hin12 (List.mem_cons_of_mem _ (List.mem_append_left _ (List.mem_of_getElem? (i := 8) rfl))) dX12_tellQuery_218 ((hI15205 17 rfl).trans ((hI14924 17 rfl).trans ((hI10836 17 rfl).trans (hI10822 17 rfl)))) ?_
                        have g15214 : (I15205 16).toInt = (I 16).toInt := by rw [show (I15205 16) = (I 16) from ((hI15205 16 rfl).trans ((hI14924 16 rfl).trans ((hI10836 16 rfl).trans (hI10822 16 rfl))))]
                        have g15215 : (I15205 17).toInt = (I 17).toInt := by rw [show (I15205 17) = (I 17) from ((hI15205 17 rfl).trans ((hI14924 17 rfl).trans ((hI10836 17 rfl).trans (hI10822 17 rfl))))]
                        have g15216 : (A15205 10 0).toInt = (A 10 0).toInt := by rw [show (A15205 10 0) = (A 10 0) from ((congrFun (hA15205 10 rfl) _).trans ((congrFun (hA14924 10 rfl) _).trans ((congrFun (hA10836 10 rfl) _).trans (congrFun (hA10822 10 rfl) _))))]
                        have g15217 : (A15205 10 1).toInt = (A 10 1).toInt := by rw [show (A15205 10 1) = (A 10 1) from ((congrFun (hA15205 10 rfl) _).trans ((congrFun (hA14924 10 rfl) _).trans ((congrFun (hA10836 10 rfl) _).trans (congrFun (hA10822 10 rfl) _))))]
                        have g15218 := (IvM_nq (I := I15205) (A := A15205) hV15205).2 (by omega)
                        refine g_aload_n hk dX12_tellQuery_221 rfl ?_
                        refine gM_r0_8 hk hin12 (List.mem_cons_of_mem _ (List.mem_append_left _ (List.mem_of_getElem? (i := 18) rfl))) dX12_tellQuery_222 ?_
                        refine g_iload_n hk dX12_tellQuery_225 rfl ?_
                        refine lM_5 hk (vp_in_iff.mpr ⟨by omega, by omega⟩) rfl dX12_tellQuery_226 ?_
                        refine g_topl (fun y15219 ey15219 => ?_)
                        refine sM_7 (j := (I 17).toNatClampNeg) hk (vp_in_iff.mpr ⟨by omega, by omega⟩) rfl dX12_tellQuery_227 ?_
                        refine g_aload_n hk dX12_tellQuery_228 rfl ?_
                        refine g_dup hk dX12_tellQuery_229 rfl ?_
                        refine gM_i17 (v := (I 17)) hk hin12 (List.mem_cons_of_mem _ (List.mem_append_left _ (List.mem_of_getElem? (i := 8) rfl))) dX12_tellQuery_230 ((hI15205 17 rfl).trans ((hI14924 17 rfl).trans ((hI10836 17 rfl).trans (hI10822 17 rfl)))) ?_
                        refine g_iconst (v := 1) hk dX12_tellQuery_233 (by decide) ?_
                        refine g_iadd hk dX12_tellQuery_234 ?_
                        refine g_topi (fun y15220 ey15220 => ?_)
                        have hy15220 : y15220.toInt = (I 17).toInt + 1 := i32_add ey15220 rfl rfl (by omega) (by omega)
                        refine pM_i17 hk hin12 (List.mem_cons_of_mem _ (List.mem_append_left _ (List.mem_of_getElem? (i := 8) rfl))) dX12_tellQuery_235 ?_
                        refine g_aload_n hk dX12_tellQuery_238 rfl ?_
                        refine gM_r0_28 hk hin12 (List.mem_cons_of_mem _ (List.mem_append_left _ (List.mem_of_getElem? (i := 2) rfl))) dX12_tellQuery_239 ?_
                        refine g_aload_n hk dX12_tellQuery_242 rfl ?_
                        refine gM_i16 (v := (I 16)) hk hin12 (List.mem_cons_of_mem _ (List.mem_append_left _ (List.mem_of_getElem? (i := 1) rfl))) dX12_tellQuery_243 ((hI15205 16 rfl).trans ((hI14924 16 rfl).trans ((hI10836 16 rfl).trans (hI10822 16 rfl)))) ?_
                        by_cases c15221 : (I 16).toInt = 1
                        · have ec15221 : (I 16) = 1 := Int32.toInt_inj.mp c15221
                          rw [ec15221]
                          show GW κ 4 0 0 (wM r g (upd (upd I15205 11 (-2)) 17 y15220) A15205 (up3L L15205 7 ((I 17).toNatClampNeg) y15219)) 246 [(3, .int x10832), (2, .int (I 4)), (1, .int y10818), (0, .ref (r 0))] [.int 1, .ref (r 11)]
                          refine g_dup2 hk dX12_tellQuery_246 rfl rfl ?_
                          refine lM_10 (v := (A 10 1)) hk (vp_in_iff.mpr ⟨by decide, by decide⟩) ((congrFun (hA15205 10 rfl) _).trans ((congrFun (hA14924 10 rfl) _).trans ((congrFun (hA10836 10 rfl) _).trans (congrFun (hA10822 10 rfl) _)))) dX12_tellQuery_247 ?_
                          refine g_iconst (v := 1) hk dX12_tellQuery_248 (by decide) ?_
                          refine g_iadd hk dX12_tellQuery_249 ?_
                          refine g_topi (fun y15222 ey15222 => ?_)
                          have hy15222 : y15222.toInt = (A 10 1).toInt + 1 := i32_add ey15222 rfl rfl (by omega) (by omega)
                          refine sM_10 (j := 1) hk (vp_in_iff.mpr ⟨by decide, by decide⟩) (by decide) dX12_tellQuery_250 ?_
                          have f15223 := IvM_s10_0 hV15205
                          have f15224 := IvM_s10_1 hV15205
                          have g15225 : (I15205 15).toInt = (I 15).toInt := by rw [show (I15205 15) = (I 15) from ((hI15205 15 rfl).trans ((hI14924 15 rfl).trans ((hI10836 15 rfl).trans (hI10822 15 rfl))))]
                          have g15226 := IvM_s10_0 (I := I15205) (A := A15205) hV15205
                          have g15227 := IvM_s10_1 (I := I15205) (A := A15205) hV15205
                          have g15228 : (I15205 8).toInt = (I14924 8).toInt := by rw [show (I15205 8) = (I14924 8) from (hI15205 8 rfl)]
                          have q15229 := cl_int (y := y10818) (by omega)
                          have g15230 : (A15205 11 y10818.toNatClampNeg).toInt = (A14924 11 y10818.toNatClampNeg).toInt := by rw [show (A15205 11 y10818.toNatClampNeg) = (A14924 11 y10818.toNatClampNeg) from (congrFun (hA15205 11 rfl) _)]
                          have u15231 : (I14924 6).toInt ≠ 0 ∨ (A 2 (I14924 4).toNatClampNeg).toInt ≠ (4 : Int32).toInt := c15200
                          have u15232 : 0 < (I15205 6).toInt ∨ ((I14924 6).toInt = 0 ∧ (A 2 (I14924 4).toNatClampNeg).toInt = (4 : Int32).toInt) := r15210
                          exact g_vret hk hR ⟨(upd (upd I15205 11 (-2)) 17 y15220), (up3 A15205 10 1 y15222), (up3L L15205 7 ((I 17).toNatClampNeg) y15219), (show Md [4, 6, 7, 8, 9, 11, 12, 13, 17] I (upd (upd I15205 11 (-2)) 17 y15220) from (Md.up (Md.up (Md.tr (Md.tr (Md.tr (Md.tr (Md.up Md.rf rfl) hI10822 rfl) hI10836 rfl) hI14924 rfl) hI15205 rfl) rfl) rfl)), (show Md [10, 11, 12] A (up3 A15205 10 1 y15222) from (Md.up3 (Md.tr (Md.tr (Md.up3 (Md.tr (Md.tr Md.rf hA10822 rfl) hA10836 rfl) rfl) hA14924 rfl) hA15205 rfl) rfl)), ⟨(IvM_f1 (I := I15205) (A := A15205) hV15205), (IvM_f2 (I := I15205) (A := A15205) hV15205), (IvM_f3 (I := I15205) (A := A15205) hV15205), (IvM_f4 (I := I15205) (A := A15205) hV15205), (IvM_f6 (I := I15205) (A := A15205) hV15205), (IvM_f8 (I := I15205) (A := A15205) hV15205), (IvM_f15 (I := I15205) (A := A15205) hV15205), (IvM_f16 (I := I15205) (A := A15205) hV15205), (show 0 ≤ y15220.toInt ∧ y15220.toInt ≤ 5 from ⟨by omega, by omega⟩), (IvM_f18 (I := I15205) (A := A15205) hV15205), (IvM_f22 (I := I15205) (A := A15205) hV15205), (IvM_f23 (I := I15205) (A := A15205) hV15205), (IvM_f24 (I := I15205) (A := A15205) hV15205), (IvM_a11 (I := I15205) (A := A15205) hV15205), (IvM_a26 (I := I15205) (A := A15205) hV15205), (IvM_s8_0 (I := I15205) (A := A15205) hV15205), (IvM_s8_1 (I := I15205) (A := A15205) hV15205), (show 0 ≤ ((up3 A15205 10 1 y15222) 10 0).toInt ∧ ((up3 A15205 10 1 y15222) 10 0).toInt ≤ 5 from by rw [show (up3 A15205 10 1 y15222) 10 0 = (A15205 10 0) from rfl]; exact ⟨by omega, by omega⟩), (show 0 ≤ ((up3 A15205 10 1 y15222) 10 1).toInt ∧ ((up3 A15205 10 1 y15222) 10 1).toInt ≤ 5 from by rw [show (up3 A15205 10 1 y15222) 10 1 = y15222 from rfl]; exact ⟨by omega, by omega⟩), (IvM_s17_0 (I := I15205) (A := A15205) hV15205), (IvM_s17_164 (I := I15205) (A := A15205) hV15205), ⟨fun e => by have e : (I15205 15).toInt = 0 := e; first | exact (IvM_lv (I := I15205) (A := A15205) hV15205).1 e | (exfalso; omega), fun e => by have e : (I15205 15).toInt = 1 := e; first | exact (IvM_lv (I := I15205) (A := A15205) hV15205).2 e | (exfalso; omega)⟩, (by first | (exfalso; omega) | (by_cases g8 : (I15205 8).toInt ≠ 0; exact Or.inr (Or.inl g8); rcases (IvM_sd (I := I15205) (A := A15205) hV15205) with h9 | h9 | h9; exact absurd h9 (by omega); exact absurd h9 g8; exact Or.inr (Or.inr ⟨fun e => by have e : (I15205 16).toInt = 0 := e; first | exact ghf_add (n := (A15205 10 0)) (f := (A15205 11)) (n2 := y15222) (p := y10818.toNatClampNeg) (h9.1 e) (by omega) (by omega) (by omega) | (exfalso; omega), fun e => by have e : (I15205 16).toInt = 1 := e; first | exact ghf_add (n := (A15205 10 1)) (f := (A15205 11)) (n2 := y15222) (p := y10818.toNatClampNeg) (h9.2 e) (by omega) (by omega) (by omega) | (exfalso; omega)⟩))), ⟨fun e => by have e : (I15205 16).toInt = 0 := e; first | (exfalso; omega) | (show y15220.toInt = (A15205 10 0).toInt; omega), fun e => by have e : (I15205 16).toInt = 1 := e; first | (exfalso; omega) | (show y15220.toInt = y15222.toInt; omega)⟩, (IvM_hr (I := I15205) (A := A15205) hV15205), (IvM_hh (I := I15205) (A := A15205) hV15205), trivial⟩, (by rw [show ((upd (upd I15205 11 (-2)) 17 y15220) 4) = (I15205 4) from rfl] <;> omega), (by rw [show ((upd (upd I15205 11 (-2)) 17 y15220) 6) = (I15205 6) from rfl] <;> omega), (by rw [show ((upd (upd I15205 11 (-2)) 17 y15220) 8) = (I14924 8) from (hI15205 8 rfl)] <;> omega), rfl, rfl⟩ dX12_tellQuery_251
                        exfalso; omega
                      · skip
                        exact g_vret hk hR ⟨I15205, A15205, L15205, (show Md [4, 6, 7, 8, 9, 11, 12, 13, 17] I I15205 from (Md.tr (Md.tr (Md.tr (Md.tr (Md.up Md.rf rfl) hI10822 rfl) hI10836 rfl) hI14924 rfl) hI15205 rfl)), (show Md [10, 11, 12] A A15205 from (Md.tr (Md.tr (Md.up3 (Md.tr (Md.tr Md.rf hA10822 rfl) hA10836 rfl) rfl) hA14924 rfl) hA15205 rfl)), hV15205, (by omega), (by omega), (by rw [show (I15205 8) = (I14924 8) from (hI15205 8 rfl)] <;> omega), rfl, rfl⟩ dX12_tellQuery_206
                    · skip
                      rw [show (A14924 2 (I14924 4).toNatClampNeg) = (A 2 (I14924 4).toNatClampNeg) from ((congrFun (hA14924 2 rfl) _).trans ((congrFun (hA10836 2 rfl) _).trans (congrFun (hA10822 2 rfl) _)))] at c15202
                      show GW κ 4 0 0 (wM r g I14924 A14924 L14924) 171 [(3, .int x10832), (2, .int (I 4)), (1, .int y10818), (0, .ref (r 0))] [.int 1]
                      refine g_if_eq (tgt := 194) (a := 1) hk dX12_tellQuery_171 (by decide) rfl (fun z9 => absurd z9 (show ¬ ((1 : Int) = (0 : Int)) from by decide)) (fun _ => ?_)
                      refine g_aload_n hk dX12_tellQuery_174 rfl ?_
                      refine gM_r0_29 hk hin12 (List.mem_cons_of_mem _ (List.mem_append_left _ (List.mem_of_getElem? (i := 9) rfl))) dX12_tellQuery_175 ?_
                      refine g_iload_n hk dX12_tellQuery_178 rfl ?_
                      refine lM_11 (v := (A14924 11 y10818.toNatClampNeg)) hk (vp_in_iff.mpr ⟨by omega, by omega⟩) rfl dX12_tellQuery_179 ?_
                      have f15233 := IvM_a11 hV14924 (y10818.toNatClampNeg)
                      refine g_iconst (v := 2) hk dX12_tellQuery_180 (by decide) ?_
                      refine g_icmp_ge (tgt := 194) (a := (A14924 11 y10818.toNatClampNeg).toInt) (b := 2) hk dX12_tellQuery_181 (by decide) rfl rfl (fun c15234 => ?_) (fun c15234 => ?_)
                      · skip
                        refine g_aload_n hk dX12_tellQuery_194 rfl ?_
                        refine g_iconst (v := 4) hk dX12_tellQuery_195 (by decide) ?_
                        refine g_callV (n := 1) hk (j131_X12_must l D zt r g I14924 A14924 L14924 4 hV14924) (SP.same _) (fun _ h => h) (gi_V (List.mem_cons_of_mem _ (List.mem_append_left _ (List.mem_of_getElem? (i := 4) rfl))) (List.mem_cons_of_mem _ (List.mem_append_left _ (List.mem_of_getElem? (i := 5) rfl))) (List.mem_cons_of_mem _ (List.mem_append_left _ (List.mem_of_getElem? (i := 6) rfl))) (List.mem_cons_of_mem _ (List.mem_append_left _ (List.mem_of_getElem? (i := 7) rfl))) (gi_sub (fun w h => (List.mem_cons_of_mem _ (List.mem_append_right _ (List.mem_append_right _ (List.mem_append_left _ h))))) zg_j131_X12_must)) rfl rfl rfl (by decide +kernel) ⟨Nat.le_of_ble_eq_true rfl, Nat.le_of_ble_eq_true rfl⟩ 0 rfl rfl rfl rfl (Nat.le_of_ble_eq_true rfl) ⟨Nat.le_of_ble_eq_true rfl, Nat.le_of_ble_eq_true rfl⟩ dX12_tellQuery_196 (fun v ty' w' hp hk' => ?_)
                        obtain ⟨I15236, A15236, L15236, hI15236, hA15236, hV15236, r15237, r15238, r15239, r15240, r15241, rfl, rfl⟩ := hp
                        have f15242 := IvM_f4 hV15236
                        have f15243 := IvM_f6 hV15236
                        rw [show (I15236 8) = (I14924 8) from (hI15236 8 rfl)] at r15239
                        rw [show (A14924 2 (I14924 4).toNatClampNeg) = (A 2 (I14924 4).toNatClampNeg) from ((congrFun (hA14924 2 rfl) _).trans ((congrFun (hA10836 2 rfl) _).trans (congrFun (hA10822 2 rfl) _)))] at r15241
                        show GW κ 4 0 0 (wM r g I15236 A15236 L15236) 199 [(3, .int x10832), (2, .int (I 4)), (1, .int y10818), (0, .ref (r 0))] []
                        refine g_aload_n hk dX12_tellQuery_199 rfl ?_
                        refine gM_i6 (v := (I15236 6)) hk hin12 (List.mem_cons_of_mem _ (List.mem_append_left _ (List.mem_of_getElem? (i := 16) rfl))) dX12_tellQuery_200 rfl ?_
                        refine g_if_le (tgt := 207) (a := (I15236 6).toInt) hk dX12_tellQuery_203 (by decide) rfl (fun c15244 => ?_) (fun c15244 => ?_)
                        · skip
                          refine g_aload_n hk dX12_tellQuery_207 rfl ?_
                          refine g_bipush (v := (-2)) hk dX12_tellQuery_208 (by decide) ?_
                          refine pM_i11 hk hin12 (List.mem_cons_of_mem _ (List.mem_append_left _ (List.mem_of_getElem? (i := 0) rfl))) dX12_tellQuery_210 ?_
                          refine g_aload_n hk dX12_tellQuery_213 rfl ?_
                          refine gM_r0_25 hk hin12 (List.mem_cons_of_mem _ (List.mem_append_left _ (List.mem_of_getElem? (i := 17) rfl))) dX12_tellQuery_214 ?_
                          refine g_aload_n hk dX12_tellQuery_217 rfl ?_
                          refine gM_i17 (v := (I 17)) hk hin12 (List.mem_cons_of_mem _ (List.mem_append_left _ (List.mem_of_getElem? (i := 8) rfl))) dX12_tellQuery_218 ((hI15236 17 rfl).trans ((hI14924 17 rfl).trans ((hI10836 17 rfl).trans (hI10822 17 rfl)))) ?_
                          have g15245 : (I15236 16).toInt = (I 16).toInt := by rw [show (I15236 16) = (I 16) from ((hI15236 16 rfl).trans ((hI14924 16 rfl).trans ((hI10836 16 rfl).trans (hI10822 16 rfl))))]
                          have g15246 : (I15236 17).toInt = (I 17).toInt := by rw [show (I15236 17) = (I 17) from ((hI15236 17 rfl).trans ((hI14924 17 rfl).trans ((hI10836 17 rfl).trans (hI10822 17 rfl))))]
                          have g15247 : (A15236 10 0).toInt = (A 10 0).toInt := by rw [show (A15236 10 0) = (A 10 0) from ((congrFun (hA15236 10 rfl) _).trans ((congrFun (hA14924 10 rfl) _).trans ((congrFun (hA10836 10 rfl) _).trans (congrFun (hA10822 10 rfl) _))))]
                          have g15248 : (A15236 10 1).toInt = (A 10 1).toInt := by rw [show (A15236 10 1) = (A 10 1) from ((congrFun (hA15236 10 rfl) _).trans ((congrFun (hA14924 10 rfl) _).trans ((congrFun (hA10836 10 rfl) _).trans (congrFun (hA10822 10 rfl) _))))]
                          have g15249 := (IvM_nq (I := I15236) (A := A15236) hV15236).2 (by omega)
                          refine g_aload_n hk dX12_tellQuery_221 rfl ?_
                          refine gM_r0_8 hk hin12 (List.mem_cons_of_mem _ (List.mem_append_left _ (List.mem_of_getElem? (i := 18) rfl))) dX12_tellQuery_222 ?_
                          refine g_iload_n hk dX12_tellQuery_225 rfl ?_
                          refine lM_5 hk (vp_in_iff.mpr ⟨by omega, by omega⟩) rfl dX12_tellQuery_226 ?_
                          refine g_topl (fun y15250 ey15250 => ?_)
                          refine sM_7 (j := (I 17).toNatClampNeg) hk (vp_in_iff.mpr ⟨by omega, by omega⟩) rfl dX12_tellQuery_227 ?_
                          refine g_aload_n hk dX12_tellQuery_228 rfl ?_
                          refine g_dup hk dX12_tellQuery_229 rfl ?_
                          refine gM_i17 (v := (I 17)) hk hin12 (List.mem_cons_of_mem _ (List.mem_append_left _ (List.mem_of_getElem? (i := 8) rfl))) dX12_tellQuery_230 ((hI15236 17 rfl).trans ((hI14924 17 rfl).trans ((hI10836 17 rfl).trans (hI10822 17 rfl)))) ?_
                          refine g_iconst (v := 1) hk dX12_tellQuery_233 (by decide) ?_
                          refine g_iadd hk dX12_tellQuery_234 ?_
                          refine g_topi (fun y15251 ey15251 => ?_)
                          have hy15251 : y15251.toInt = (I 17).toInt + 1 := i32_add ey15251 rfl rfl (by omega) (by omega)
                          refine pM_i17 hk hin12 (List.mem_cons_of_mem _ (List.mem_append_left _ (List.mem_of_getElem? (i := 8) rfl))) dX12_tellQuery_235 ?_
                          refine g_aload_n hk dX12_tellQuery_238 rfl ?_
                          refine gM_r0_28 hk hin12 (List.mem_cons_of_mem _ (List.mem_append_left _ (List.mem_of_getElem? (i := 2) rfl))) dX12_tellQuery_239 ?_
                          refine g_aload_n hk dX12_tellQuery_242 rfl ?_
                          refine gM_i16 (v := (I 16)) hk hin12 (List.mem_cons_of_mem _ (List.mem_append_left _ (List.mem_of_getElem? (i := 1) rfl))) dX12_tellQuery_243 ((hI15236 16 rfl).trans ((hI14924 16 rfl).trans ((hI10836 16 rfl).trans (hI10822 16 rfl)))) ?_
                          by_cases c15252 : (I 16).toInt = 1
                          · have ec15252 : (I 16) = 1 := Int32.toInt_inj.mp c15252
                            rw [ec15252]
                            show GW κ 4 0 0 (wM r g (upd (upd I15236 11 (-2)) 17 y15251) A15236 (up3L L15236 7 ((I 17).toNatClampNeg) y15250)) 246 [(3, .int x10832), (2, .int (I 4)), (1, .int y10818), (0, .ref (r 0))] [.int 1, .ref (r 11)]
                            refine g_dup2 hk dX12_tellQuery_246 rfl rfl ?_
                            refine lM_10 (v := (A 10 1)) hk (vp_in_iff.mpr ⟨by decide, by decide⟩) ((congrFun (hA15236 10 rfl) _).trans ((congrFun (hA14924 10 rfl) _).trans ((congrFun (hA10836 10 rfl) _).trans (congrFun (hA10822 10 rfl) _)))) dX12_tellQuery_247 ?_
                            refine g_iconst (v := 1) hk dX12_tellQuery_248 (by decide) ?_
                            refine g_iadd hk dX12_tellQuery_249 ?_
                            refine g_topi (fun y15253 ey15253 => ?_)
                            have hy15253 : y15253.toInt = (A 10 1).toInt + 1 := i32_add ey15253 rfl rfl (by omega) (by omega)
                            refine sM_10 (j := 1) hk (vp_in_iff.mpr ⟨by decide, by decide⟩) (by decide) dX12_tellQuery_250 ?_
                            have f15254 := IvM_s10_0 hV15236
                            have f15255 := IvM_s10_1 hV15236
                            have g15256 : (I15236 15).toInt = (I 15).toInt := by rw [show (I15236 15) = (I 15) from ((hI15236 15 rfl).trans ((hI14924 15 rfl).trans ((hI10836 15 rfl).trans (hI10822 15 rfl))))]
                            have g15257 := IvM_s10_0 (I := I15236) (A := A15236) hV15236
                            have g15258 := IvM_s10_1 (I := I15236) (A := A15236) hV15236
                            have g15259 : (I15236 8).toInt = (I14924 8).toInt := by rw [show (I15236 8) = (I14924 8) from (hI15236 8 rfl)]
                            have q15260 := cl_int (y := y10818) (by omega)
                            have g15261 : (A15236 11 y10818.toNatClampNeg).toInt = (A14924 11 y10818.toNatClampNeg).toInt := by rw [show (A15236 11 y10818.toNatClampNeg) = (A14924 11 y10818.toNatClampNeg) from (congrFun (hA15236 11 rfl) _)]
                            have u15262 : 0 < (I10822 6).toInt ∨ ((I 6).toInt = 0 ∧ (A 2 (I 4).toNatClampNeg).toInt = (1 : Int32).toInt) := r10827
                            have u15263 : 0 < (I15236 6).toInt ∨ ((I14924 6).toInt = 0 ∧ (A 2 (I14924 4).toNatClampNeg).toInt = (4 : Int32).toInt) := r15241
                            exact g_vret hk hR ⟨(upd (upd I15236 11 (-2)) 17 y15251), (up3 A15236 10 1 y15253), (up3L L15236 7 ((I 17).toNatClampNeg) y15250), (show Md [4, 6, 7, 8, 9, 11, 12, 13, 17] I (upd (upd I15236 11 (-2)) 17 y15251) from (Md.up (Md.up (Md.tr (Md.tr (Md.tr (Md.tr (Md.up Md.rf rfl) hI10822 rfl) hI10836 rfl) hI14924 rfl) hI15236 rfl) rfl) rfl)), (show Md [10, 11, 12] A (up3 A15236 10 1 y15253) from (Md.up3 (Md.tr (Md.tr (Md.up3 (Md.tr (Md.tr Md.rf hA10822 rfl) hA10836 rfl) rfl) hA14924 rfl) hA15236 rfl) rfl)), ⟨(IvM_f1 (I := I15236) (A := A15236) hV15236), (IvM_f2 (I := I15236) (A := A15236) hV15236), (IvM_f3 (I := I15236) (A := A15236) hV15236), (IvM_f4 (I := I15236) (A := A15236) hV15236), (IvM_f6 (I := I15236) (A := A15236) hV15236), (IvM_f8 (I := I15236) (A := A15236) hV15236), (IvM_f15 (I := I15236) (A := A15236) hV15236), (IvM_f16 (I := I15236) (A := A15236) hV15236), (show 0 ≤ y15251.toInt ∧ y15251.toInt ≤ 5 from ⟨by omega, by omega⟩), (IvM_f18 (I := I15236) (A := A15236) hV15236), (IvM_f22 (I := I15236) (A := A15236) hV15236), (IvM_f23 (I := I15236) (A := A15236) hV15236), (IvM_f24 (I := I15236) (A := A15236) hV15236), (IvM_a11 (I := I15236) (A := A15236) hV15236), (IvM_a26 (I := I15236) (A := A15236) hV15236), (IvM_s8_0 (I := I15236) (A := A15236) hV15236), (IvM_s8_1 (I := I15236) (A := A15236) hV15236), (show 0 ≤ ((up3 A15236 10 1 y15253) 10 0).toInt ∧ ((up3 A15236 10 1 y15253) 10 0).toInt ≤ 5 from by rw [show (up3 A15236 10 1 y15253) 10 0 = (A15236 10 0) from rfl]; exact ⟨by omega, by omega⟩), (show 0 ≤ ((up3 A15236 10 1 y15253) 10 1).toInt ∧ ((up3 A15236 10 1 y15253) 10 1).toInt ≤ 5 from by rw [show (up3 A15236 10 1 y15253) 10 1 = y15253 from rfl]; exact ⟨by omega, by omega⟩), (IvM_s17_0 (I := I15236) (A := A15236) hV15236), (IvM_s17_164 (I := I15236) (A := A15236) hV15236), ⟨fun e => by have e : (I15236 15).toInt = 0 := e; first | exact (IvM_lv (I := I15236) (A := A15236) hV15236).1 e | (exfalso; omega), fun e => by have e : (I15236 15).toInt = 1 := e; first | exact (IvM_lv (I := I15236) (A := A15236) hV15236).2 e | (exfalso; omega)⟩, (by first | (exfalso; omega) | (by_cases g8 : (I15236 8).toInt ≠ 0; exact Or.inr (Or.inl g8); rcases (IvM_sd (I := I15236) (A := A15236) hV15236) with h9 | h9 | h9; exact absurd h9 (by omega); exact absurd h9 g8; exact Or.inr (Or.inr ⟨fun e => by have e : (I15236 16).toInt = 0 := e; first | exact ghf_add (n := (A15236 10 0)) (f := (A15236 11)) (n2 := y15253) (p := y10818.toNatClampNeg) (h9.1 e) (by omega) (by omega) (by omega) | (exfalso; omega), fun e => by have e : (I15236 16).toInt = 1 := e; first | exact ghf_add (n := (A15236 10 1)) (f := (A15236 11)) (n2 := y15253) (p := y10818.toNatClampNeg) (h9.2 e) (by omega) (by omega) (by omega) | (exfalso; omega)⟩))), ⟨fun e => by have e : (I15236 16).toInt = 0 := e; first | (exfalso; omega) | (show y15251.toInt = (A15236 10 0).toInt; omega), fun e => by have e : (I15236 16).toInt = 1 := e; first | (exfalso; omega) | (show y15251.toInt = y15253.toInt; omega)⟩, (IvM_hr (I := I15236) (A := A15236) hV15236), (IvM_hh (I := I15236) (A := A15236) hV15236), trivial⟩, (by rw [show ((upd (upd I15236 11 (-2)) 17 y15251) 4) = (I15236 4) from rfl] <;> omega), (by rw [show ((upd (upd I15236 11 (-2)) 17 y15251) 6) = (I15236 6) from rfl] <;> omega), (by rw [show ((upd (upd I15236 11 (-2)) 17 y15251) 8) = (I14924 8) from (hI15236 8 rfl)] <;> omega), rfl, rfl⟩ dX12_tellQuery_251
                          exfalso; omega
                        · skip
                          exact g_vret hk hR ⟨I15236, A15236, L15236, (show Md [4, 6, 7, 8, 9, 11, 12, 13, 17] I I15236 from (Md.tr (Md.tr (Md.tr (Md.tr (Md.up Md.rf rfl) hI10822 rfl) hI10836 rfl) hI14924 rfl) hI15236 rfl)), (show Md [10, 11, 12] A A15236 from (Md.tr (Md.tr (Md.up3 (Md.tr (Md.tr Md.rf hA10822 rfl) hA10836 rfl) rfl) hA14924 rfl) hA15236 rfl)), hV15236, (by omega), (by omega), (by rw [show (I15236 8) = (I14924 8) from (hI15236 8 rfl)] <;> omega), rfl, rfl⟩ dX12_tellQuery_206
                      · skip
                        refine g_aload_n hk dX12_tellQuery_184 rfl ?_
                        refine g_bipush (v := 6) hk dX12_tellQuery_185 (by decide) ?_
                        refine g_aload_n hk dX12_tellQuery_187 rfl ?_
                        refine gM_i4 (v := (I14924 4)) hk hin12 (List.mem_cons_of_mem _ (List.mem_append_left _ (List.mem_of_getElem? (i := 3) rfl))) dX12_tellQuery_188 rfl ?_
                        have k15264 : (6 : Int32).toInt = 6 := rfl
                        refine g_callV (n := 2) hk (j134_X12_wrong l D zt r g I14924 A14924 L14924 6 (I14924 4) hV14924 (by decide) (by decide) (by omega) (by omega)) (SP.same _) (fun _ h => h) (gi_V (List.mem_cons_of_mem _ (List.mem_append_left _ (List.mem_of_getElem? (i := 19) rfl))) (List.mem_cons_of_mem _ (List.mem_append_left _ (List.mem_of_getElem? (i := 20) rfl))) (List.mem_cons_of_mem _ (List.mem_append_left _ (List.mem_of_getElem? (i := 21) rfl))) (List.mem_cons_of_mem _ (List.mem_append_left _ (List.mem_of_getElem? (i := 7) rfl))) (gi_sub (fun w h => (List.mem_cons_of_mem _ (List.mem_append_right _ (List.mem_append_right _ (List.mem_append_right _ (List.mem_append_right _ (List.mem_append_right _ (List.mem_append_left _ h)))))))) zg_j134_X12_wrong)) rfl rfl rfl (by decide +kernel) ⟨Nat.le_of_ble_eq_true rfl, Nat.le_of_ble_eq_true rfl⟩ 0 rfl rfl rfl rfl (Nat.le_of_ble_eq_true rfl) ⟨Nat.le_of_ble_eq_true rfl, Nat.le_of_ble_eq_true rfl⟩ dX12_tellQuery_191 (fun v ty' w' hp hk' => ?_)
                        obtain ⟨I15266, A15266, L15266, hI15266, hA15266, hV15266, r15267, r15268, r15269, rfl, rfl⟩ := hp
                        rw [show (I15266 6) = (I14924 6) from (hI15266 6 rfl)] at r15267
                        have f15270 := IvM_f8 hV15266
                        rw [show (I15266 6) = (I14924 6) from (hI15266 6 rfl)] at r15269
                        show GW κ 4 0 0 (wM r g I15266 A15266 L15266) 194 [(3, .int x10832), (2, .int (I 4)), (1, .int y10818), (0, .ref (r 0))] []
                        refine g_aload_n hk dX12_tellQuery_194 rfl ?_
                        refine g_iconst (v := 4) hk dX12_tellQuery_195 (by decide) ?_
                        refine g_callV (n := 1) hk (j131_X12_must l D zt r g I15266 A15266 L15266 4 hV15266) (SP.same _) (fun _ h => h) (gi_V (List.mem_cons_of_mem _ (List.mem_append_left _ (List.mem_of_getElem? (i := 4) rfl))) (List.mem_cons_of_mem _ (List.mem_append_left _ (List.mem_of_getElem? (i := 5) rfl))) (List.mem_cons_of_mem _ (List.mem_append_left _ (List.mem_of_getElem? (i := 6) rfl))) (List.mem_cons_of_mem _ (List.mem_append_left _ (List.mem_of_getElem? (i := 7) rfl))) (gi_sub (fun w h => (List.mem_cons_of_mem _ (List.mem_append_right _ (List.mem_append_right _ (List.mem_append_left _ h))))) zg_j131_X12_must)) rfl rfl rfl (by decide +kernel) ⟨Nat.le_of_ble_eq_true rfl, Nat.le_of_ble_eq_true rfl⟩ 0 rfl rfl rfl rfl (Nat.le_of_ble_eq_true rfl) ⟨Nat.le_of_ble_eq_true rfl, Nat.le_of_ble_eq_true rfl⟩ dX12_tellQuery_196 (fun v ty' w' hp hk' => ?_)
                        obtain ⟨I15272, A15272, L15272, hI15272, hA15272, hV15272, r15273, r15274, r15275, r15276, r15277, rfl, rfl⟩ := hp
                        have f15278 := IvM_f4 hV15272
                        rw [show (I15266 4) = (I14924 4) from (hI15266 4 rfl)] at r15273
                        have f15279 := IvM_f6 hV15272
                        rw [show (I15266 6) = (I14924 6) from (hI15266 6 rfl)] at r15274
                        rw [show (I15272 8) = (I15266 8) from (hI15272 8 rfl)] at r15275
                        rw [show (I15266 4) = (I14924 4) from (hI15266 4 rfl)] at r15276
                        rw [show (I15266 6) = (I14924 6) from (hI15266 6 rfl), show (A15266 2 (I15266 4).toNatClampNeg) = (A 2 (I14924 4).toNatClampNeg) from (by rw [show I15266 4 = (I14924 4) from (hI15266 4 rfl)]; exact ((congrFun (hA15266 2 rfl) _).trans ((congrFun (hA14924 2 rfl) _).trans ((congrFun (hA10836 2 rfl) _).trans (congrFun (hA10822 2 rfl) _)))))] at r15277
                        show GW κ 4 0 0 (wM r g I15272 A15272 L15272) 199 [(3, .int x10832), (2, .int (I 4)), (1, .int y10818), (0, .ref (r 0))] []
                        refine g_aload_n hk dX12_tellQuery_199 rfl ?_
                        refine gM_i6 (v := (I15272 6)) hk hin12 (List.mem_cons_of_mem _ (List.mem_append_left _ (List.mem_of_getElem? (i := 16) rfl))) dX12_tellQuery_200 rfl ?_
                        refine g_if_le (tgt := 207) (a := (I15272 6).toInt) hk dX12_tellQuery_203 (by decide) rfl (fun c15280 => ?_) (fun c15280 => ?_)
                        · skip
                          refine g_aload_n hk dX12_tellQuery_207 rfl ?_
                          refine g_bipush (v := (-2)) hk dX12_tellQuery_208 (by decide) ?_
                          refine pM_i11 hk hin12 (List.mem_cons_of_mem _ (List.mem_append_left _ (List.mem_of_getElem? (i := 0) rfl))) dX12_tellQuery_210 ?_
                          refine g_aload_n hk dX12_tellQuery_213 rfl ?_
                          refine gM_r0_25 hk hin12 (List.mem_cons_of_mem _ (List.mem_append_left _ (List.mem_of_getElem? (i := 17) rfl))) dX12_tellQuery_214 ?_
                          refine g_aload_n hk dX12_tellQuery_217 rfl ?_
                          refine gM_i17 (v := (I 17)) hk hin12 (List.mem_cons_of_mem _ (List.mem_append_left _ (List.mem_of_getElem? (i := 8) rfl))) dX12_tellQuery_218 ((hI15272 17 rfl).trans ((hI15266 17 rfl).trans ((hI14924 17 rfl).trans ((hI10836 17 rfl).trans (hI10822 17 rfl))))) ?_
                          have g15281 : (I15272 16).toInt = (I 16).toInt := by rw [show (I15272 16) = (I 16) from ((hI15272 16 rfl).trans ((hI15266 16 rfl).trans ((hI14924 16 rfl).trans ((hI10836 16 rfl).trans (hI10822 16 rfl)))))]
                          have g15282 : (I15272 17).toInt = (I 17).toInt := by rw [show (I15272 17) = (I 17) from ((hI15272 17 rfl).trans ((hI15266 17 rfl).trans ((hI14924 17 rfl).trans ((hI10836 17 rfl).trans (hI10822 17 rfl)))))]
                          have g15283 : (A15272 10 0).toInt = (A 10 0).toInt := by rw [show (A15272 10 0) = (A 10 0) from ((congrFun (hA15272 10 rfl) _).trans ((congrFun (hA15266 10 rfl) _).trans ((congrFun (hA14924 10 rfl) _).trans ((congrFun (hA10836 10 rfl) _).trans (congrFun (hA10822 10 rfl) _)))))]
                          have g15284 : (A15272 10 1).toInt = (A 10 1).toInt := by rw [show (A15272 10 1) = (A 10 1) from ((congrFun (hA15272 10 rfl) _).trans ((congrFun (hA15266 10 rfl) _).trans ((congrFun (hA14924 10 rfl) _).trans ((congrFun (hA10836 10 rfl) _).trans (congrFun (hA10822 10 rfl) _)))))]
                          have g15285 := (IvM_nq (I := I15272) (A := A15272) hV15272).2 (by omega)
                          refine g_aload_n hk dX12_tellQuery_221 rfl ?_
                          refine gM_r0_8 hk hin12 (List.mem_cons_of_mem _ (List.mem_append_left _ (List.mem_of_getElem? (i := 18) rfl))) dX12_tellQuery_222 ?_
                          refine g_iload_n hk dX12_tellQuery_225 rfl ?_
                          refine lM_5 hk (vp_in_iff.mpr ⟨by omega, by omega⟩) rfl dX12_tellQuery_226 ?_
                          refine g_topl (fun y15286 ey15286 => ?_)
                          refine sM_7 (j := (I 17).toNatClampNeg) hk (vp_in_iff.mpr ⟨by omega, by omega⟩) rfl dX12_tellQuery_227 ?_
                          refine g_aload_n hk dX12_tellQuery_228 rfl ?_
                          refine g_dup hk dX12_tellQuery_229 rfl ?_
                          refine gM_i17 (v := (I 17)) hk hin12 (List.mem_cons_of_mem _ (List.mem_append_left _ (List.mem_of_getElem? (i := 8) rfl))) dX12_tellQuery_230 ((hI15272 17 rfl).trans ((hI15266 17 rfl).trans ((hI14924 17 rfl).trans ((hI10836 17 rfl).trans (hI10822 17 rfl))))) ?_
                          refine g_iconst (v := 1) hk dX12_tellQuery_233 (by decide) ?_
                          refine g_iadd hk dX12_tellQuery_234 ?_
                          refine g_topi (fun y15287 ey15287 => ?_)
                          have hy15287 : y15287.toInt = (I 17).toInt + 1 := i32_add ey15287 rfl rfl (by omega) (by omega)
                          refine pM_i17 hk hin12 (List.mem_cons_of_mem _ (List.mem_append_left _ (List.mem_of_getElem? (i := 8) rfl))) dX12_tellQuery_235 ?_
                          refine g_aload_n hk dX12_tellQuery_238 rfl ?_
                          refine gM_r0_28 hk hin12 (List.mem_cons_of_mem _ (List.mem_append_left _ (List.mem_of_getElem? (i := 2) rfl))) dX12_tellQuery_239 ?_
                          refine g_aload_n hk dX12_tellQuery_242 rfl ?_
                          refine gM_i16 (v := (I 16)) hk hin12 (List.mem_cons_of_mem _ (List.mem_append_left _ (List.mem_of_getElem? (i := 1) rfl))) dX12_tellQuery_243 ((hI15272 16 rfl).trans ((hI15266 16 rfl).trans ((hI14924 16 rfl).trans ((hI10836 16 rfl).trans (hI10822 16 rfl))))) ?_
                          by_cases c15288 : (I 16).toInt = 1
                          · have ec15288 : (I 16) = 1 := Int32.toInt_inj.mp c15288
                            rw [ec15288]
                            show GW κ 4 0 0 (wM r g (upd (upd I15272 11 (-2)) 17 y15287) A15272 (up3L L15272 7 ((I 17).toNatClampNeg) y15286)) 246 [(3, .int x10832), (2, .int (I 4)), (1, .int y10818), (0, .ref (r 0))] [.int 1, .ref (r 11)]
                            refine g_dup2 hk dX12_tellQuery_246 rfl rfl ?_
                            refine lM_10 (v := (A 10 1)) hk (vp_in_iff.mpr ⟨by decide, by decide⟩) ((congrFun (hA15272 10 rfl) _).trans ((congrFun (hA15266 10 rfl) _).trans ((congrFun (hA14924 10 rfl) _).trans ((congrFun (hA10836 10 rfl) _).trans (congrFun (hA10822 10 rfl) _))))) dX12_tellQuery_247 ?_
                            refine g_iconst (v := 1) hk dX12_tellQuery_248 (by decide) ?_
                            refine g_iadd hk dX12_tellQuery_249 ?_
                            refine g_topi (fun y15289 ey15289 => ?_)
                            have hy15289 : y15289.toInt = (A 10 1).toInt + 1 := i32_add ey15289 rfl rfl (by omega) (by omega)
                            refine sM_10 (j := 1) hk (vp_in_iff.mpr ⟨by decide, by decide⟩) (by decide) dX12_tellQuery_250 ?_
                            have f15290 := IvM_s10_0 hV15272
                            have f15291 := IvM_s10_1 hV15272
                            have g15292 : (I15272 15).toInt = (I 15).toInt := by rw [show (I15272 15) = (I 15) from ((hI15272 15 rfl).trans ((hI15266 15 rfl).trans ((hI14924 15 rfl).trans ((hI10836 15 rfl).trans (hI10822 15 rfl)))))]
                            have g15293 := IvM_s10_0 (I := I15272) (A := A15272) hV15272
                            have g15294 := IvM_s10_1 (I := I15272) (A := A15272) hV15272
                            have g15295 : (I15272 8).toInt = (I15266 8).toInt := by rw [show (I15272 8) = (I15266 8) from (hI15272 8 rfl)]
                            have q15296 := cl_int (y := y10818) (by omega)
                            have g15297 : (A15272 11 y10818.toNatClampNeg).toInt = (A14924 11 y10818.toNatClampNeg).toInt := by rw [show (A15272 11 y10818.toNatClampNeg) = (A14924 11 y10818.toNatClampNeg) from ((congrFun (hA15272 11 rfl) _).trans (congrFun (hA15266 11 rfl) _))]
                            have u15298 : 0 < (I10822 6).toInt ∨ ((I 6).toInt = 0 ∧ (A 2 (I 4).toNatClampNeg).toInt = (1 : Int32).toInt) := r10827
                            have u15299 : 0 < (I15272 6).toInt ∨ ((I14924 6).toInt = 0 ∧ (A 2 (I14924 4).toNatClampNeg).toInt = (4 : Int32).toInt) := r15277
                            exact g_vret hk hR ⟨(upd (upd I15272 11 (-2)) 17 y15287), (up3 A15272 10 1 y15289), (up3L L15272 7 ((I 17).toNatClampNeg) y15286), (show Md [4, 6, 7, 8, 9, 11, 12, 13, 17] I (upd (upd I15272 11 (-2)) 17 y15287) from (Md.up (Md.up (Md.tr (Md.tr (Md.tr (Md.tr (Md.tr (Md.up Md.rf rfl) hI10822 rfl) hI10836 rfl) hI14924 rfl) hI15266 rfl) hI15272 rfl) rfl) rfl)), (show Md [10, 11, 12] A (up3 A15272 10 1 y15289) from (Md.up3 (Md.tr (Md.tr (Md.tr (Md.up3 (Md.tr (Md.tr Md.rf hA10822 rfl) hA10836 rfl) rfl) hA14924 rfl) hA15266 rfl) hA15272 rfl) rfl)), ⟨(IvM_f1 (I := I15272) (A := A15272) hV15272), (IvM_f2 (I := I15272) (A := A15272) hV15272), (IvM_f3 (I := I15272) (A := A15272) hV15272), (IvM_f4 (I := I15272) (A := A15272) hV15272), (IvM_f6 (I := I15272) (A := A15272) hV15272), (IvM_f8 (I := I15272) (A := A15272) hV15272), (IvM_f15 (I := I15272) (A := A15272) hV15272), (IvM_f16 (I := I15272) (A := A15272) hV15272), (show 0 ≤ y15287.toInt ∧ y15287.toInt ≤ 5 from ⟨by omega, by omega⟩), (IvM_f18 (I := I15272) (A := A15272) hV15272), (IvM_f22 (I := I15272) (A := A15272) hV15272), (IvM_f23 (I := I15272) (A := A15272) hV15272), (IvM_f24 (I := I15272) (A := A15272) hV15272), (IvM_a11 (I := I15272) (A := A15272) hV15272), (IvM_a26 (I := I15272) (A := A15272) hV15272), (IvM_s8_0 (I := I15272) (A := A15272) hV15272), (IvM_s8_1 (I := I15272) (A := A15272) hV15272), (show 0 ≤ ((up3 A15272 10 1 y15289) 10 0).toInt ∧ ((up3 A15272 10 1 y15289) 10 0).toInt ≤ 5 from by rw [show (up3 A15272 10 1 y15289) 10 0 = (A15272 10 0) from rfl]; exact ⟨by omega, by omega⟩), (show 0 ≤ ((up3 A15272 10 1 y15289) 10 1).toInt ∧ ((up3 A15272 10 1 y15289) 10 1).toInt ≤ 5 from by rw [show (up3 A15272 10 1 y15289) 10 1 = y15289 from rfl]; exact ⟨by omega, by omega⟩), (IvM_s17_0 (I := I15272) (A := A15272) hV15272), (IvM_s17_164 (I := I15272) (A := A15272) hV15272), ⟨fun e => by have e : (I15272 15).toInt = 0 := e; first | exact (IvM_lv (I := I15272) (A := A15272) hV15272).1 e | (exfalso; omega), fun e => by have e : (I15272 15).toInt = 1 := e; first | exact (IvM_lv (I := I15272) (A := A15272) hV15272).2 e | (exfalso; omega)⟩, (by first | (exfalso; omega) | (by_cases g8 : (I15272 8).toInt ≠ 0; exact Or.inr (Or.inl g8); rcases (IvM_sd (I := I15272) (A := A15272) hV15272) with h9 | h9 | h9; exact absurd h9 (by omega); exact absurd h9 g8; exact Or.inr (Or.inr ⟨fun e => by have e : (I15272 16).toInt = 0 := e; first | exact ghf_add (n := (A15272 10 0)) (f := (A15272 11)) (n2 := y15289) (p := y10818.toNatClampNeg) (h9.1 e) (by omega) (by omega) (by omega) | (exfalso; omega), fun e => by have e : (I15272 16).toInt = 1 := e; first | exact ghf_add (n := (A15272 10 1)) (f := (A15272 11)) (n2 := y15289) (p := y10818.toNatClampNeg) (h9.2 e) (by omega) (by omega) (by omega) | (exfalso; omega)⟩))), ⟨fun e => by have e : (I15272 16).toInt = 0 := e; first | (exfalso; omega) | (show y15287.toInt = (A15272 10 0).toInt; omega), fun e => by have e : (I15272 16).toInt = 1 := e; first | (exfalso; omega) | (show y15287.toInt = y15289.toInt; omega)⟩, (IvM_hr (I := I15272) (A := A15272) hV15272), (IvM_hh (I := I15272) (A := A15272) hV15272), trivial⟩, (by rw [show ((upd (upd I15272 11 (-2)) 17 y15287) 4) = (I15272 4) from rfl] <;> omega), (by rw [show ((upd (upd I15272 11 (-2)) 17 y15287) 6) = (I15272 6) from rfl] <;> omega), (by rw [show ((upd (upd I15272 11 (-2)) 17 y15287) 8) = (I15266 8) from (hI15272 8 rfl)] <;> omega), rfl, rfl⟩ dX12_tellQuery_251
                          exfalso; omega
                        · skip
                          exact g_vret hk hR ⟨I15272, A15272, L15272, (show Md [4, 6, 7, 8, 9, 11, 12, 13, 17] I I15272 from (Md.tr (Md.tr (Md.tr (Md.tr (Md.tr (Md.up Md.rf rfl) hI10822 rfl) hI10836 rfl) hI14924 rfl) hI15266 rfl) hI15272 rfl)), (show Md [10, 11, 12] A A15272 from (Md.tr (Md.tr (Md.tr (Md.up3 (Md.tr (Md.tr Md.rf hA10822 rfl) hA10836 rfl) rfl) hA14924 rfl) hA15266 rfl) hA15272 rfl)), hV15272, (by omega), (by omega), (by rw [show (I15272 8) = (I15266 8) from (hI15272 8 rfl)] <;> omega), rfl, rfl⟩ dX12_tellQuery_206
                  · skip
                    show GW κ 4 0 0 (wM r g I14924 A14924 L14924) 88 [(3, .int x10832), (2, .int (I 4)), (1, .int y10818), (0, .ref (r 0))] [.int 1]
                    refine g_if_eq (tgt := 166) (a := 1) hk dX12_tellQuery_88 (by decide) rfl (fun z9 => absurd z9 (show ¬ ((1 : Int) = (0 : Int)) from by decide)) (fun _ => ?_)
                    refine g_aload_n hk dX12_tellQuery_91 rfl ?_
                    refine gM_r0_29 hk hin12 (List.mem_cons_of_mem _ (List.mem_append_left _ (List.mem_of_getElem? (i := 9) rfl))) dX12_tellQuery_92 ?_
                    refine g_iload_n hk dX12_tellQuery_95 rfl ?_
                    refine lM_11 (v := (A14924 11 y10818.toNatClampNeg)) hk (vp_in_iff.mpr ⟨by omega, by omega⟩) rfl dX12_tellQuery_96 ?_
                    have f15300 := IvM_a11 hV14924 (y10818.toNatClampNeg)
                    refine g_bipush (v := 16) hk dX12_tellQuery_97 (by decide) ?_
                    refine g_icmp_ne (tgt := 107) (a := (A14924 11 y10818.toNatClampNeg).toInt) (b := 16) hk dX12_tellQuery_99 (by decide) rfl rfl (fun c15301 => ?_) (fun c15301 => ?_)
                    · skip
                      refine g_aload_n hk dX12_tellQuery_107 rfl ?_
                      refine gM_i6 (v := (I14924 6)) hk hin12 (List.mem_cons_of_mem _ (List.mem_append_left _ (List.mem_of_getElem? (i := 16) rfl))) dX12_tellQuery_108 rfl ?_
                      refine g_if_le (tgt := 115) (a := (I14924 6).toInt) hk dX12_tellQuery_111 (by decide) rfl (fun c15302 => ?_) (fun c15302 => ?_)
                      · skip
                        refine g_aload_n hk dX12_tellQuery_115 rfl ?_
                        refine gM_r0_30 hk hin12 (List.mem_cons_of_mem _ (List.mem_append_left _ (List.mem_of_getElem? (i := 22) rfl))) dX12_tellQuery_116 ?_
                        refine g_bipush (v := 16) hk dX12_tellQuery_119 (by decide) ?_
                        refine g_iload_n hk dX12_tellQuery_121 rfl ?_
                        refine g_imul hk dX12_tellQuery_122 ?_
                        refine g_topi (fun y15303 ey15303 => ?_)
                        have hy15303 : y15303.toInt = 16 * y10818.toInt := i32_mul ey15303 rfl rfl (by omega) (by omega)
                        refine g_aload_n hk dX12_tellQuery_123 rfl ?_
                        refine gM_r0_29 hk hin12 (List.mem_cons_of_mem _ (List.mem_append_left _ (List.mem_of_getElem? (i := 9) rfl))) dX12_tellQuery_124 ?_
                        refine g_iload_n hk dX12_tellQuery_127 rfl ?_
                        refine lM_11 (v := (A14924 11 y10818.toNatClampNeg)) hk (vp_in_iff.mpr ⟨by omega, by omega⟩) rfl dX12_tellQuery_128 ?_
                        refine g_iadd hk dX12_tellQuery_129 ?_
                        refine g_topi (fun y15304 ey15304 => ?_)
                        have hy15304 : y15304.toInt = y15303.toInt + (A14924 11 y10818.toNatClampNeg).toInt := i32_add ey15304 rfl rfl (by omega) (by omega)
                        refine g_aload_n hk dX12_tellQuery_130 rfl ?_
                        refine g_callV (n := 0) hk (j132_X12_readingTold l D zt r g I14924 A14924 L14924  hV14924) (SP.same _) (fun _ h => h) (gi_V (List.mem_cons_of_mem _ (List.mem_append_left _ (List.mem_of_getElem? (i := 23) rfl))) (List.mem_cons_of_mem _ (List.mem_append_left _ (List.mem_of_getElem? (i := 24) rfl))) (List.mem_cons_of_mem _ (List.mem_append_left _ (List.mem_of_getElem? (i := 25) rfl))) (List.mem_cons_of_mem _ (List.mem_append_left _ (List.mem_of_getElem? (i := 7) rfl))) (gi_sub (fun w h => (List.mem_cons_of_mem _ (List.mem_append_right _ (List.mem_append_right _ (List.mem_append_right _ (List.mem_append_right _ (List.mem_append_right _ (List.mem_append_right _ (List.mem_append_left _ h))))))))) zg_j132_X12_readingTold)) rfl rfl rfl (by decide +kernel) ⟨Nat.le_of_ble_eq_true rfl, Nat.le_of_ble_eq_true rfl⟩ 0 rfl rfl rfl rfl (Nat.le_of_ble_eq_true rfl) ⟨Nat.le_of_ble_eq_true rfl, Nat.le_of_ble_eq_true rfl⟩ dX12_tellQuery_131 (fun v ty' w' hp hk' => ?_)
                        obtain ⟨I15306, A15306, L15306, hI15306, hA15306, hV15306, y15305, r15307, r15308, r15309, r15310, rfl, rfl⟩ := hp
                        have f15311 := IvM_f4 hV15306
                        have f15312 := IvM_f6 hV15306
                        have f15313 := IvM_f8 hV15306
                        show GW κ 4 0 0 (wM r g I15306 A15306 L15306) 134 [(3, .int x10832), (2, .int (I 4)), (1, .int y10818), (0, .ref (r 0))] [.int y15305, .int y15304, .ref (r 13)]
                        refine sM_12 (j := y15304.toNatClampNeg) hk (vp_in_iff.mpr ⟨by omega, by omega⟩) rfl dX12_tellQuery_134 ?_
                        refine g_aload_n hk dX12_tellQuery_135 rfl ?_
                        refine gM_i6 (v := (I15306 6)) hk hin12 (List.mem_cons_of_mem _ (List.mem_append_left _ (List.mem_of_getElem? (i := 16) rfl))) dX12_tellQuery_136 rfl ?_
                        refine g_if_le (tgt := 143) (a := (I15306 6).toInt) hk dX12_tellQuery_139 (by decide) rfl (fun c15314 => ?_) (fun c15314 => ?_)
                        · skip
                          refine g_aload_n hk dX12_tellQuery_143 rfl ?_
                          refine gM_r0_29 hk hin12 (List.mem_cons_of_mem _ (List.mem_append_left _ (List.mem_of_getElem? (i := 9) rfl))) dX12_tellQuery_144 ?_
                          refine g_iload_n hk dX12_tellQuery_147 rfl ?_
                          refine g_dup2 hk dX12_tellQuery_148 rfl rfl ?_
                          refine lM_11 (v := (A14924 11 y10818.toNatClampNeg)) hk (vp_in_iff.mpr ⟨by omega, by omega⟩) (congrFun (hA15306 11 rfl) _) dX12_tellQuery_149 ?_
                          refine g_iconst (v := 1) hk dX12_tellQuery_150 (by decide) ?_
                          refine g_iadd hk dX12_tellQuery_151 ?_
                          refine g_topi (fun y15315 ey15315 => ?_)
                          have hy15315 : y15315.toInt = (A14924 11 y10818.toNatClampNeg).toInt + 1 := i32_add ey15315 rfl rfl (by omega) (by omega)
                          refine sM_11 (j := y10818.toNatClampNeg) hk (vp_in_iff.mpr ⟨by omega, by omega⟩) rfl dX12_tellQuery_152 ?_
                          have hA15316 : ∀ j, 0 ≤ ((up3 (up3 A15306 12 (y15304.toNatClampNeg) y15305) 11 (y10818.toNatClampNeg) y15315) 11 j).toInt ∧ ((up3 (up3 A15306 12 (y15304.toNatClampNeg) y15305) 11 (y10818.toNatClampNeg) y15315) 11 j).toInt ≤ 16 := ai_st ((IvM_a11 hV15306)) ⟨by omega, by omega⟩
                          refine g_aload_n hk dX12_tellQuery_153 rfl ?_
                          refine g_dup hk dX12_tellQuery_154 rfl ?_
                          refine gM_i11 (v := (I14924 11)) hk hin12 (List.mem_cons_of_mem _ (List.mem_append_left _ (List.mem_of_getElem? (i := 0) rfl))) dX12_tellQuery_155 (hI15306 11 rfl) ?_
                          refine g_iconst (v := 1) hk dX12_tellQuery_158 (by decide) ?_
                          have b15317l := Int32.le_toInt (I14924 11)
                          have b15317h := Int32.toInt_lt (I14924 11)
                          refine g_iadd hk dX12_tellQuery_159 ?_
                          refine g_topi (fun y15318 ey15318 => ?_)
                          refine pM_i11 hk hin12 (List.mem_cons_of_mem _ (List.mem_append_left _ (List.mem_of_getElem? (i := 0) rfl))) dX12_tellQuery_160 ?_
                          refine g_goto (tgt := 84) hk dX12_tellQuery_163 (by decide) ?_
                          have g15319 : (I15306 15).toInt = (I 15).toInt := by rw [show (I15306 15) = (I 15) from ((hI15306 15 rfl).trans ((hI14924 15 rfl).trans ((hI10836 15 rfl).trans (hI10822 15 rfl))))]
                          have g15320 : (I15306 16).toInt = (I 16).toInt := by rw [show (I15306 16) = (I 16) from ((hI15306 16 rfl).trans ((hI14924 16 rfl).trans ((hI10836 16 rfl).trans (hI10822 16 rfl))))]
                          have g15321 := IvM_s10_0 (I := I15306) (A := A15306) hV15306
                          have g15322 := IvM_s10_1 (I := I15306) (A := A15306) hV15306
                          have q15323 := cl_int (y := y10818) (by omega)
                          have g15324 : (A15306 10 0).toInt = (A 10 0).toInt := by rw [show (A15306 10 0) = (A 10 0) from ((congrFun (hA15306 10 rfl) _).trans ((congrFun (hA14924 10 rfl) _).trans ((congrFun (hA10836 10 rfl) _).trans (congrFun (hA10822 10 rfl) _))))]
                          have g15325 : (A15306 10 1).toInt = (A 10 1).toInt := by rw [show (A15306 10 1) = (A 10 1) from ((congrFun (hA15306 10 rfl) _).trans ((congrFun (hA14924 10 rfl) _).trans ((congrFun (hA10836 10 rfl) _).trans (congrFun (hA10822 10 rfl) _))))]
                          have q15326 := cl_int (y := y10818) (by omega)
                          exact g_lv (List.forall_mem_cons.mpr ⟨List.mem_of_getElem? (i := 0) rfl, (List.forall_mem_cons.mpr ⟨List.mem_of_getElem? (i := 1) rfl, (List.forall_mem_cons.mpr ⟨List.mem_of_getElem? (i := 2) rfl, (List.forall_mem_cons.mpr ⟨List.mem_of_getElem? (i := 3) rfl, (fun _ h => absurd h List.not_mem_nil)⟩)⟩)⟩)⟩) (ih15193 (upd I15306 11 y15318) (up3 (up3 A15306 12 (y15304.toNatClampNeg) y15305) 11 (y10818.toNatClampNeg) y15315) L15306 (show Md [4, 6, 7, 8, 9, 11, 12, 13] I10836 (upd I15306 11 y15318) from Md.tr hI14924 (show Md [4, 6, 7, 8, 9, 11, 12, 13] I14924 (upd I15306 11 y15318) from (Md.up (Md.tr Md.rf hI15306 rfl) rfl)) rfl) (show Md [11, 12] (up3 A10836 11 (y10818.toNatClampNeg) 0) (up3 (up3 A15306 12 (y15304.toNatClampNeg) y15305) 11 (y10818.toNatClampNeg) y15315) from Md.tr hA14924 (show Md [11, 12] A14924 (up3 (up3 A15306 12 (y15304.toNatClampNeg) y15305) 11 (y10818.toNatClampNeg) y15315) from (Md.up3 (Md.up3 (Md.tr Md.rf hA15306 rfl) rfl) rfl)) rfl) ⟨(IvM_f1 (I := I15306) (A := A15306) hV15306), (IvM_f2 (I := I15306) (A := A15306) hV15306), (IvM_f3 (I := I15306) (A := A15306) hV15306), (IvM_f4 (I := I15306) (A := A15306) hV15306), (IvM_f6 (I := I15306) (A := A15306) hV15306), (IvM_f8 (I := I15306) (A := A15306) hV15306), (IvM_f15 (I := I15306) (A := A15306) hV15306), (IvM_f16 (I := I15306) (A := A15306) hV15306), (IvM_f17 (I := I15306) (A := A15306) hV15306), (IvM_f18 (I := I15306) (A := A15306) hV15306), (IvM_f22 (I := I15306) (A := A15306) hV15306), (IvM_f23 (I := I15306) (A := A15306) hV15306), (IvM_f24 (I := I15306) (A := A15306) hV15306), hA15316, (IvM_a26 (I := I15306) (A := A15306) hV15306), (IvM_s8_0 (I := I15306) (A := A15306) hV15306), (IvM_s8_1 (I := I15306) (A := A15306) hV15306), (IvM_s10_0 (I := I15306) (A := A15306) hV15306), (IvM_s10_1 (I := I15306) (A := A15306) hV15306), (IvM_s17_0 (I := I15306) (A := A15306) hV15306), (IvM_s17_164 (I := I15306) (A := A15306) hV15306), ⟨fun e => by have e : (I15306 15).toInt = 0 := e; first | exact ghf_upd (n := (A15306 10 0)) ((IvM_lv (I := I15306) (A := A15306) hV15306).1 e) (fun q hq => by omega) | (exfalso; omega), fun e => by have e : (I15306 15).toInt = 1 := e; first | exact ghf_upd (n := (A15306 10 1)) ((IvM_lv (I := I15306) (A := A15306) hV15306).2 e) (fun q hq => by omega) | (exfalso; omega)⟩, (by rcases (IvM_sd (I := I15306) (A := A15306) hV15306) with h9 | h9 | h9; exact Or.inl h9; exact Or.inr (Or.inl h9); exact Or.inr (Or.inr ⟨fun e => by have e : (I15306 16).toInt = 0 := e; first | exact ghf_upd (n := (A15306 10 0)) (h9.1 e) (fun q hq => by omega) | (exfalso; omega), fun e => by have e : (I15306 16).toInt = 1 := e; first | exact ghf_upd (n := (A15306 10 1)) (h9.2 e) (fun q hq => by omega) | (exfalso; omega)⟩)), (IvM_nq (I := I15306) (A := A15306) hV15306), (IvM_hr (I := I15306) (A := A15306) hV15306), (IvM_hh (I := I15306) (A := A15306) hV15306), trivial⟩ (by first | (rw [show ((upd I15306 11 y15318) 4) = (I15306 4) from rfl] <;> omega) | omega) (by first | (rw [show ((upd I15306 11 y15318) 6) = (I15306 6) from rfl] <;> omega) | omega) (by first | (rw [show ((upd I15306 11 y15318) 8) = (I15306 8) from rfl] <;> omega) | omega) (by first | (rw [show ((upd I15306 11 y15318) 4) = (I15306 4) from rfl] <;> omega) | omega) (by omega))
                        · skip
                          exact g_vret hk hR ⟨I15306, (up3 A15306 12 (y15304.toNatClampNeg) y15305), L15306, (show Md [4, 6, 7, 8, 9, 11, 12, 13, 17] I I15306 from (Md.tr (Md.tr (Md.tr (Md.tr (Md.up Md.rf rfl) hI10822 rfl) hI10836 rfl) hI14924 rfl) hI15306 rfl)), (show Md [10, 11, 12] A (up3 A15306 12 (y15304.toNatClampNeg) y15305) from (Md.up3 (Md.tr (Md.tr (Md.up3 (Md.tr (Md.tr Md.rf hA10822 rfl) hA10836 rfl) rfl) hA14924 rfl) hA15306 rfl) rfl)), ⟨(IvM_f1 (I := I15306) (A := A15306) hV15306), (IvM_f2 (I := I15306) (A := A15306) hV15306), (IvM_f3 (I := I15306) (A := A15306) hV15306), (IvM_f4 (I := I15306) (A := A15306) hV15306), (IvM_f6 (I := I15306) (A := A15306) hV15306), (IvM_f8 (I := I15306) (A := A15306) hV15306), (IvM_f15 (I := I15306) (A := A15306) hV15306), (IvM_f16 (I := I15306) (A := A15306) hV15306), (IvM_f17 (I := I15306) (A := A15306) hV15306), (IvM_f18 (I := I15306) (A := A15306) hV15306), (IvM_f22 (I := I15306) (A := A15306) hV15306), (IvM_f23 (I := I15306) (A := A15306) hV15306), (IvM_f24 (I := I15306) (A := A15306) hV15306), (IvM_a11 (I := I15306) (A := A15306) hV15306), (IvM_a26 (I := I15306) (A := A15306) hV15306), (IvM_s8_0 (I := I15306) (A := A15306) hV15306), (IvM_s8_1 (I := I15306) (A := A15306) hV15306), (IvM_s10_0 (I := I15306) (A := A15306) hV15306), (IvM_s10_1 (I := I15306) (A := A15306) hV15306), (IvM_s17_0 (I := I15306) (A := A15306) hV15306), (IvM_s17_164 (I := I15306) (A := A15306) hV15306), (IvM_lv (I := I15306) (A := A15306) hV15306), (IvM_sd (I := I15306) (A := A15306) hV15306), (IvM_nq (I := I15306) (A := A15306) hV15306), (IvM_hr (I := I15306) (A := A15306) hV15306), (IvM_hh (I := I15306) (A := A15306) hV15306), trivial⟩, (by omega), (by omega), (by omega), rfl, rfl⟩ dX12_tellQuery_142
                      · skip
                        exact g_vret hk hR ⟨I14924, A14924, L14924, (show Md [4, 6, 7, 8, 9, 11, 12, 13, 17] I I14924 from (Md.tr (Md.tr (Md.tr (Md.up Md.rf rfl) hI10822 rfl) hI10836 rfl) hI14924 rfl)), (show Md [10, 11, 12] A A14924 from (Md.tr (Md.up3 (Md.tr (Md.tr Md.rf hA10822 rfl) hA10836 rfl) rfl) hA14924 rfl)), hV14924, (by omega), (by omega), (by omega), rfl, rfl⟩ dX12_tellQuery_114
                    · skip
                      refine g_aload_n hk dX12_tellQuery_102 rfl ?_
                      refine g_iconst (v := 2) hk dX12_tellQuery_103 (by decide) ?_
                      have k15327 : (2 : Int32).toInt = 2 := rfl
                      refine g_callV (n := 1) hk (j128_X12_fail l D zt r g I14924 A14924 L14924 2 hV14924 (by decide) (by decide)) (SP.same _) (fun _ h => h) (gi_V (List.mem_cons_of_mem _ (List.mem_append_left _ (List.mem_of_getElem? (i := 26) rfl))) (List.mem_cons_of_mem _ (List.mem_append_left _ (List.mem_of_getElem? (i := 27) rfl))) (List.mem_cons_of_mem _ (List.mem_append_left _ (List.mem_of_getElem? (i := 28) rfl))) (List.mem_cons_of_mem _ (List.mem_append_left _ (List.mem_of_getElem? (i := 7) rfl))) (gi_sub (fun w h => (List.mem_cons_of_mem _ (List.mem_append_right _ (List.mem_append_right _ (List.mem_append_right _ (List.mem_append_right _ (List.mem_append_right _ (List.mem_append_right _ (List.mem_append_right _ (List.mem_append_left _ h)))))))))) zg_j128_X12_fail)) rfl rfl rfl (by decide +kernel) ⟨Nat.le_of_ble_eq_true rfl, Nat.le_of_ble_eq_true rfl⟩ 0 rfl rfl rfl rfl (Nat.le_of_ble_eq_true rfl) ⟨Nat.le_of_ble_eq_true rfl, Nat.le_of_ble_eq_true rfl⟩ dX12_tellQuery_104 (fun v ty' w' hp hk' => ?_)
                      obtain ⟨I15329, A15329, L15329, hI15329, hA15329, hV15329, r15330, r15331, r15332, rfl, rfl⟩ := hp
                      have f15333 := IvM_f6 hV15329
                      rw [show (I15329 8) = (I14924 8) from (hI15329 8 rfl)] at r15331
                      show GW κ 4 0 0 (wM r g I15329 A15329 L15329) 107 [(3, .int x10832), (2, .int (I 4)), (1, .int y10818), (0, .ref (r 0))] []
                      refine g_aload_n hk dX12_tellQuery_107 rfl ?_
                      refine gM_i6 (v := (I15329 6)) hk hin12 (List.mem_cons_of_mem _ (List.mem_append_left _ (List.mem_of_getElem? (i := 16) rfl))) dX12_tellQuery_108 rfl ?_
                      refine g_if_le (tgt := 115) (a := (I15329 6).toInt) hk dX12_tellQuery_111 (by decide) rfl (fun c15334 => ?_) (fun c15334 => ?_)
                      · skip
                        refine g_aload_n hk dX12_tellQuery_115 rfl ?_
                        refine gM_r0_30 hk hin12 (List.mem_cons_of_mem _ (List.mem_append_left _ (List.mem_of_getElem? (i := 22) rfl))) dX12_tellQuery_116 ?_
                        refine g_bipush (v := 16) hk dX12_tellQuery_119 (by decide) ?_
                        refine g_iload_n hk dX12_tellQuery_121 rfl ?_
                        refine g_imul hk dX12_tellQuery_122 ?_
                        refine g_topi (fun y15335 ey15335 => ?_)
                        have hy15335 : y15335.toInt = 16 * y10818.toInt := i32_mul ey15335 rfl rfl (by omega) (by omega)
                        refine g_aload_n hk dX12_tellQuery_123 rfl ?_
                        refine gM_r0_29 hk hin12 (List.mem_cons_of_mem _ (List.mem_append_left _ (List.mem_of_getElem? (i := 9) rfl))) dX12_tellQuery_124 ?_
                        refine g_iload_n hk dX12_tellQuery_127 rfl ?_
                        refine lM_11 (v := (A14924 11 y10818.toNatClampNeg)) hk (vp_in_iff.mpr ⟨by omega, by omega⟩) (congrFun (hA15329 11 rfl) _) dX12_tellQuery_128 ?_
                        refine g_iadd hk dX12_tellQuery_129 ?_
                        refine g_topi (fun y15336 ey15336 => ?_)
                        have hy15336 : y15336.toInt = y15335.toInt + (A14924 11 y10818.toNatClampNeg).toInt := i32_add ey15336 rfl rfl (by omega) (by omega)
                        refine g_aload_n hk dX12_tellQuery_130 rfl ?_
                        refine g_callV (n := 0) hk (j132_X12_readingTold l D zt r g I15329 A15329 L15329  hV15329) (SP.same _) (fun _ h => h) (gi_V (List.mem_cons_of_mem _ (List.mem_append_left _ (List.mem_of_getElem? (i := 23) rfl))) (List.mem_cons_of_mem _ (List.mem_append_left _ (List.mem_of_getElem? (i := 24) rfl))) (List.mem_cons_of_mem _ (List.mem_append_left _ (List.mem_of_getElem? (i := 25) rfl))) (List.mem_cons_of_mem _ (List.mem_append_left _ (List.mem_of_getElem? (i := 7) rfl))) (gi_sub (fun w h => (List.mem_cons_of_mem _ (List.mem_append_right _ (List.mem_append_right _ (List.mem_append_right _ (List.mem_append_right _ (List.mem_append_right _ (List.mem_append_right _ (List.mem_append_left _ h))))))))) zg_j132_X12_readingTold)) rfl rfl rfl (by decide +kernel) ⟨Nat.le_of_ble_eq_true rfl, Nat.le_of_ble_eq_true rfl⟩ 0 rfl rfl rfl rfl (Nat.le_of_ble_eq_true rfl) ⟨Nat.le_of_ble_eq_true rfl, Nat.le_of_ble_eq_true rfl⟩ dX12_tellQuery_131 (fun v ty' w' hp hk' => ?_)
                        obtain ⟨I15338, A15338, L15338, hI15338, hA15338, hV15338, y15337, r15339, r15340, r15341, r15342, rfl, rfl⟩ := hp
                        have f15343 := IvM_f4 hV15338
                        rw [show (I15329 4) = (I14924 4) from (hI15329 4 rfl)] at r15339
                        have f15344 := IvM_f6 hV15338
                        have f15345 := IvM_f8 hV15338
                        rw [show (I15329 8) = (I14924 8) from (hI15329 8 rfl)] at r15341
                        rw [show (I15329 4) = (I14924 4) from (hI15329 4 rfl)] at r15342
                        show GW κ 4 0 0 (wM r g I15338 A15338 L15338) 134 [(3, .int x10832), (2, .int (I 4)), (1, .int y10818), (0, .ref (r 0))] [.int y15337, .int y15336, .ref (r 13)]
                        refine sM_12 (j := y15336.toNatClampNeg) hk (vp_in_iff.mpr ⟨by omega, by omega⟩) rfl dX12_tellQuery_134 ?_
                        refine g_aload_n hk dX12_tellQuery_135 rfl ?_
                        refine gM_i6 (v := (I15338 6)) hk hin12 (List.mem_cons_of_mem _ (List.mem_append_left _ (List.mem_of_getElem? (i := 16) rfl))) dX12_tellQuery_136 rfl ?_
                        refine g_if_le (tgt := 143) (a := (I15338 6).toInt) hk dX12_tellQuery_139 (by decide) rfl (fun c15346 => ?_) (fun c15346 => ?_)
                        · skip
                          refine g_aload_n hk dX12_tellQuery_143 rfl ?_
                          refine gM_r0_29 hk hin12 (List.mem_cons_of_mem _ (List.mem_append_left _ (List.mem_of_getElem? (i := 9) rfl))) dX12_tellQuery_144 ?_
                          refine g_iload_n hk dX12_tellQuery_147 rfl ?_
                          refine g_dup2 hk dX12_tellQuery_148 rfl rfl ?_
                          refine lM_11 (v := (A14924 11 y10818.toNatClampNeg)) hk (vp_in_iff.mpr ⟨by omega, by omega⟩) ((congrFun (hA15338 11 rfl) _).trans (congrFun (hA15329 11 rfl) _)) dX12_tellQuery_149 ?_
                          refine g_iconst (v := 1) hk dX12_tellQuery_150 (by decide) ?_
                          refine g_iadd hk dX12_tellQuery_151 ?_
                          refine g_topi (fun y15347 ey15347 => ?_)
                          have hy15347 : y15347.toInt = (A14924 11 y10818.toNatClampNeg).toInt + 1 := i32_add ey15347 rfl rfl (by omega) (by omega)
                          refine sM_11 (j := y10818.toNatClampNeg) hk (vp_in_iff.mpr ⟨by omega, by omega⟩) rfl dX12_tellQuery_152 ?_
                          have hA15348 : ∀ j, 0 ≤ ((up3 (up3 A15338 12 (y15336.toNatClampNeg) y15337) 11 (y10818.toNatClampNeg) y15347) 11 j).toInt ∧ ((up3 (up3 A15338 12 (y15336.toNatClampNeg) y15337) 11 (y10818.toNatClampNeg) y15347) 11 j).toInt ≤ 16 := ai_st ((IvM_a11 hV15338)) ⟨by omega, by omega⟩
                          refine g_aload_n hk dX12_tellQuery_153 rfl ?_
                          refine g_dup hk dX12_tellQuery_154 rfl ?_
                          refine gM_i11 (v := (I14924 11)) hk hin12 (List.mem_cons_of_mem _ (List.mem_append_left _ (List.mem_of_getElem? (i := 0) rfl))) dX12_tellQuery_155 ((hI15338 11 rfl).trans (hI15329 11 rfl)) ?_
                          refine g_iconst (v := 1) hk dX12_tellQuery_158 (by decide) ?_
                          have b15349l := Int32.le_toInt (I14924 11)
                          have b15349h := Int32.toInt_lt (I14924 11)
                          refine g_iadd hk dX12_tellQuery_159 ?_
                          refine g_topi (fun y15350 ey15350 => ?_)
                          refine pM_i11 hk hin12 (List.mem_cons_of_mem _ (List.mem_append_left _ (List.mem_of_getElem? (i := 0) rfl))) dX12_tellQuery_160 ?_
                          refine g_goto (tgt := 84) hk dX12_tellQuery_163 (by decide) ?_
                          have g15351 : (I15338 15).toInt = (I 15).toInt := by rw [show (I15338 15) = (I 15) from ((hI15338 15 rfl).trans ((hI15329 15 rfl).trans ((hI14924 15 rfl).trans ((hI10836 15 rfl).trans (hI10822 15 rfl)))))]
                          have g15352 : (I15338 16).toInt = (I 16).toInt := by rw [show (I15338 16) = (I 16) from ((hI15338 16 rfl).trans ((hI15329 16 rfl).trans ((hI14924 16 rfl).trans ((hI10836 16 rfl).trans (hI10822 16 rfl)))))]
                          have g15353 := IvM_s10_0 (I := I15338) (A := A15338) hV15338
                          have g15354 := IvM_s10_1 (I := I15338) (A := A15338) hV15338
                          have q15355 := cl_int (y := y10818) (by omega)
                          have g15356 : (A15338 10 0).toInt = (A 10 0).toInt := by rw [show (A15338 10 0) = (A 10 0) from ((congrFun (hA15338 10 rfl) _).trans ((congrFun (hA15329 10 rfl) _).trans ((congrFun (hA14924 10 rfl) _).trans ((congrFun (hA10836 10 rfl) _).trans (congrFun (hA10822 10 rfl) _)))))]
                          have g15357 : (A15338 10 1).toInt = (A 10 1).toInt := by rw [show (A15338 10 1) = (A 10 1) from ((congrFun (hA15338 10 rfl) _).trans ((congrFun (hA15329 10 rfl) _).trans ((congrFun (hA14924 10 rfl) _).trans ((congrFun (hA10836 10 rfl) _).trans (congrFun (hA10822 10 rfl) _)))))]
                          have q15358 := cl_int (y := y10818) (by omega)
                          exact g_lv (List.forall_mem_cons.mpr ⟨List.mem_of_getElem? (i := 0) rfl, (List.forall_mem_cons.mpr ⟨List.mem_of_getElem? (i := 1) rfl, (List.forall_mem_cons.mpr ⟨List.mem_of_getElem? (i := 2) rfl, (List.forall_mem_cons.mpr ⟨List.mem_of_getElem? (i := 3) rfl, (fun _ h => absurd h List.not_mem_nil)⟩)⟩)⟩)⟩) (ih15193 (upd I15338 11 y15350) (up3 (up3 A15338 12 (y15336.toNatClampNeg) y15337) 11 (y10818.toNatClampNeg) y15347) L15338 (show Md [4, 6, 7, 8, 9, 11, 12, 13] I10836 (upd I15338 11 y15350) from Md.tr hI14924 (show Md [4, 6, 7, 8, 9, 11, 12, 13] I14924 (upd I15338 11 y15350) from (Md.up (Md.tr (Md.tr Md.rf hI15329 rfl) hI15338 rfl) rfl)) rfl) (show Md [11, 12] (up3 A10836 11 (y10818.toNatClampNeg) 0) (up3 (up3 A15338 12 (y15336.toNatClampNeg) y15337) 11 (y10818.toNatClampNeg) y15347) from Md.tr hA14924 (show Md [11, 12] A14924 (up3 (up3 A15338 12 (y15336.toNatClampNeg) y15337) 11 (y10818.toNatClampNeg) y15347) from (Md.up3 (Md.up3 (Md.tr (Md.tr Md.rf hA15329 rfl) hA15338 rfl) rfl) rfl)) rfl) ⟨(IvM_f1 (I := I15338) (A := A15338) hV15338), (IvM_f2 (I := I15338) (A := A15338) hV15338), (IvM_f3 (I := I15338) (A := A15338) hV15338), (IvM_f4 (I := I15338) (A := A15338) hV15338), (IvM_f6 (I := I15338) (A := A15338) hV15338), (IvM_f8 (I := I15338) (A := A15338) hV15338), (IvM_f15 (I := I15338) (A := A15338) hV15338), (IvM_f16 (I := I15338) (A := A15338) hV15338), (IvM_f17 (I := I15338) (A := A15338) hV15338), (IvM_f18 (I := I15338) (A := A15338) hV15338), (IvM_f22 (I := I15338) (A := A15338) hV15338), (IvM_f23 (I := I15338) (A := A15338) hV15338), (IvM_f24 (I := I15338) (A := A15338) hV15338), hA15348, (IvM_a26 (I := I15338) (A := A15338) hV15338), (IvM_s8_0 (I := I15338) (A := A15338) hV15338), (IvM_s8_1 (I := I15338) (A := A15338) hV15338), (IvM_s10_0 (I := I15338) (A := A15338) hV15338), (IvM_s10_1 (I := I15338) (A := A15338) hV15338), (IvM_s17_0 (I := I15338) (A := A15338) hV15338), (IvM_s17_164 (I := I15338) (A := A15338) hV15338), ⟨fun e => by have e : (I15338 15).toInt = 0 := e; first | exact ghf_upd (n := (A15338 10 0)) ((IvM_lv (I := I15338) (A := A15338) hV15338).1 e) (fun q hq => by omega) | (exfalso; omega), fun e => by have e : (I15338 15).toInt = 1 := e; first | exact ghf_upd (n := (A15338 10 1)) ((IvM_lv (I := I15338) (A := A15338) hV15338).2 e) (fun q hq => by omega) | (exfalso; omega)⟩, (by rcases (IvM_sd (I := I15338) (A := A15338) hV15338) with h9 | h9 | h9; exact Or.inl h9; exact Or.inr (Or.inl h9); exact Or.inr (Or.inr ⟨fun e => by have e : (I15338 16).toInt = 0 := e; first | exact ghf_upd (n := (A15338 10 0)) (h9.1 e) (fun q hq => by omega) | (exfalso; omega), fun e => by have e : (I15338 16).toInt = 1 := e; first | exact ghf_upd (n := (A15338 10 1)) (h9.2 e) (fun q hq => by omega) | (exfalso; omega)⟩)), (IvM_nq (I := I15338) (A := A15338) hV15338), (IvM_hr (I := I15338) (A := A15338) hV15338), (IvM_hh (I := I15338) (A := A15338) hV15338), trivial⟩ (by first | (rw [show ((upd I15338 11 y15350) 4) = (I15338 4) from rfl] <;> omega) | omega) (by first | (rw [show ((upd I15338 11 y15350) 6) = (I15338 6) from rfl] <;> omega) | omega) (by first | (rw [show ((upd I15338 11 y15350) 8) = (I15338 8) from rfl] <;> omega) | omega) (by first | (rw [show ((upd I15338 11 y15350) 4) = (I15338 4) from rfl] <;> omega) | omega) (by omega))
                        · skip
                          exact g_vret hk hR ⟨I15338, (up3 A15338 12 (y15336.toNatClampNeg) y15337), L15338, (show Md [4, 6, 7, 8, 9, 11, 12, 13, 17] I I15338 from (Md.tr (Md.tr (Md.tr (Md.tr (Md.tr (Md.up Md.rf rfl) hI10822 rfl) hI10836 rfl) hI14924 rfl) hI15329 rfl) hI15338 rfl)), (show Md [10, 11, 12] A (up3 A15338 12 (y15336.toNatClampNeg) y15337) from (Md.up3 (Md.tr (Md.tr (Md.tr (Md.up3 (Md.tr (Md.tr Md.rf hA10822 rfl) hA10836 rfl) rfl) hA14924 rfl) hA15329 rfl) hA15338 rfl) rfl)), ⟨(IvM_f1 (I := I15338) (A := A15338) hV15338), (IvM_f2 (I := I15338) (A := A15338) hV15338), (IvM_f3 (I := I15338) (A := A15338) hV15338), (IvM_f4 (I := I15338) (A := A15338) hV15338), (IvM_f6 (I := I15338) (A := A15338) hV15338), (IvM_f8 (I := I15338) (A := A15338) hV15338), (IvM_f15 (I := I15338) (A := A15338) hV15338), (IvM_f16 (I := I15338) (A := A15338) hV15338), (IvM_f17 (I := I15338) (A := A15338) hV15338), (IvM_f18 (I := I15338) (A := A15338) hV15338), (IvM_f22 (I := I15338) (A := A15338) hV15338), (IvM_f23 (I := I15338) (A := A15338) hV15338), (IvM_f24 (I := I15338) (A := A15338) hV15338), (IvM_a11 (I := I15338) (A := A15338) hV15338), (IvM_a26 (I := I15338) (A := A15338) hV15338), (IvM_s8_0 (I := I15338) (A := A15338) hV15338), (IvM_s8_1 (I := I15338) (A := A15338) hV15338), (IvM_s10_0 (I := I15338) (A := A15338) hV15338), (IvM_s10_1 (I := I15338) (A := A15338) hV15338), (IvM_s17_0 (I := I15338) (A := A15338) hV15338), (IvM_s17_164 (I := I15338) (A := A15338) hV15338), (IvM_lv (I := I15338) (A := A15338) hV15338), (IvM_sd (I := I15338) (A := A15338) hV15338), (IvM_nq (I := I15338) (A := A15338) hV15338), (IvM_hr (I := I15338) (A := A15338) hV15338), (IvM_hh (I := I15338) (A := A15338) hV15338), trivial⟩, (by omega), (by omega), (by omega), rfl, rfl⟩ dX12_tellQuery_142
                      · skip
                        exact g_vret hk hR ⟨I15329, A15329, L15329, (show Md [4, 6, 7, 8, 9, 11, 12, 13, 17] I I15329 from (Md.tr (Md.tr (Md.tr (Md.tr (Md.up Md.rf rfl) hI10822 rfl) hI10836 rfl) hI14924 rfl) hI15329 rfl)), (show Md [10, 11, 12] A A15329 from (Md.tr (Md.tr (Md.up3 (Md.tr (Md.tr Md.rf hA10822 rfl) hA10836 rfl) rfl) hA14924 rfl) hA15329 rfl)), hV15329, (by rw [show (I15329 4) = (I14924 4) from (hI15329 4 rfl)] <;> omega), (by omega), (by rw [show (I15329 8) = (I14924 8) from (hI15329 8 rfl)] <;> omega), rfl, rfl⟩ dX12_tellQuery_114
              obtain ⟨n15359, n15359a, n15359b⟩ : ∃ n : Nat, 401 - (I10822 4).toInt < (n : Int) ∧ 0 < n := ⟨((401 - (I10822 4).toInt : Int)).toNat + 1, by omega, by omega⟩
              have g15360 : (I10836 15).toInt = (I 15).toInt := by rw [show (I10836 15) = (I 15) from ((hI10836 15 rfl).trans (hI10822 15 rfl))]
              have g15361 : (I10836 16).toInt = (I 16).toInt := by rw [show (I10836 16) = (I 16) from ((hI10836 16 rfl).trans (hI10822 16 rfl))]
              have g15362 := IvM_s10_0 (I := I10836) (A := A10836) hV10836
              have g15363 := IvM_s10_1 (I := I10836) (A := A10836) hV10836
              have q15364 := cl_int (y := y10818) (by omega)
              have g15365 : (A10836 10 0).toInt = (A 10 0).toInt := by rw [show (A10836 10 0) = (A 10 0) from ((congrFun (hA10836 10 rfl) _).trans (congrFun (hA10822 10 rfl) _))]
              have g15366 : (A10836 10 1).toInt = (A 10 1).toInt := by rw [show (A10836 10 1) = (A 10 1) from ((congrFun (hA10836 10 rfl) _).trans (congrFun (hA10822 10 rfl) _))]
              have g15367 : (I10836 6).toInt = (I10822 6).toInt := by rw [show (I10836 6) = (I10822 6) from (hI10836 6 rfl)]
              have q15368 := cl_int (y := y10818) (by omega)
              exact lp15190 n15359 I10836 (up3 A10836 11 (y10818.toNatClampNeg) 0) L10836 Md.rf Md.rf ⟨(IvM_f1 (I := I10836) (A := A10836) hV10836), (IvM_f2 (I := I10836) (A := A10836) hV10836), (IvM_f3 (I := I10836) (A := A10836) hV10836), (IvM_f4 (I := I10836) (A := A10836) hV10836), (IvM_f6 (I := I10836) (A := A10836) hV10836), (IvM_f8 (I := I10836) (A := A10836) hV10836), (IvM_f15 (I := I10836) (A := A10836) hV10836), (IvM_f16 (I := I10836) (A := A10836) hV10836), (IvM_f17 (I := I10836) (A := A10836) hV10836), (IvM_f18 (I := I10836) (A := A10836) hV10836), (IvM_f22 (I := I10836) (A := A10836) hV10836), (IvM_f23 (I := I10836) (A := A10836) hV10836), (IvM_f24 (I := I10836) (A := A10836) hV10836), hA14919, (IvM_a26 (I := I10836) (A := A10836) hV10836), (IvM_s8_0 (I := I10836) (A := A10836) hV10836), (IvM_s8_1 (I := I10836) (A := A10836) hV10836), (IvM_s10_0 (I := I10836) (A := A10836) hV10836), (IvM_s10_1 (I := I10836) (A := A10836) hV10836), (IvM_s17_0 (I := I10836) (A := A10836) hV10836), (IvM_s17_164 (I := I10836) (A := A10836) hV10836), ⟨fun e => by have e : (I10836 15).toInt = 0 := e; first | exact ghf_upd (n := (A10836 10 0)) ((IvM_lv (I := I10836) (A := A10836) hV10836).1 e) (fun q hq => by omega) | (exfalso; omega), fun e => by have e : (I10836 15).toInt = 1 := e; first | exact ghf_upd (n := (A10836 10 1)) ((IvM_lv (I := I10836) (A := A10836) hV10836).2 e) (fun q hq => by omega) | (exfalso; omega)⟩, (by rcases (IvM_sd (I := I10836) (A := A10836) hV10836) with h9 | h9 | h9; exact Or.inl h9; exact Or.inr (Or.inl h9); exact Or.inr (Or.inr ⟨fun e => by have e : (I10836 16).toInt = 0 := e; first | exact ghf_upd (n := (A10836 10 0)) (h9.1 e) (fun q hq => by omega) | (exfalso; omega), fun e => by have e : (I10836 16).toInt = 1 := e; first | exact ghf_upd (n := (A10836 10 1)) (h9.2 e) (fun q hq => by omega) | (exfalso; omega)⟩)), (IvM_nq (I := I10836) (A := A10836) hV10836), (IvM_hr (I := I10836) (A := A10836) hV10836), (IvM_hh (I := I10836) (A := A10836) hV10836), trivial⟩ (by first | (rw [show (I10836 4) = (I10822 4) from (hI10836 4 rfl)] <;> omega) | omega) (by first | (rw [show (I10836 6) = (I10822 6) from (hI10836 6 rfl)] <;> omega) | omega) (by omega) (by first | exact n15359a | (rw [show (I10836 4) = (I10822 4) from (hI10836 4 rfl)] <;> exact n15359a)) n15359b
            · skip
              refine g_aload_n hk dX12_tellQuery_49 rfl ?_
              refine gM_r0_25 hk hin12 (List.mem_cons_of_mem _ (List.mem_append_left _ (List.mem_of_getElem? (i := 17) rfl))) dX12_tellQuery_50 ?_
              refine g_iload_n hk dX12_tellQuery_53 rfl ?_
              refine lM_7 hk (vp_in_iff.mpr ⟨by omega, by omega⟩) rfl dX12_tellQuery_54 ?_
              refine g_topl (fun y15369 ey15369 => ?_)
              refine g_aload_n hk dX12_tellQuery_55 rfl ?_
              refine gM_r0_8 hk hin12 (List.mem_cons_of_mem _ (List.mem_append_left _ (List.mem_of_getElem? (i := 18) rfl))) dX12_tellQuery_56 ?_
              refine g_iload_n hk dX12_tellQuery_59 rfl ?_
              refine lM_5 hk (vp_in_iff.mpr ⟨by omega, by omega⟩) rfl dX12_tellQuery_60 ?_
              refine g_topl (fun y15370 ey15370 => ?_)
              refine g_lcmp hk dX12_tellQuery_61 ?_
              refine g_topi (fun y15371 ey15371 => ?_)
              have b15372l := Int32.le_toInt y15371
              have b15372h := Int32.toInt_lt y15371
              refine g_if_ne (tgt := 71) (a := y15371.toInt) hk dX12_tellQuery_62 (by decide) rfl (fun c15373 => ?_) (fun c15373 => ?_)
              · skip
                obtain ⟨y15374, ey15374⟩ : ∃ y : Int32, y = x10832 + Int32.ofInt 1 := ⟨_, rfl⟩
                have hy15374 : y15374.toInt = x10832.toInt + 1 := i32_add ey15374 rfl (by decide) (by omega) (by omega)
                refine g_iinc (v := y15374) (lv' := [(3, .int y15374), (2, .int (I 4)), (1, .int y10818), (0, .ref (r 0))]) hk 0 dX12_tellQuery_71 rfl ey15374.symm (by decide) rfl ?_
                refine g_goto (tgt := 34) hk dX12_tellQuery_74 (by decide) ?_
                exact g_lv (List.forall_mem_cons.mpr ⟨List.mem_of_getElem? (i := 0) rfl, (List.forall_mem_cons.mpr ⟨List.mem_of_getElem? (i := 1) rfl, (List.forall_mem_cons.mpr ⟨List.mem_of_getElem? (i := 2) rfl, (List.forall_mem_cons.mpr ⟨List.mem_of_getElem? (i := 3) rfl, (fun _ h => absurd h List.not_mem_nil)⟩)⟩)⟩)⟩) (ih14443 y15374 I10836 A10836 L10836 (show Md [8, 9, 13] I10822 I10836 from Md.tr hI10836 (show Md [8, 9, 13] I10836 I10836 from Md.rf) rfl) (show Md [] A10822 A10836 from Md.tr hA10836 (show Md [] A10836 A10836 from Md.rf) rfl) hV10836 (by omega) (by omega) (by first | (rw [show (I10836 4) = (I10822 4) from (hI10836 4 rfl)] <;> omega) | omega) (by first | (rw [show (I10836 6) = (I10822 6) from (hI10836 6 rfl)] <;> omega) | omega) (by omega) (by omega) (by omega))
              · skip
                refine g_aload_n hk dX12_tellQuery_65 rfl ?_
                refine g_iconst (v := 3) hk dX12_tellQuery_66 (by decide) ?_
                refine g_iload_n hk dX12_tellQuery_67 rfl ?_
                have k15375 : (3 : Int32).toInt = 3 := rfl
                refine g_callV (n := 2) hk (j134_X12_wrong l D zt r g I10836 A10836 L10836 3 (I 4) hV10836 (by decide) (by decide) (by omega) (by omega)) (SP.same _) (fun _ h => h) (gi_V (List.mem_cons_of_mem _ (List.mem_append_left _ (List.mem_of_getElem? (i := 19) rfl))) (List.mem_cons_of_mem _ (List.mem_append_left _ (List.mem_of_getElem? (i := 20) rfl))) (List.mem_cons_of_mem _ (List.mem_append_left _ (List.mem_of_getElem? (i := 21) rfl))) (List.mem_cons_of_mem _ (List.mem_append_left _ (List.mem_of_getElem? (i := 7) rfl))) (gi_sub (fun w h => (List.mem_cons_of_mem _ (List.mem_append_right _ (List.mem_append_right _ (List.mem_append_right _ (List.mem_append_right _ (List.mem_append_right _ (List.mem_append_left _ h)))))))) zg_j134_X12_wrong)) rfl rfl rfl (by decide +kernel) ⟨Nat.le_of_ble_eq_true rfl, Nat.le_of_ble_eq_true rfl⟩ 0 rfl rfl rfl rfl (Nat.le_of_ble_eq_true rfl) ⟨Nat.le_of_ble_eq_true rfl, Nat.le_of_ble_eq_true rfl⟩ dX12_tellQuery_68 (fun v ty' w' hp hk' => ?_)
                obtain ⟨I15377, A15377, L15377, hI15377, hA15377, hV15377, r15378, r15379, r15380, rfl, rfl⟩ := hp
                rw [show (I10836 6) = (I10822 6) from (hI10836 6 rfl), show (I15377 6) = (I10822 6) from ((hI15377 6 rfl).trans (hI10836 6 rfl))] at r15378
                have f15381 := IvM_f8 hV15377
                rw [show (I15377 6) = (I10822 6) from ((hI15377 6 rfl).trans (hI10836 6 rfl))] at r15380
                show GW κ 4 0 0 (wM r g I15377 A15377 L15377) 71 [(3, .int x10832), (2, .int (I 4)), (1, .int y10818), (0, .ref (r 0))] []
                obtain ⟨y15382, ey15382⟩ : ∃ y : Int32, y = x10832 + Int32.ofInt 1 := ⟨_, rfl⟩
                have hy15382 : y15382.toInt = x10832.toInt + 1 := i32_add ey15382 rfl (by decide) (by omega) (by omega)
                refine g_iinc (v := y15382) (lv' := [(3, .int y15382), (2, .int (I 4)), (1, .int y10818), (0, .ref (r 0))]) hk 0 dX12_tellQuery_71 rfl ey15382.symm (by decide) rfl ?_
                refine g_goto (tgt := 34) hk dX12_tellQuery_74 (by decide) ?_
                exact g_lv (List.forall_mem_cons.mpr ⟨List.mem_of_getElem? (i := 0) rfl, (List.forall_mem_cons.mpr ⟨List.mem_of_getElem? (i := 1) rfl, (List.forall_mem_cons.mpr ⟨List.mem_of_getElem? (i := 2) rfl, (List.forall_mem_cons.mpr ⟨List.mem_of_getElem? (i := 3) rfl, (fun _ h => absurd h List.not_mem_nil)⟩)⟩)⟩)⟩) (ih14443 y15382 I15377 A15377 L15377 (show Md [8, 9, 13] I10822 I15377 from Md.tr hI10836 (show Md [8, 9, 13] I10836 I15377 from (Md.tr Md.rf hI15377 rfl)) rfl) (show Md [] A10822 A15377 from Md.tr hA10836 (show Md [] A10836 A15377 from (Md.tr Md.rf hA15377 rfl)) rfl) hV15377 (by omega) (by omega) (by first | (rw [show (I15377 4) = (I10822 4) from ((hI15377 4 rfl).trans (hI10836 4 rfl))] <;> omega) | omega) (by first | (rw [show (I15377 6) = (I10822 6) from ((hI15377 6 rfl).trans (hI10836 6 rfl))] <;> omega) | omega) (by omega) (by omega) (by omega))
      have k15383 : (0 : Int32).toInt = 0 := rfl
      obtain ⟨n15384, n15384a, n15384b⟩ : ∃ n : Nat, 6 - (0 : Int32).toInt < (n : Int) ∧ 0 < n := ⟨((6 - (0 : Int32).toInt : Int)).toNat + 1, by omega, by omega⟩
      exact lp14440 n15384 0 I10822 A10822 L10822 Md.rf Md.rf hV10822 (by omega) (by omega) (by omega) (by omega) (by first | (rw [show (I10822 8) = (I 8) from (hI10822 8 rfl)] <;> omega) | omega) n15384a n15384b
    exfalso; omega
  exfalso; omega
