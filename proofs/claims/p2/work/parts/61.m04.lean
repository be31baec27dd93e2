def wo_j116_X12_read : List Cond := [Cond.fieldLink RX12 124 "WarpDeskModel" "taped" "I", Cond.fieldLink RX12 130 "WarpDeskModel" "size" "I", Cond.methodLink RX12 194 yX12_cut, Cond.instanceMethod yX12_cut, Cond.selects RX12 yX12_cut yX12_cut, Cond.initialized RX12, Cond.fieldLink RX12 164 "WarpDeskModel" "t" "I", Cond.fieldLink RX12 161 "WarpDeskModel" "fault" "I", Cond.fieldLink RX12 176 "WarpDeskModel" "worst" "I", Cond.fieldLink RX12 170 "WarpDeskModel" "here" "I", Cond.fieldLink RX12 197 "WarpDeskModel" "live" "I", Cond.fieldLink RX12 200 "WarpDeskModel" "side" "I", Cond.fieldLink RX12 203 "WarpDeskModel" "names" "I", Cond.methodLink RX12 107 yX12_plain, Cond.instanceMethod yX12_plain, Cond.selects RX12 yX12_plain yX12_plain, Cond.methodLink RX12 188 yX12_is, Cond.instanceMethod yX12_is, Cond.selects RX12 yX12_is yX12_is, Cond.methodLink RX12 206 yX12_tellOne, Cond.instanceMethod yX12_tellOne, Cond.selects RX12 yX12_tellOne yX12_tellOne, Cond.fieldLink RX12 37 "WarpDeskModel" "place" "I", Cond.fieldLink RX12 111 "WarpDeskModel" "cause" "I", Cond.methodLink RX12 118 yX12_begins, Cond.instanceMethod yX12_begins, Cond.selects RX12 yX12_begins yX12_begins, Cond.methodLink RX12 121 yX12_keepsRow, Cond.instanceMethod yX12_keepsRow, Cond.selects RX12 yX12_keepsRow yX12_keepsRow, Cond.fieldLink RX12 209 "WarpDeskModel" "undos" "I", Cond.fieldLink RX12 100 "WarpDeskModel" "isHeld" "[Z", Cond.fieldLink RX12 167 "WarpDeskModel" "faultPlace" "I", Cond.fieldLink RX12 173 "WarpDeskModel" "faultCause" "I", Cond.fieldLink RX12 179 "WarpDeskModel" "worstPlace" "I", Cond.fieldLink RX12 182 "WarpDeskModel" "worstCause" "I", Cond.fieldLink RX12 17 "WarpDeskModel" "text" "[B", Cond.fieldLink RX12 13 "WarpDeskModel" "tape" "[B"]
def wz_j116_X12_read : List Cond := .code yX12_read cX12_read 2 (some .int) :: (wo_j116_X12_read ++ (wsX120 ++ (wz_j117_X12_cut ++ (wz_j124_X12_plain ++ (wz_j125_X12_is ++ (wz_j126_X12_tellOne ++ (wz_j138_X12_begins ++ (wz_j139_X12_keepsRow ++ ([] : List Cond)))))))))
theorem zg_j116_X12_read : ∀ w ∈ wz_j116_X12_read, goodWord w = true := zg_cons rfl (zg_app (by decide +kernel) (zg_app zgU_wsX120 (zg_app zg_j117_X12_cut (zg_app zg_j124_X12_plain (zg_app zg_j125_X12_is (zg_app zg_j126_X12_tellOne (zg_app zg_j138_X12_begins (zg_app zg_j139_X12_keepsRow zg_nil))))))))
theorem zi_j116_X12_read : ∀ w ∈ wz_j116_X12_read, w ∈ lw_tbl := zi_cons zw_1560 (zi_app (zi_cons zw_1381 (zi_cons zw_1383 (zi_cons zw_1561 (zi_cons zw_1563 (zi_cons zw_48 (zi_cons zw_115 (zi_cons zw_1390 (zi_cons zw_1391 (zi_cons zw_1393 (zi_cons zw_1396 (zi_cons zw_1400 (zi_cons zw_1401 (zi_cons zw_1402 (zi_cons zw_1361 (zi_cons zw_1363 (zi_cons zw_44 (zi_cons zw_1583 (zi_cons zw_1585 (zi_cons zw_52 (zi_cons zw_1587 (zi_cons zw_1589 (zi_cons zw_53 (zi_cons zw_1395 (zi_cons zw_1399 (zi_cons zw_1372 (zi_cons zw_1374 (zi_cons zw_45 (zi_cons zw_1376 (zi_cons zw_1378 (zi_cons zw_46 (zi_cons zw_1422 (zi_cons zw_1431 (zi_cons zw_1392 (zi_cons zw_1397 (zi_cons zw_1394 (zi_cons zw_1398 (zi_cons zw_1382 (zi_cons zw_1380 zi_nil)))))))))))))))))))))))))))))))))))))) (zi_app inX12 (zi_app zi_j117_X12_cut (zi_app zi_j124_X12_plain (zi_app zi_j125_X12_is (zi_app zi_j126_X12_tellOne (zi_app zi_j138_X12_begins (zi_app zi_j139_X12_keepsRow zi_nil))))))))
set_option maxHeartbeats 4000000 in
set_option maxRecDepth 100000 in
theorem j116_X12_read (l : Launch) (D : va_G) (zt : Nat × Nat × Nat × (Nat → Nat) × (Nat → Nat)) (r : Nat → Nat) (g : Nat → ClassId) (I : Nat → Int32) (A : Nat → Nat → Int32) (L : Nat → Nat → Int64) (hIv : IvM I A) : GM l D zt (tyM g) yX12_read wz_j116_X12_read ({ frames := 6, cells := 0, slots := 0, locals := 129 } : Room) [.ref (r 0)] (wM r g I A L) (fun v _ w' => ∃ (I' : Nat → Int32) (A' : Nat → Nat → Int32) (L' : Nat → Nat → Int64), Md [1, 2, 3, 4, 6, 7, 8, 9, 10, 11, 12, 13, 14, 15, 16, 17, 22] I I' ∧ Md [1, 2, 3, 4, 8, 9, 10, 11, 12, 13, 14, 15, 16, 17, 18, 27] A A' ∧ IvM I' A' ∧ ∃ y0 : Int32, ((I' 1).toInt = 0) ∧ (0 ≤ y0.toInt) ∧ (y0.toInt ≤ 9) ∧ v = some (.int y0) ∧ w' = wM r g I' A' L') 0 0 := by
  refine GM.of (cc := cX12_read) (maxL := 2) (ret := (some .int)) (own := RX12) (lv := [(0, .ref (r 0))]) (by decide) rfl rfl (Nat.le_of_ble_eq_true rfl) rfl (fun κ sz hk hR hN => ?_)
  have hin12 : ∀ w ∈ u_ws RX12 TX12 55, w ∈ wz_j116_X12_read := fun w h => (List.mem_cons_of_mem _ (List.mem_append_right _ (List.mem_append_left _ h)))
  refine g_aload_n hk dX12_read_0 rfl ?_
  refine g_aload_n hk dX12_read_1 rfl ?_
  refine gM_i1 (v := (I 1)) hk hin12 (List.mem_cons_of_mem _ (List.mem_append_left _ (List.mem_of_getElem? (i := 0) rfl))) dX12_read_2 rfl ?_
  have f321 := IvM_f1 hIv
  refine pM_i2 hk hin12 (List.mem_cons_of_mem _ (List.mem_append_left _ (List.mem_of_getElem? (i := 1) rfl))) dX12_read_5 ?_
  refine g_iconst (v := 0) hk dX12_read_8 (by decide) ?_
  refine g_istore_n (lv' := [(1, .int 0), (0, .ref (r 0))]) hk dX12_read_9 (by decide) rfl ?_
  have lp17538 : ∀ (n17539 : Nat) (x322 : Int32) (I324 : Nat → Int32) (A324 : Nat → Nat → Int32) (L324 : Nat → Nat → Int64), (Md [2] (upd I 2 (I 1)) I324) → (Md [1] A A324) → (IvM I324 A324) → (0 ≤ x322.toInt) → (x322.toInt ≤ 2000) → (2001 - x322.toInt < (n17539 : Int)) → (0 < n17539) → GW κ 2 0 0 (wM r g I324 A324 L324) 10 [(1, .int x322), (0, .ref (r 0))] [] := by
    intro n17539
    induction n17539 with
    | zero =>
      intro x322 I324 A324 L324 hI324 hA324 hV324 h17536 h17537 m17540 m17540z
      exact absurd m17540z (Nat.lt_irrefl 0)
    | succ n17539 ih17541 =>
      intro x322 I324 A324 L324 hI324 hA324 hV324 h17536 h17537 m17540 m17540z
      refine g_iload_n hk dX12_read_10 rfl ?_
      refine g_aload_n hk dX12_read_11 rfl ?_
      refine gM_i2 (v := (I324 2)) hk hin12 (List.mem_cons_of_mem _ (List.mem_append_left _ (List.mem_of_getElem? (i := 1) rfl))) dX12_read_12 rfl ?_
      have f17542 := IvM_f2 hV324
      refine g_icmp_ge (tgt := 36) (a := x322.toInt) (b := (I324 2).toInt) hk dX12_read_15 (by decide) rfl rfl (fun c17543 => ?_) (fun c17543 => ?_)
      · skip
        refine g_aload_n hk dX12_read_36 rfl ?_
        refine g_iconst (v := 0) hk dX12_read_37 (by decide) ?_
        refine pM_i1 hk hin12 (List.mem_cons_of_mem _ (List.mem_append_left _ (List.mem_of_getElem? (i := 0) rfl))) dX12_read_38 ?_
        refine g_aload_n hk dX12_read_41 rfl ?_
        refine g_callV (n := 0) hk (j117_X12_cut l D zt r g (upd I324 1 0) A324 L324  ⟨(show 0 ≤ (0 : Int32).toInt ∧ (0 : Int32).toInt ≤ 2000 from ⟨by decide, by decide⟩), (IvM_f2 (I := I324) (A := A324) hV324), (IvM_f3 (I := I324) (A := A324) hV324), (IvM_f4 (I := I324) (A := A324) hV324), (IvM_f6 (I := I324) (A := A324) hV324), (IvM_f8 (I := I324) (A := A324) hV324), (IvM_f15 (I := I324) (A := A324) hV324), (IvM_f16 (I := I324) (A := A324) hV324), (IvM_f17 (I := I324) (A := A324) hV324), (IvM_f18 (I := I324) (A := A324) hV324), (IvM_f22 (I := I324) (A := A324) hV324), (IvM_f23 (I := I324) (A := A324) hV324), (IvM_f24 (I := I324) (A := A324) hV324), (IvM_a11 (I := I324) (A := A324) hV324), (IvM_a26 (I := I324) (A := A324) hV324), (IvM_s8_0 (I := I324) (A := A324) hV324), (IvM_s8_1 (I := I324) (A := A324) hV324), (IvM_s10_0 (I := I324) (A := A324) hV324), (IvM_s10_1 (I := I324) (A := A324) hV324), (IvM_s17_0 (I := I324) (A := A324) hV324), (IvM_s17_164 (I := I324) (A := A324) hV324), (IvM_lv (I := I324) (A := A324) hV324), (IvM_sd (I := I324) (A := A324) hV324), (IvM_nq (I := I324) (A := A324) hV324), (IvM_hr (I := I324) (A := A324) hV324), (IvM_hh (I := I324) (A := A324) hV324), trivial⟩) (SP.same _) (fun _ h => h) (gi_V (List.mem_cons_of_mem _ (List.mem_append_left _ (List.mem_of_getElem? (i := 2) rfl))) (List.mem_cons_of_mem _ (List.mem_append_left _ (List.mem_of_getElem? (i := 3) rfl))) (List.mem_cons_of_mem _ (List.mem_append_left _ (List.mem_of_getElem? (i := 4) rfl))) (List.mem_cons_of_mem _ (List.mem_append_left _ (List.mem_of_getElem? (i := 5) rfl))) (gi_sub (fun w h => (List.mem_cons_of_mem _ (List.mem_append_right _ (List.mem_append_right _ (List.mem_append_left _ h))))) zg_j117_X12_cut)) rfl rfl rfl (by decide +kernel) ⟨Nat.le_of_ble_eq_true rfl, Nat.le_of_ble_eq_true rfl⟩ 0 rfl rfl rfl rfl (Nat.le_of_ble_eq_true rfl) ⟨Nat.le_of_ble_eq_true rfl, Nat.le_of_ble_eq_true rfl⟩ dX12_read_42 (fun v ty' w' hp hk' => ?_)
        obtain ⟨I17545, A17545, L17545, hI17545, hA17545, hV17545, rfl, rfl⟩ := hp
        show GW κ 2 0 0 (wM r g I17545 A17545 L17545) 45 [(1, .int x322), (0, .ref (r 0))] []
        refine g_aload_n hk dX12_read_45 rfl ?_
        refine g_iconst (v := 0) hk dX12_read_46 (by decide) ?_
        refine pM_i4 hk hin12 (List.mem_cons_of_mem _ (List.mem_append_left _ (List.mem_of_getElem? (i := 6) rfl))) dX12_read_47 ?_
        refine g_aload_n hk dX12_read_50 rfl ?_
        refine g_iconst (v := 0) hk dX12_read_51 (by decide) ?_
        refine pM_i6 hk hin12 (List.mem_cons_of_mem _ (List.mem_append_left _ (List.mem_of_getElem? (i := 7) rfl))) dX12_read_52 ?_
        refine g_aload_n hk dX12_read_55 rfl ?_
        refine g_iconst (v := 0) hk dX12_read_56 (by decide) ?_
        refine pM_i8 hk hin12 (List.mem_cons_of_mem _ (List.mem_append_left _ (List.mem_of_getElem? (i := 8) rfl))) dX12_read_57 ?_
        refine g_aload_n hk dX12_read_60 rfl ?_
        refine g_bipush (v := (-2)) hk dX12_read_61 (by decide) ?_
        refine pM_i11 hk hin12 (List.mem_cons_of_mem _ (List.mem_append_left _ (List.mem_of_getElem? (i := 9) rfl))) dX12_read_63 ?_
        refine g_aload_n hk dX12_read_66 rfl ?_
        refine g_iconst (v := 1) hk dX12_read_67 (by decide) ?_
        refine g_aload_n hk dX12_read_68 rfl ?_
        refine gM_i15 (v := (I 15)) hk hin12 (List.mem_cons_of_mem _ (List.mem_append_left _ (List.mem_of_getElem? (i := 10) rfl))) dX12_read_69 ((hI17545 15 rfl).trans (hI324 15 rfl)) ?_
        have f17546 := IvM_f15 hIv
        by_cases c17547 : (I 15).toInt = 0
        · have ec17547 : (I 15) = 0 := Int32.toInt_inj.mp c17547
          rw [ec17547]
          show GW κ 2 0 0 (wM r g (upd (upd (upd (upd I17545 4 0) 6 0) 8 0) 11 (-2)) A17545 L17545) 72 [(1, .int x322), (0, .ref (r 0))] [.int 0, .int 1, .ref (r 0)]
          refine g_isub hk dX12_read_72 ?_
          refine g_norm (v := 1) (by decide) ?_
          refine pM_i16 hk hin12 (List.mem_cons_of_mem _ (List.mem_append_left _ (List.mem_of_getElem? (i := 11) rfl))) dX12_read_73 ?_
          refine g_aload_n hk dX12_read_76 rfl ?_
          refine g_iconst (v := 0) hk dX12_read_77 (by decide) ?_
          refine pM_i17 hk hin12 (List.mem_cons_of_mem _ (List.mem_append_left _ (List.mem_of_getElem? (i := 12) rfl))) dX12_read_78 ?_
          refine g_aload_n hk dX12_read_81 rfl ?_
          refine g_aload_n hk dX12_read_82 rfl ?_
          refine gM_i16 (v := 1) hk hin12 (List.mem_cons_of_mem _ (List.mem_append_left _ (List.mem_of_getElem? (i := 11) rfl))) dX12_read_83 rfl ?_
          have k17548 : (1 : Int32).toInt = 1 := rfl
          refine g_callV (n := 1) hk (j124_X12_plain l D zt r g (upd (upd (upd (upd (upd (upd I17545 4 0) 6 0) 8 0) 11 (-2)) 16 1) 17 0) A17545 L17545 1  (by decide) (by decide)) (SP.same _) (fun _ h => h) (gi_V (List.mem_cons_of_mem _ (List.mem_append_left _ (List.mem_of_getElem? (i := 13) rfl))) (List.mem_cons_of_mem _ (List.mem_append_left _ (List.mem_of_getElem? (i := 14) rfl))) (List.mem_cons_of_mem _ (List.mem_append_left _ (List.mem_of_getElem? (i := 15) rfl))) (List.mem_cons_of_mem _ (List.mem_append_left _ (List.mem_of_getElem? (i := 5) rfl))) (gi_sub (fun w h => (List.mem_cons_of_mem _ (List.mem_append_right _ (List.mem_append_right _ (List.mem_append_right _ (List.mem_append_left _ h)))))) zg_j124_X12_plain)) rfl rfl rfl (by decide +kernel) ⟨Nat.le_of_ble_eq_true rfl, Nat.le_of_ble_eq_true rfl⟩ 0 rfl rfl rfl rfl (Nat.le_of_ble_eq_true rfl) ⟨Nat.le_of_ble_eq_true rfl, Nat.le_of_ble_eq_true rfl⟩ dX12_read_86 (fun v ty' w' hp hk' => ?_)
          obtain ⟨rfl, rfl⟩ := hp
          show GW κ 2 0 0 (wM r g (upd (upd (upd (upd (upd (upd I17545 4 0) 6 0) 8 0) 11 (-2)) 16 1) 17 0) (up3 (up3 (up3 (up3 (up3 (up3 A17545 8 1 0) 10 1 0) 13 1 2) 14 1 0) 15 1 0) 16 1 8) L17545) 89 [(1, .int x322), (0, .ref (r 0))] []
          have lp17668 : ∀ (n17669 : Nat) (I17551 : Nat → Int32) (A17551 : Nat → Nat → Int32) (L17551 : Nat → Nat → Int64), (Md [4, 6, 7, 8, 9, 11, 12, 13, 16, 17] (upd (upd (upd (upd (upd (upd I17545 4 0) 6 0) 8 0) 11 (-2)) 16 1) 17 0) I17551) → (Md [8, 9, 10, 11, 12, 13, 14, 15, 16] (up3 (up3 (up3 (up3 (up3 (up3 A17545 8 1 0) 10 1 0) 13 1 2) 14 1 0) 15 1 0) 16 1 8) A17551) → (IvM I17551 A17551) → (10 * (401 - (I17551 4).toInt) + (10 - (I17551 6).toInt) < (n17669 : Int)) → (0 < n17669) → GW κ 2 0 0 (wM r g I17551 A17551 L17551) 89 [(1, .int x322), (0, .ref (r 0))] [] := by
            intro n17669
            induction n17669 with
            | zero =>
              intro I17551 A17551 L17551 hI17551 hA17551 hV17551 m17670 m17670z
              exact absurd m17670z (Nat.lt_irrefl 0)
            | succ n17669 ih17671 =>
              intro I17551 A17551 L17551 hI17551 hA17551 hV17551 m17670 m17670z
              have f17672 := IvM_f4 hV17551
              have f17673 := IvM_f6 hV17551
              refine g_aload_n hk dX12_read_89 rfl ?_
              refine gM_i6 (v := (I17551 6)) hk hin12 (List.mem_cons_of_mem _ (List.mem_append_left _ (List.mem_of_getElem? (i := 7) rfl))) dX12_read_90 rfl ?_
              refine g_if_ne (tgt := 111) (a := (I17551 6).toInt) hk dX12_read_93 (by decide) rfl (fun c17674 => ?_) (fun c17674 => ?_)
              · skip
                refine g_aload_n hk dX12_read_111 rfl ?_
                refine g_aload_n hk dX12_read_112 rfl ?_
                refine gM_i6 (v := (I17551 6)) hk hin12 (List.mem_cons_of_mem _ (List.mem_append_left _ (List.mem_of_getElem? (i := 7) rfl))) dX12_read_113 rfl ?_
                refine g_if_le (tgt := 126) (a := (I17551 6).toInt) hk dX12_read_116 (by decide) rfl (fun z9 => absurd z9 (show ¬ ((I17551 6).toInt ≤ 0) from by omega)) (fun _ => ?_)
                refine g_aload_n hk dX12_read_119 rfl ?_
                refine gM_i7 (v := (I17551 7)) hk hin12 (List.mem_cons_of_mem _ (List.mem_append_left _ (List.mem_of_getElem? (i := 32) rfl))) dX12_read_120 rfl ?_
                refine g_goto (tgt := 141) hk dX12_read_123 (by decide) ?_
                refine pM_i10 hk hin12 (List.mem_cons_of_mem _ (List.mem_append_left _ (List.mem_of_getElem? (i := 22) rfl))) dX12_read_141 ?_
                refine g_aload_n hk dX12_read_144 rfl ?_
                refine g_aload_n hk dX12_read_145 rfl ?_
                refine gM_i6 (v := (I17551 6)) hk hin12 (List.mem_cons_of_mem _ (List.mem_append_left _ (List.mem_of_getElem? (i := 7) rfl))) dX12_read_146 rfl ?_
                refine g_if_le (tgt := 159) (a := (I17551 6).toInt) hk dX12_read_149 (by decide) rfl (fun z9 => absurd z9 (show ¬ ((I17551 6).toInt ≤ 0) from by omega)) (fun _ => ?_)
                refine g_aload_n hk dX12_read_152 rfl ?_
                refine gM_i12 (v := (I17551 12)) hk hin12 (List.mem_cons_of_mem _ (List.mem_append_left _ (List.mem_of_getElem? (i := 33) rfl))) dX12_read_153 rfl ?_
                refine g_goto (tgt := 174) hk dX12_read_156 (by decide) ?_
                refine pM_i14 hk hin12 (List.mem_cons_of_mem _ (List.mem_append_left _ (List.mem_of_getElem? (i := 23) rfl))) dX12_read_174 ?_
                refine g_aload_n hk dX12_read_177 rfl ?_
                refine gM_i6 (v := (I17551 6)) hk hin12 (List.mem_cons_of_mem _ (List.mem_append_left _ (List.mem_of_getElem? (i := 7) rfl))) dX12_read_178 rfl ?_
                refine g_if_le (tgt := 189) (a := (I17551 6).toInt) hk dX12_read_181 (by decide) rfl (fun z9 => absurd z9 (show ¬ ((I17551 6).toInt ≤ 0) from by omega)) (fun _ => ?_)
                refine g_aload_n hk dX12_read_184 rfl ?_
                refine gM_i6 (v := (I17551 6)) hk hin12 (List.mem_cons_of_mem _ (List.mem_append_left _ (List.mem_of_getElem? (i := 7) rfl))) dX12_read_185 rfl ?_
                have k17675 : (0 : Int32).toInt = 0 := rfl
                exact g_iret hk hR rfl ⟨(upd (upd I17551 10 (I17551 7)) 14 (I17551 12)), A17551, L17551, (show Md [1, 2, 3, 4, 6, 7, 8, 9, 10, 11, 12, 13, 14, 15, 16, 17, 22] I (upd (upd I17551 10 (I17551 7)) 14 (I17551 12)) from (Md.up (Md.up (Md.tr (Md.up (Md.up (Md.up (Md.up (Md.up (Md.up (Md.tr (Md.up (Md.tr (Md.up Md.rf rfl) hI324 rfl) rfl) hI17545 rfl) rfl) rfl) rfl) rfl) rfl) rfl) hI17551 rfl) rfl) rfl)), (show Md [1, 2, 3, 4, 8, 9, 10, 11, 12, 13, 14, 15, 16, 17, 18, 27] A A17551 from (Md.tr (Md.up3 (Md.up3 (Md.up3 (Md.up3 (Md.up3 (Md.up3 (Md.tr (Md.tr Md.rf hA324 rfl) hA17545 rfl) rfl) rfl) rfl) rfl) rfl) rfl) hA17551 rfl)), ⟨(IvM_f1 (I := I17551) (A := A17551) hV17551), (IvM_f2 (I := I17551) (A := A17551) hV17551), (IvM_f3 (I := I17551) (A := A17551) hV17551), (IvM_f4 (I := I17551) (A := A17551) hV17551), (IvM_f6 (I := I17551) (A := A17551) hV17551), (IvM_f8 (I := I17551) (A := A17551) hV17551), (IvM_f15 (I := I17551) (A := A17551) hV17551), (IvM_f16 (I := I17551) (A := A17551) hV17551), (IvM_f17 (I := I17551) (A := A17551) hV17551), (IvM_f18 (I := I17551) (A := A17551) hV17551), (IvM_f22 (I := I17551) (A := A17551) hV17551), (IvM_f23 (I := I17551) (A := A17551) hV17551), (IvM_f24 (I := I17551) (A := A17551) hV17551), (IvM_a11 (I := I17551) (A := A17551) hV17551), (IvM_a26 (I := I17551) (A := A17551) hV17551), (IvM_s8_0 (I := I17551) (A := A17551) hV17551), (IvM_s8_1 (I := I17551) (A := A17551) hV17551), (IvM_s10_0 (I := I17551) (A := A17551) hV17551), (IvM_s10_1 (I := I17551) (A := A17551) hV17551), (IvM_s17_0 (I := I17551) (A := A17551) hV17551), (IvM_s17_164 (I := I17551) (A := A17551) hV17551), (IvM_lv (I := I17551) (A := A17551) hV17551), (IvM_sd (I := I17551) (A := A17551) hV17551), (IvM_nq (I := I17551) (A := A17551) hV17551), (IvM_hr (I := I17551) (A := A17551) hV17551), (IvM_hh (I := I17551) (A := A17551) hV17551), trivial⟩, (I17551 6), (by rw [show (upd (upd I17551 10 (I17551 7)) 14 (I17551 12)) 1 = 0 from ((hI17551 1 rfl).trans (hI17545 1 rfl))]; omega), (by omega), (by omega), rfl, rfl⟩ dX12_read_188
              · skip
                refine g_aload_n hk dX12_read_96 rfl ?_
                refine g_iconst (v := 0) hk dX12_read_97 (by decide) ?_
                have k17676 : (0 : Int32).toInt = 0 := rfl
                refine g_callV (n := 1) hk (j125_X12_is l D zt r g I17551 A17551 L17551 0 hV17551) (SP.same _) (fun _ h => h) (gi_V (List.mem_cons_of_mem _ (List.mem_append_left _ (List.mem_of_getElem? (i := 16) rfl))) (List.mem_cons_of_mem _ (List.mem_append_left _ (List.mem_of_getElem? (i := 17) rfl))) (List.mem_cons_of_mem _ (List.mem_append_left _ (List.mem_of_getElem? (i := 18) rfl))) (List.mem_cons_of_mem _ (List.mem_append_left _ (List.mem_of_getElem? (i := 5) rfl))) (gi_sub (fun w h => (List.mem_cons_of_mem _ (List.mem_append_right _ (List.mem_append_right _ (List.mem_append_right _ (List.mem_append_right _ (List.mem_append_left _ h))))))) zg_j125_X12_is)) rfl rfl rfl (by decide +kernel) ⟨Nat.le_of_ble_eq_true rfl, Nat.le_of_ble_eq_true rfl⟩ 0 rfl rfl rfl rfl (Nat.le_of_ble_eq_true rfl) ⟨Nat.le_of_ble_eq_true rfl, Nat.le_of_ble_eq_true rfl⟩ dX12_read_98 (fun v ty' w' hp hk' => ?_)
                rcases hp with ⟨c17677, rfl, rfl⟩ | ⟨c17679, rfl, rfl⟩
                · skip
                  rw [show (A17551 2 (I17551 4).toNatClampNeg) = (A17545 2 (I17551 4).toNatClampNeg) from (congrFun (hA17551 2 rfl) _)] at c17677
                  show GW κ 2 0 0 (wM r g I17551 A17551 L17551) 101 [(1, .int x322), (0, .ref (r 0))] [.int 0]
                  refine g_if_ne (tgt := 111) (a := 0) hk dX12_read_101 (by decide) rfl (fun z9 => absurd z9 (show ¬ ((0 : Int) ≠ (0 : Int)) from by decide)) (fun _ => ?_)
                  refine g_aload_n hk dX12_read_104 rfl ?_
                  have f17681 := IvM_f16 hV17551
                  refine g_callV (n := 0) hk (j126_X12_tellOne l D zt r g I17551 A17551 L17551  hV17551 (by first | (rw [show (I17551 15) = (I 15) from ((hI17551 15 rfl).trans ((hI17545 15 rfl).trans (hI324 15 rfl)))] <;> omega) | omega)) (SP.same _) (fun _ h => h) (gi_V (List.mem_cons_of_mem _ (List.mem_append_left _ (List.mem_of_getElem? (i := 19) rfl))) (List.mem_cons_of_mem _ (List.mem_append_left _ (List.mem_of_getElem? (i := 20) rfl))) (List.mem_cons_of_mem _ (List.mem_append_left _ (List.mem_of_getElem? (i := 21) rfl))) (List.mem_cons_of_mem _ (List.mem_append_left _ (List.mem_of_getElem? (i := 5) rfl))) (gi_sub (fun w h => (List.mem_cons_of_mem _ (List.mem_append_right _ (List.mem_append_right _ (List.mem_append_right _ (List.mem_append_right _ (List.mem_append_right _ (List.mem_append_left _ h)))))))) zg_j126_X12_tellOne)) rfl rfl rfl (by decide +kernel) ⟨Nat.le_of_ble_eq_true rfl, Nat.le_of_ble_eq_true rfl⟩ 0 rfl rfl rfl rfl (Nat.le_of_ble_eq_true rfl) ⟨Nat.le_of_ble_eq_true rfl, Nat.le_of_ble_eq_true rfl⟩ dX12_read_105 (fun v ty' w' hp hk' => ?_)
                  obtain ⟨I17683, A17683, L17683, hI17683, hA17683, hV17683, r17684, r17685, r17686, r17687, rfl, rfl⟩ := hp
                  have f17688 := IvM_f4 hV17683
                  have f17689 := IvM_f6 hV17683
                  have f17690 := IvM_f8 hV17551
                  have f17691 := IvM_f8 hV17683
                  show GW κ 2 0 0 (wM r g I17683 A17683 L17683) 108 [(1, .int x322), (0, .ref (r 0))] []
                  refine g_goto (tgt := 89) hk dX12_read_108 (by decide) ?_
                  exact g_lv (List.forall_mem_cons.mpr ⟨List.mem_of_getElem? (i := 0) rfl, (List.forall_mem_cons.mpr ⟨List.mem_of_getElem? (i := 1) rfl, (fun _ h => absurd h List.not_mem_nil)⟩)⟩) (ih17671 I17683 A17683 L17683 (show Md [4, 6, 7, 8, 9, 11, 12, 13, 16, 17] (upd (upd (upd (upd (upd (upd I17545 4 0) 6 0) 8 0) 11 (-2)) 16 1) 17 0) I17683 from Md.tr hI17551 (show Md [4, 6, 7, 8, 9, 11, 12, 13, 16, 17] I17551 I17683 from (Md.tr Md.rf hI17683 rfl)) rfl) (show Md [8, 9, 10, 11, 12, 13, 14, 15, 16] (up3 (up3 (up3 (up3 (up3 (up3 A17545 8 1 0) 10 1 0) 13 1 2) 14 1 0) 15 1 0) 16 1 8) A17683 from Md.tr hA17551 (show Md [8, 9, 10, 11, 12, 13, 14, 15, 16] A17551 A17683 from (Md.tr Md.rf hA17683 rfl)) rfl) hV17683 (by omega) (by omega))
                · skip
                  rw [show (A17551 2 (I17551 4).toNatClampNeg) = (A17545 2 (I17551 4).toNatClampNeg) from (congrFun (hA17551 2 rfl) _)] at c17679
                  show GW κ 2 0 0 (wM r g I17551 A17551 L17551) 101 [(1, .int x322), (0, .ref (r 0))] [.int 1]
                  refine g_if_ne (tgt := 111) (a := 1) hk dX12_read_101 (by decide) rfl (fun _ => ?_) (fun z9 => absurd (show (1 : Int) ≠ (0 : Int) from by decide) z9)
                  refine g_aload_n hk dX12_read_111 rfl ?_
                  refine g_aload_n hk dX12_read_112 rfl ?_
                  refine gM_i6 (v := (I17551 6)) hk hin12 (List.mem_cons_of_mem _ (List.mem_append_left _ (List.mem_of_getElem? (i := 7) rfl))) dX12_read_113 rfl ?_
                  refine g_if_le (tgt := 126) (a := (I17551 6).toInt) hk dX12_read_116 (by decide) rfl (fun _ => ?_) (fun z9 => absurd (show (I17551 6).toInt ≤ 0 from by omega) z9)
                  refine g_aload_n hk dX12_read_126 rfl ?_
                  refine gM_i8 (v := (I17551 8)) hk hin12 (List.mem_cons_of_mem _ (List.mem_append_left _ (List.mem_of_getElem? (i := 8) rfl))) dX12_read_127 rfl ?_
                  have f17692 := IvM_f8 hV17551
                  refine g_if_le (tgt := 140) (a := (I17551 8).toInt) hk dX12_read_130 (by decide) rfl (fun c17693 => ?_) (fun c17693 => ?_)
                  · skip
                    refine g_iconst (v := (-1)) hk dX12_read_140 (by decide) ?_
                    refine pM_i10 hk hin12 (List.mem_cons_of_mem _ (List.mem_append_left _ (List.mem_of_getElem? (i := 22) rfl))) dX12_read_141 ?_
                    refine g_aload_n hk dX12_read_144 rfl ?_
                    refine g_aload_n hk dX12_read_145 rfl ?_
                    refine gM_i6 (v := (I17551 6)) hk hin12 (List.mem_cons_of_mem _ (List.mem_append_left _ (List.mem_of_getElem? (i := 7) rfl))) dX12_read_146 rfl ?_
                    refine g_if_le (tgt := 159) (a := (I17551 6).toInt) hk dX12_read_149 (by decide) rfl (fun _ => ?_) (fun z9 => absurd (show (I17551 6).toInt ≤ 0 from by omega) z9)
                    refine g_aload_n hk dX12_read_159 rfl ?_
                    refine gM_i8 (v := (I17551 8)) hk hin12 (List.mem_cons_of_mem _ (List.mem_append_left _ (List.mem_of_getElem? (i := 8) rfl))) dX12_read_160 rfl ?_
                    refine g_if_le (tgt := 173) (a := (I17551 8).toInt) hk dX12_read_163 (by decide) rfl (fun _ => ?_) (fun z9 => absurd (show (I17551 8).toInt ≤ 0 from by omega) z9)
                    refine g_iconst (v := (-1)) hk dX12_read_173 (by decide) ?_
                    refine pM_i14 hk hin12 (List.mem_cons_of_mem _ (List.mem_append_left _ (List.mem_of_getElem? (i := 23) rfl))) dX12_read_174 ?_
                    refine g_aload_n hk dX12_read_177 rfl ?_
                    refine gM_i6 (v := (I17551 6)) hk hin12 (List.mem_cons_of_mem _ (List.mem_append_left _ (List.mem_of_getElem? (i := 7) rfl))) dX12_read_178 rfl ?_
                    refine g_if_le (tgt := 189) (a := (I17551 6).toInt) hk dX12_read_181 (by decide) rfl (fun _ => ?_) (fun z9 => absurd (show (I17551 6).toInt ≤ 0 from by omega) z9)
                    refine g_aload_n hk dX12_read_189 rfl ?_
                    refine gM_i8 (v := (I17551 8)) hk hin12 (List.mem_cons_of_mem _ (List.mem_append_left _ (List.mem_of_getElem? (i := 8) rfl))) dX12_read_190 rfl ?_
                    refine g_if_le (tgt := 201) (a := (I17551 8).toInt) hk dX12_read_193 (by decide) rfl (fun _ => ?_) (fun z9 => absurd (show (I17551 8).toInt ≤ 0 from by omega) z9)
                    refine g_aload_n hk dX12_read_201 rfl ?_
                    refine g_aload_n hk dX12_read_202 rfl ?_
                    refine gM_i16 (v := (I17551 16)) hk hin12 (List.mem_cons_of_mem _ (List.mem_append_left _ (List.mem_of_getElem? (i := 11) rfl))) dX12_read_203 rfl ?_
                    have f17694 := IvM_f16 hV17551
                    by_cases c17695 : (I17551 16).toInt = 0
                    · have ec17695 : (I17551 16) = 0 := Int32.toInt_inj.mp c17695
                      rw [ec17695]
                      show GW κ 2 0 0 (wM r g (upd (upd I17551 10 (-1)) 14 (-1)) A17551 L17551) 206 [(1, .int x322), (0, .ref (r 0))] [.int 0, .ref (r 0)]
                      refine pM_i15 hk hin12 (List.mem_cons_of_mem _ (List.mem_append_left _ (List.mem_of_getElem? (i := 10) rfl))) dX12_read_206 ?_
                      refine g_aload_n hk dX12_read_209 rfl ?_
                      refine g_callV (n := 0) hk (j138_X12_begins l D zt r g (upd (upd (upd I17551 10 (-1)) 14 (-1)) 15 0) A17551 L17551  ⟨(IvM_f1 (I := I17551) (A := A17551) hV17551), (IvM_f2 (I := I17551) (A := A17551) hV17551), (IvM_f3 (I := I17551) (A := A17551) hV17551), (IvM_f4 (I := I17551) (A := A17551) hV17551), (IvM_f6 (I := I17551) (A := A17551) hV17551), (IvM_f8 (I := I17551) (A := A17551) hV17551), (show 0 ≤ (0 : Int32).toInt ∧ (0 : Int32).toInt ≤ 1 from ⟨by decide, by decide⟩), (IvM_f16 (I := I17551) (A := A17551) hV17551), (IvM_f17 (I := I17551) (A := A17551) hV17551), (IvM_f18 (I := I17551) (A := A17551) hV17551), (IvM_f22 (I := I17551) (A := A17551) hV17551), (IvM_f23 (I := I17551) (A := A17551) hV17551), (IvM_f24 (I := I17551) (A := A17551) hV17551), (IvM_a11 (I := I17551) (A := A17551) hV17551), (IvM_a26 (I := I17551) (A := A17551) hV17551), (IvM_s8_0 (I := I17551) (A := A17551) hV17551), (IvM_s8_1 (I := I17551) (A := A17551) hV17551), (IvM_s10_0 (I := I17551) (A := A17551) hV17551), (IvM_s10_1 (I := I17551) (A := A17551) hV17551), (IvM_s17_0 (I := I17551) (A := A17551) hV17551), (IvM_s17_164 (I := I17551) (A := A17551) hV17551), ⟨fun e => (by rcases (IvM_sd (I := I17551) (A := A17551) hV17551) with h9 | h9 | h9; exact absurd h9 (by omega); exact absurd h9 (by omega); exact h9.1 (by omega)), fun e => absurd (show (0 : Int32).toInt = 1 from e) (by decide)⟩, (IvM_sd (I := I17551) (A := A17551) hV17551), (IvM_nq (I := I17551) (A := A17551) hV17551), (IvM_hr (I := I17551) (A := A17551) hV17551), (IvM_hh (I := I17551) (A := A17551) hV17551), trivial⟩) (SP.same _) (fun _ h => h) (gi_V (List.mem_cons_of_mem _ (List.mem_append_left _ (List.mem_of_getElem? (i := 24) rfl))) (List.mem_cons_of_mem _ (List.mem_append_left _ (List.mem_of_getElem? (i := 25) rfl))) (List.mem_cons_of_mem _ (List.mem_append_left _ (List.mem_of_getElem? (i := 26) rfl))) (List.mem_cons_of_mem _ (List.mem_append_left _ (List.mem_of_getElem? (i := 5) rfl))) (gi_sub (fun w h => (List.mem_cons_of_mem _ (List.mem_append_right _ (List.mem_append_right _ (List.mem_append_right _ (List.mem_append_right _ (List.mem_append_right _ (List.mem_append_right _ (List.mem_append_left _ h))))))))) zg_j138_X12_begins)) rfl rfl rfl (by decide +kernel) ⟨Nat.le_of_ble_eq_true rfl, Nat.le_of_ble_eq_true rfl⟩ 0 rfl rfl rfl rfl (Nat.le_of_ble_eq_true rfl) ⟨Nat.le_of_ble_eq_true rfl, Nat.le_of_ble_eq_true rfl⟩ dX12_read_210 (fun v ty' w' hp hk' => ?_)
                      obtain ⟨I17697, A17697, L17697, hI17697, hA17697, hV17697, r17698, r17699, r17700, rfl, rfl⟩ := hp
                      show GW κ 2 0 0 (wM r g I17697 A17697 L17697) 213 [(1, .int x322), (0, .ref (r 0))] []
                      refine g_aload_n hk dX12_read_213 rfl ?_
                      refine g_callV (n := 0) hk (j139_X12_keepsRow l D zt r g I17697 A17697 L17697  hV17697 (by omega) (by omega) (by omega)) (SP.same _) (fun _ h => h) (gi_V (List.mem_cons_of_mem _ (List.mem_append_left _ (List.mem_of_getElem? (i := 27) rfl))) (List.mem_cons_of_mem _ (List.mem_append_left _ (List.mem_of_getElem? (i := 28) rfl))) (List.mem_cons_of_mem _ (List.mem_append_left _ (List.mem_of_getElem? (i := 29) rfl))) (List.mem_cons_of_mem _ (List.mem_append_left _ (List.mem_of_getElem? (i := 5) rfl))) (gi_sub (fun w h => (List.mem_cons_of_mem _ (List.mem_append_right _ (List.mem_append_right _ (List.mem_append_right _ (List.mem_append_right _ (List.mem_append_right _ (List.mem_append_right _ (List.mem_append_right _ (List.mem_append_left _ h)))))))))) zg_j139_X12_keepsRow)) rfl rfl rfl (by decide +kernel) ⟨Nat.le_of_ble_eq_true rfl, Nat.le_of_ble_eq_true rfl⟩ 0 rfl rfl rfl rfl (Nat.le_of_ble_eq_true rfl) ⟨Nat.le_of_ble_eq_true rfl, Nat.le_of_ble_eq_true rfl⟩ dX12_read_214 (fun v ty' w' hp hk' => ?_)
                      obtain ⟨I17702, A17702, L17702, hI17702, hA17702, hV17702, rfl, rfl⟩ := hp
                      show GW κ 2 0 0 (wM r g I17702 A17702 L17702) 217 [(1, .int x322), (0, .ref (r 0))] []
                      refine g_aload_n hk dX12_read_217 rfl ?_
                      refine g_iconst (v := 0) hk dX12_read_218 (by decide) ?_
                      refine pM_i22 hk hin12 (List.mem_cons_of_mem _ (List.mem_append_left _ (List.mem_of_getElem? (i := 30) rfl))) dX12_read_219 ?_
                      refine g_iconst (v := 0) hk dX12_read_222 (by decide) ?_
                      refine g_istore_n (lv' := [(1, .int 0), (0, .ref (r 0))]) hk dX12_read_223 (by decide) rfl ?_
                      have lp17714 : ∀ (n17715 : Nat) (x17703 : Int32) (I17705 : Nat → Int32) (A17705 : Nat → Nat → Int32) (L17705 : Nat → Nat → Int64), (Md [22] (upd I17702 22 0) I17705) → (Md [27] A17702 A17705) → (IvM I17705 A17705) → (0 ≤ x17703.toInt) → (x17703.toInt ≤ 3) → (3 - x17703.toInt < (n17715 : Int)) → (0 < n17715) → GW κ 2 0 0 (wM r g I17705 A17705 L17705) 224 [(1, .int x17703), (0, .ref (r 0))] [] := by
                        intro n17715
                        induction n17715 with
                        | zero =>
                          intro x17703 I17705 A17705 L17705 hI17705 hA17705 hV17705 h17712 h17713 m17716 m17716z
                          exact absurd m17716z (Nat.lt_irrefl 0)
                        | succ n17715 ih17717 =>
                          intro x17703 I17705 A17705 L17705 hI17705 hA17705 hV17705 h17712 h17713 m17716 m17716z
                          refine g_iload_n hk dX12_read_224 rfl ?_
                          refine g_iconst (v := 3) hk dX12_read_225 (by decide) ?_
                          refine g_icmp_ge (tgt := 242) (a := x17703.toInt) (b := 3) hk dX12_read_226 (by decide) rfl rfl (fun c17718 => ?_) (fun c17718 => ?_)
                          · skip
                            refine g_iconst (v := 0) hk dX12_read_242 (by decide) ?_
                            exact g_iret hk hR rfl ⟨I17705, A17705, L17705, (show Md [1, 2, 3, 4, 6, 7, 8, 9, 10, 11, 12, 13, 14, 15, 16, 17, 22] I I17705 from (Md.tr (Md.up (Md.tr (Md.tr (Md.up (Md.up (Md.up (Md.tr (Md.up (Md.up (Md.up (Md.up (Md.up (Md.up (Md.tr (Md.up (Md.tr (Md.up Md.rf rfl) hI324 rfl) rfl) hI17545 rfl) rfl) rfl) rfl) rfl) rfl) rfl) hI17551 rfl) rfl) rfl) rfl) hI17697 rfl) hI17702 rfl) rfl) hI17705 rfl)), (show Md [1, 2, 3, 4, 8, 9, 10, 11, 12, 13, 14, 15, 16, 17, 18, 27] A A17705 from (Md.tr (Md.tr (Md.tr (Md.tr (Md.up3 (Md.up3 (Md.up3 (Md.up3 (Md.up3 (Md.up3 (Md.tr (Md.tr Md.rf hA324 rfl) hA17545 rfl) rfl) rfl) rfl) rfl) rfl) rfl) hA17551 rfl) hA17697 rfl) hA17702 rfl) hA17705 rfl)), hV17705, 0, (by rw [show I17705 1 = 0 from ((hI17705 1 rfl).trans ((hI17702 1 rfl).trans ((hI17697 1 rfl).trans ((hI17551 1 rfl).trans (hI17545 1 rfl)))))]; omega), (by decide), (by decide), rfl, rfl⟩ dX12_read_243
                          · skip
                            refine g_aload_n hk dX12_read_229 rfl ?_
                            refine gM_r0_53 hk hin12 (List.mem_cons_of_mem _ (List.mem_append_left _ (List.mem_of_getElem? (i := 31) rfl))) dX12_read_230 ?_
                            refine g_iload_n hk dX12_read_233 rfl ?_
                            refine g_iconst (v := 0) hk dX12_read_234 (by decide) ?_
                            refine sM_27 (y := (vp_nar .boolean 0)) (j := x17703.toNatClampNeg) hk (vp_in_iff.mpr ⟨by omega, by omega⟩) rfl rfl dX12_read_235 ?_
                            obtain ⟨y17719, ey17719⟩ : ∃ y : Int32, y = x17703 + Int32.ofInt 1 := ⟨_, rfl⟩
                            have hy17719 : y17719.toInt = x17703.toInt + 1 := i32_add ey17719 rfl (by decide) (by omega) (by omega)
                            refine g_iinc (v := y17719) (lv' := [(1, .int y17719), (0, .ref (r 0))]) hk 0 dX12_read_236 rfl ey17719.symm (by decide) rfl ?_
                            refine g_goto (tgt := 224) hk dX12_read_239 (by decide) ?_
                            exact g_lv (List.forall_mem_cons.mpr ⟨List.mem_of_getElem? (i := 0) rfl, (List.forall_mem_cons.mpr ⟨List.mem_of_getElem? (i := 1) rfl, (fun _ h => absurd h List.not_mem_nil)⟩)⟩) (ih17717 y17719 I17705 (up3 A17705 27 (x17703.toNatClampNeg) (vp_nar .boolean 0)) L17705 (show Md [22] (upd I17702 22 0) I17705 from Md.tr hI17705 (show Md [22] I17705 I17705 from Md.rf) rfl) (show Md [27] A17702 (up3 A17705 27 (x17703.toNatClampNeg) (vp_nar .boolean 0)) from Md.tr hA17705 (show Md [27] A17705 (up3 A17705 27 (x17703.toNatClampNeg) (vp_nar .boolean 0)) from (Md.up3 Md.rf rfl)) rfl) ⟨(IvM_f1 (I := I17705) (A := A17705) hV17705), (IvM_f2 (I := I17705) (A := A17705) hV17705), (IvM_f3 (I := I17705) (A := A17705) hV17705), (IvM_f4 (I := I17705) (A := A17705) hV17705), (IvM_f6 (I := I17705) (A := A17705) hV17705), (IvM_f8 (I := I17705) (A := A17705) hV17705), (IvM_f15 (I := I17705) (A := A17705) hV17705), (IvM_f16 (I := I17705) (A := A17705) hV17705), (IvM_f17 (I := I17705) (A := A17705) hV17705), (IvM_f18 (I := I17705) (A := A17705) hV17705), (IvM_f22 (I := I17705) (A := A17705) hV17705), (IvM_f23 (I := I17705) (A := A17705) hV17705), (IvM_f24 (I := I17705) (A := A17705) hV17705), (IvM_a11 (I := I17705) (A := A17705) hV17705), (IvM_a26 (I := I17705) (A := A17705) hV17705), (IvM_s8_0 (I := I17705) (A := A17705) hV17705), (IvM_s8_1 (I := I17705) (A := A17705) hV17705), (IvM_s10_0 (I := I17705) (A := A17705) hV17705), (IvM_s10_1 (I := I17705) (A := A17705) hV17705), (IvM_s17_0 (I := I17705) (A := A17705) hV17705), (IvM_s17_164 (I := I17705) (A := A17705) hV17705), (IvM_lv (I := I17705) (A := A17705) hV17705), (IvM_sd (I := I17705) (A := A17705) hV17705), (IvM_nq (I := I17705) (A := A17705) hV17705), (IvM_hr (I := I17705) (A := A17705) hV17705), (hh_off (IvM_hh (I := I17705) (A := A17705) hV17705) (by decide)), trivial⟩ (by omega) (by omega) (by omega) (by omega))
                      obtain ⟨n17720, n17720a, n17720b⟩ : ∃ n : Nat, 3 - (0 : Int32).toInt < (n : Int) ∧ 0 < n := ⟨((3 - (0 : Int32).toInt : Int)).toNat + 1, by omega, by omega⟩
                      exact lp17714 n17720 0 (upd I17702 22 0) A17702 L17702 Md.rf Md.rf ⟨(IvM_f1 (I := I17702) (A := A17702) hV17702), (IvM_f2 (I := I17702) (A := A17702) hV17702), (IvM_f3 (I := I17702) (A := A17702) hV17702), (IvM_f4 (I := I17702) (A := A17702) hV17702), (IvM_f6 (I := I17702) (A := A17702) hV17702), (IvM_f8 (I := I17702) (A := A17702) hV17702), (IvM_f15 (I := I17702) (A := A17702) hV17702), (IvM_f16 (I := I17702) (A := A17702) hV17702), (IvM_f17 (I := I17702) (A := A17702) hV17702), (IvM_f18 (I := I17702) (A := A17702) hV17702), (show 0 ≤ (0 : Int32).toInt ∧ (0 : Int32).toInt ≤ 40 from ⟨by decide, by decide⟩), (IvM_f23 (I := I17702) (A := A17702) hV17702), (IvM_f24 (I := I17702) (A := A17702) hV17702), (IvM_a11 (I := I17702) (A := A17702) hV17702), (IvM_a26 (I := I17702) (A := A17702) hV17702), (IvM_s8_0 (I := I17702) (A := A17702) hV17702), (IvM_s8_1 (I := I17702) (A := A17702) hV17702), (IvM_s10_0 (I := I17702) (A := A17702) hV17702), (IvM_s10_1 (I := I17702) (A := A17702) hV17702), (IvM_s17_0 (I := I17702) (A := A17702) hV17702), (IvM_s17_164 (I := I17702) (A := A17702) hV17702), (IvM_lv (I := I17702) (A := A17702) hV17702), (IvM_sd (I := I17702) (A := A17702) hV17702), (IvM_nq (I := I17702) (A := A17702) hV17702), (fun j hj => absurd (show (j : Int) < (0 : Int32).toInt from hj) (by have : (0 : Int32).toInt = 0 := rfl; omega)), (IvM_hh (I := I17702) (A := A17702) hV17702), trivial⟩ (by omega) (by omega) n17720a n17720b
                    by_cases c17721 : (I17551 16).toInt = 1
                    · have ec17721 : (I17551 16) = 1 := Int32.toInt_inj.mp c17721
                      rw [ec17721]
                      show GW κ 2 0 0 (wM r g (upd (upd I17551 10 (-1)) 14 (-1)) A17551 L17551) 206 [(1, .int x322), (0, .ref (r 0))] [.int 1, .ref (r 0)]
                      refine pM_i15 hk hin12 (List.mem_cons_of_mem _ (List.mem_append_left _ (List.mem_of_getElem? (i := 10) rfl))) dX12_read_206 ?_
                      refine g_aload_n hk dX12_read_209 rfl ?_
                      refine g_callV (n := 0) hk (j138_X12_begins l D zt r g (upd (upd (upd I17551 10 (-1)) 14 (-1)) 15 1) A17551 L17551  ⟨(IvM_f1 (I := I17551) (A := A17551) hV17551), (IvM_f2 (I := I17551) (A := A17551) hV17551), (IvM_f3 (I := I17551) (A := A17551) hV17551), (IvM_f4 (I := I17551) (A := A17551) hV17551), (IvM_f6 (I := I17551) (A := A17551) hV17551), (IvM_f8 (I := I17551) (A := A17551) hV17551), (show 0 ≤ (1 : Int32).toInt ∧ (1 : Int32).toInt ≤ 1 from ⟨by decide, by decide⟩), (IvM_f16 (I := I17551) (A := A17551) hV17551), (IvM_f17 (I := I17551) (A := A17551) hV17551), (IvM_f18 (I := I17551) (A := A17551) hV17551), (IvM_f22 (I := I17551) (A := A17551) hV17551), (IvM_f23 (I := I17551) (A := A17551) hV17551), (IvM_f24 (I := I17551) (A := A17551) hV17551), (IvM_a11 (I := I17551) (A := A17551) hV17551), (IvM_a26 (I := I17551) (A := A17551) hV17551), (IvM_s8_0 (I := I17551) (A := A17551) hV17551), (IvM_s8_1 (I := I17551) (A := A17551) hV17551), (IvM_s10_0 (I := I17551) (A := A17551) hV17551), (IvM_s10_1 (I := I17551) (A := A17551) hV17551), (IvM_s17_0 (I := I17551) (A := A17551) hV17551), (IvM_s17_164 (I := I17551) (A := A17551) hV17551), ⟨fun e => absurd (show (1 : Int32).toInt = 0 from e) (by decide), fun e => (by rcases (IvM_sd (I := I17551) (A := A17551) hV17551) with h9 | h9 | h9; exact absurd h9 (by omega); exact absurd h9 (by omega); exact h9.2 (by omega))⟩, (IvM_sd (I := I17551) (A := A17551) hV17551), (IvM_nq (I := I17551) (A := A17551) hV17551), (IvM_hr (I := I17551) (A := A17551) hV17551), (IvM_hh (I := I17551) (A := A17551) hV17551), trivial⟩) (SP.same _) (fun _ h => h) (gi_V (List.mem_cons_of_mem _ (List.mem_append_left _ (List.mem_of_getElem? (i := 24) rfl))) (List.mem_cons_of_mem _ (List.mem_append_left _ (List.mem_of_getElem? (i := 25) rfl))) (List.mem_cons_of_mem _ (List.mem_append_left _ (List.mem_of_getElem? (i := 26) rfl))) (List.mem_cons_of_mem _ (List.mem_append_left _ (List.mem_of_getElem? (i := 5) rfl))) (gi_sub (fun w h => (List.mem_cons_of_mem _ (List.mem_append_right _ (List.mem_append_right _ (List.mem_append_right _ (List.mem_append_right _ (List.mem_append_right _ (List.mem_append_right _ (List.mem_append_left _ h))))))))) zg_j138_X12_begins)) rfl rfl rfl (by decide +kernel) ⟨Nat.le_of_ble_eq_true rfl, Nat.le_of_ble_eq_true rfl⟩ 0 rfl rfl rfl rfl (Nat.le_of_ble_eq_true rfl) ⟨Nat.le_of_ble_eq_true rfl, Nat.le_of_ble_eq_true rfl⟩ dX12_read_210 (fun v ty' w' hp hk' => ?_)
                      obtain ⟨I17723, A17723, L17723, hI17723, hA17723, hV17723, r17724, r17725, r17726, rfl, rfl⟩ := hp
                      show GW κ 2 0 0 (wM r g I17723 A17723 L17723) 213 [(1, .int x322), (0, .ref (r 0))] []
                      refine g_aload_n hk dX12_read_213 rfl ?_
                      refine g_callV (n := 0) hk (j139_X12_keepsRow l D zt r g I17723 A17723 L17723  hV17723 (by omega) (by omega) (by omega)) (SP.same _) (fun _ h => h) (gi_V (List.mem_cons_of_mem _ (List.mem_append_left _ (List.mem_of_getElem? (i := 27) rfl))) (List.mem_cons_of_mem _ (List.mem_append_left _ (List.mem_of_getElem? (i := 28) rfl))) (List.mem_cons_of_mem _ (List.mem_append_left _ (List.mem_of_getElem? (i := 29) rfl))) (List.mem_cons_of_mem _ (List.mem_append_left _ (List.mem_of_getElem? (i := 5) rfl))) (gi_sub (fun w h => (List.mem_cons_of_mem _ (List.mem_append_right _ (List.mem_append_right _ (List.mem_append_right _ (List.mem_append_right _ (List.mem_append_right _ (List.mem_append_right _ (List.mem_append_right _ (List.mem_append_left _ h)))))))))) zg_j139_X12_keepsRow)) rfl rfl rfl (by decide +kernel) ⟨Nat.le_of_ble_eq_true rfl, Nat.le_of_ble_eq_true rfl⟩ 0 rfl rfl rfl rfl (Nat.le_of_ble_eq_true rfl) ⟨Nat.le_of_ble_eq_true rfl, Nat.le_of_ble_eq_true rfl⟩ dX12_read_214 (fun v ty' w' hp hk' => ?_)
                      obtain ⟨I17728, A17728, L17728, hI17728, hA17728, hV17728, rfl, rfl⟩ := hp
                      show GW κ 2 0 0 (wM r g I17728 A17728 L17728) 217 [(1, .int x322), (0, .ref (r 0))] []
                      refine g_aload_n hk dX12_read_217 rfl ?_
                      refine g_iconst (v := 0) hk dX12_read_218 (by decide) ?_
                      refine pM_i22 hk hin12 (List.mem_cons_of_mem _ (List.mem_append_left _ (List.mem_of_getElem? (i := 30) rfl))) dX12_read_219 ?_
                      refine g_iconst (v := 0) hk dX12_read_222 (by decide) ?_
                      refine g_istore_n (lv' := [(1, .int 0), (0, .ref (r 0))]) hk dX12_read_223 (by decide) rfl ?_
                      have lp17740 : ∀ (n17741 : Nat) (x17729 : Int32) (I17731 : Nat → Int32) (A17731 : Nat → Nat → Int32) (L17731 : Nat → Nat → Int64), (Md [22] (upd I17728 22 0) I17731) → (Md [27] A17728 A17731) → (IvM I17731 A17731) → (0 ≤ x17729.toInt) → (x17729.toInt ≤ 3) → (3 - x17729.toInt < (n17741 : Int)) → (0 < n17741) → GW κ 2 0 0 (wM r g I17731 A17731 L17731) 224 [(1, .int x17729), (0, .ref (r 0))] [] := by
                        intro n17741
                        induction n17741 with
                        | zero =>
                          intro x17729 I17731 A17731 L17731 hI17731 hA17731 hV17731 h17738 h17739 m17742 m17742z
                          exact absurd m17742z (Nat.lt_irrefl 0)
                        | succ n17741 ih17743 =>
                          intro x17729 I17731 A17731 L17731 hI17731 hA17731 hV17731 h17738 h17739 m17742 m17742z
                          refine g_iload_n hk dX12_read_224 rfl ?_
                          refine g_iconst (v := 3) hk dX12_read_225 (by decide) ?_
                          refine g_icmp_ge (tgt := 242) (a := x17729.toInt) (b := 3) hk dX12_read_226 (by decide) rfl rfl (fun c17744 => ?_) (fun c17744 => ?_)
                          · skip
                            refine g_iconst (v := 0) hk dX12_read_242 (by decide) ?_
                            exact g_iret hk hR rfl ⟨I17731, A17731, L17731, (show Md [1, 2, 3, 4, 6, 7, 8, 9, 10, 11, 12, 13, 14, 15, 16, 17, 22] I I17731 from (Md.tr (Md.up (Md.tr (Md.tr (Md.up (Md.up (Md.up (Md.tr (Md.up (Md.up (Md.up (Md.up (Md.up (Md.up (Md.tr (Md.up (Md.tr (Md.up Md.rf rfl) hI324 rfl) rfl) hI17545 rfl) rfl) rfl) rfl) rfl) rfl) rfl) hI17551 rfl) rfl) rfl) rfl) hI17723 rfl) hI17728 rfl) rfl) hI17731 rfl)), (show Md [1, 2, 3, 4, 8, 9, 10, 11, 12, 13, 14, 15, 16, 17, 18, 27] A A17731 from (Md.tr (Md.tr (Md.tr (Md.tr (Md.up3 (Md.up3 (Md.up3 (Md.up3 (Md.up3 (Md.up3 (Md.tr (Md.tr Md.rf hA324 rfl) hA17545 rfl) rfl) rfl) rfl) rfl) rfl) rfl) hA17551 rfl) hA17723 rfl) hA17728 rfl) hA17731 rfl)), hV17731, 0, (by rw [show I17731 1 = 0 from ((hI17731 1 rfl).trans ((hI17728 1 rfl).trans ((hI17723 1 rfl).trans ((hI17551 1 rfl).trans (hI17545 1 rfl)))))]; omega), (by decide), (by decide), rfl, rfl⟩ dX12_read_243
                          · skip
                            refine g_aload_n hk dX12_read_229 rfl ?_
                            refine gM_r0_53 hk hin12 (List.mem_cons_of_mem _ (List.mem_append_left _ (List.mem_of_getElem? (i := 31) rfl))) dX12_read_230 ?_
                            refine g_iload_n hk dX12_read_233 rfl ?_
                            refine g_iconst (v := 0) hk dX12_read_234 (by decide) ?_
                            refine sM_27 (y := (vp_nar .boolean 0)) (j := x17729.toNatClampNeg) hk (vp_in_iff.mpr ⟨by omega, by omega⟩) rfl rfl dX12_read_235 ?_
                            obtain ⟨y17745, ey17745⟩ : ∃ y : Int32, y = x17729 + Int32.ofInt 1 := ⟨_, rfl⟩
                            have hy17745 : y17745.toInt = x17729.toInt + 1 := i32_add ey17745 rfl (by decide) (by omega) (by omega)
                            refine g_iinc (v := y17745) (lv' := [(1, .int y17745), (0, .ref (r 0))]) hk 0 dX12_read_236 rfl ey17745.symm (by decide) rfl ?_
                            refine g_goto (tgt := 224) hk dX12_read_239 (by decide) ?_
                            exact g_lv (List.forall_mem_cons.mpr ⟨List.mem_of_getElem? (i := 0) rfl, (List.forall_mem_cons.mpr ⟨List.mem_of_getElem? (i := 1) rfl, (fun _ h => absurd h List.not_mem_nil)⟩)⟩) (ih17743 y17745 I17731 (up3 A17731 27 (x17729.toNatClampNeg) (vp_nar .boolean 0)) L17731 (show Md [22] (upd I17728 22 0) I17731 from Md.tr hI17731 (show Md [22] I17731 I17731 from Md.rf) rfl) (show Md [27] A17728 (up3 A17731 27 (x17729.toNatClampNeg) (vp_nar .boolean 0)) from Md.tr hA17731 (show Md [27] A17731 (up3 A17731 27 (x17729.toNatClampNeg) (vp_nar .boolean 0)) from (Md.up3 Md.rf rfl)) rfl) ⟨(IvM_f1 (I := I17731) (A := A17731) hV17731), (IvM_f2 (I := I17731) (A := A17731) hV17731), (IvM_f3 (I := I17731) (A := A17731) hV17731), (IvM_f4 (I := I17731) (A := A17731) hV17731), (IvM_f6 (I := I17731) (A := A17731) hV17731), (IvM_f8 (I := I17731) (A := A17731) hV17731), (IvM_f15 (I := I17731) (A := A17731) hV17731), (IvM_f16 (I := I17731) (A := A17731) hV17731), (IvM_f17 (I := I17731) (A := A17731) hV17731), (IvM_f18 (I := I17731) (A := A17731) hV17731), (IvM_f22 (I := I17731) (A := A17731) hV17731), (IvM_f23 (I := I17731) (A := A17731) hV17731), (IvM_f24 (I := I17731) (A := A17731) hV17731), (IvM_a11 (I := I17731) (A := A17731) hV17731), (IvM_a26 (I := I17731) (A := A17731) hV17731), (IvM_s8_0 (I := I17731) (A := A17731) hV17731), (IvM_s8_1 (I := I17731) (A := A17731) hV17731), (IvM_s10_0 (I := I17731) (A := A17731) hV17731), (IvM_s10_1 (I := I17731) (A := A17731) hV17731), (IvM_s17_0 (I := I17731) (A := A17731) hV17731), (IvM_s17_164 (I := I17731) (A := A17731) hV17731), (IvM_lv (I := I17731) (A := A17731) hV17731), (IvM_sd (I := I17731) (A := A17731) hV17731), (IvM_nq (I := I17731) (A := A17731) hV17731), (IvM_hr (I := I17731) (A := A17731) hV17731), (hh_off (IvM_hh (I := I17731) (A := A17731) hV17731) (by decide)), trivial⟩ (by omega) (by omega) (by omega) (by omega))
                      obtain ⟨n17746, n17746a, n17746b⟩ : ∃ n : Nat, 3 - (0 : Int32).toInt < (n : Int) ∧ 0 < n := ⟨((3 - (0 : Int32).toInt : Int)).toNat + 1, by omega, by omega⟩
                      exact lp17740 n17746 0 (upd I17728 22 0) A17728 L17728 Md.rf Md.rf ⟨(IvM_f1 (I := I17728) (A := A17728) hV17728), (IvM_f2 (I := I17728) (A := A17728) hV17728), (IvM_f3 (I := I17728) (A := A17728) hV17728), (IvM_f4 (I := I17728) (A := A17728) hV17728), (IvM_f6 (I := I17728) (A := A17728) hV17728), (IvM_f8 (I := I17728) (A := A17728) hV17728), (IvM_f15 (I := I17728) (A := A17728) hV17728), (IvM_f16 (I := I17728) (A := A17728) hV17728), (IvM_f17 (I := I17728) (A := A17728) hV17728), (IvM_f18 (I := I17728) (A := A17728) hV17728), (show 0 ≤ (0 : Int32).toInt ∧ (0 : Int32).toInt ≤ 40 from ⟨by decide, by decide⟩), (IvM_f23 (I := I17728) (A := A17728) hV17728), (IvM_f24 (I := I17728) (A := A17728) hV17728), (IvM_a11 (I := I17728) (A := A17728) hV17728), (IvM_a26 (I := I17728) (A := A17728) hV17728), (IvM_s8_0 (I := I17728) (A := A17728) hV17728), (IvM_s8_1 (I := I17728) (A := A17728) hV17728), (IvM_s10_0 (I := I17728) (A := A17728) hV17728), (IvM_s10_1 (I := I17728) (A := A17728) hV17728), (IvM_s17_0 (I := I17728) (A := A17728) hV17728), (IvM_s17_164 (I := I17728) (A := A17728) hV17728), (IvM_lv (I := I17728) (A := A17728) hV17728), (IvM_sd (I := I17728) (A := A17728) hV17728), (IvM_nq (I := I17728) (A := A17728) hV17728), (fun j hj => absurd (show (j : Int) < (0 : Int32).toInt from hj) (by have : (0 : Int32).toInt = 0 := rfl; omega)), (IvM_hh (I := I17728) (A := A17728) hV17728), trivial⟩ (by omega) (by omega) n17746a n17746b
                    exfalso; omega
                  · skip
                    refine g_aload_n hk dX12_read_133 rfl ?_
                    refine gM_i9 (v := (I17551 9)) hk hin12 (List.mem_cons_of_mem _ (List.mem_append_left _ (List.mem_of_getElem? (i := 34) rfl))) dX12_read_134 rfl ?_
                    refine g_goto (tgt := 141) hk dX12_read_137 (by decide) ?_
                    refine pM_i10 hk hin12 (List.mem_cons_of_mem _ (List.mem_append_left _ (List.mem_of_getElem? (i := 22) rfl))) dX12_read_141 ?_
                    refine g_aload_n hk dX12_read_144 rfl ?_
                    refine g_aload_n hk dX12_read_145 rfl ?_
                    refine gM_i6 (v := (I17551 6)) hk hin12 (List.mem_cons_of_mem _ (List.mem_append_left _ (List.mem_of_getElem? (i := 7) rfl))) dX12_read_146 rfl ?_
                    refine g_if_le (tgt := 159) (a := (I17551 6).toInt) hk dX12_read_149 (by decide) rfl (fun _ => ?_) (fun z9 => absurd (show (I17551 6).toInt ≤ 0 from by omega) z9)
                    refine g_aload_n hk dX12_read_159 rfl ?_
                    refine gM_i8 (v := (I17551 8)) hk hin12 (List.mem_cons_of_mem _ (List.mem_append_left _ (List.mem_of_getElem? (i := 8) rfl))) dX12_read_160 rfl ?_
                    refine g_if_le (tgt := 173) (a := (I17551 8).toInt) hk dX12_read_163 (by decide) rfl (fun z9 => absurd z9 (show ¬ ((I17551 8).toInt ≤ 0) from by omega)) (fun _ => ?_)
                    refine g_aload_n hk dX12_read_166 rfl ?_
                    refine gM_i13 (v := (I17551 13)) hk hin12 (List.mem_cons_of_mem _ (List.mem_append_left _ (List.mem_of_getElem? (i := 35) rfl))) dX12_read_167 rfl ?_
                    refine g_goto (tgt := 174) hk dX12_read_170 (by decide) ?_
                    refine pM_i14 hk hin12 (List.mem_cons_of_mem _ (List.mem_append_left _ (List.mem_of_getElem? (i := 23) rfl))) dX12_read_174 ?_
                    refine g_aload_n hk dX12_read_177 rfl ?_
                    refine gM_i6 (v := (I17551 6)) hk hin12 (List.mem_cons_of_mem _ (List.mem_append_left _ (List.mem_of_getElem? (i := 7) rfl))) dX12_read_178 rfl ?_
                    refine g_if_le (tgt := 189) (a := (I17551 6).toInt) hk dX12_read_181 (by decide) rfl (fun _ => ?_) (fun z9 => absurd (show (I17551 6).toInt ≤ 0 from by omega) z9)
                    refine g_aload_n hk dX12_read_189 rfl ?_
                    refine gM_i8 (v := (I17551 8)) hk hin12 (List.mem_cons_of_mem _ (List.mem_append_left _ (List.mem_of_getElem? (i := 8) rfl))) dX12_read_190 rfl ?_
                    refine g_if_le (tgt := 201) (a := (I17551 8).toInt) hk dX12_read_193 (by decide) rfl (fun z9 => absurd z9 (show ¬ ((I17551 8).toInt ≤ 0) from by omega)) (fun _ => ?_)
                    refine g_aload_n hk dX12_read_196 rfl ?_
                    refine gM_i8 (v := (I17551 8)) hk hin12 (List.mem_cons_of_mem _ (List.mem_append_left _ (List.mem_of_getElem? (i := 8) rfl))) dX12_read_197 rfl ?_
                    exact g_iret hk hR rfl ⟨(upd (upd I17551 10 (I17551 9)) 14 (I17551 13)), A17551, L17551, (show Md [1, 2, 3, 4, 6, 7, 8, 9, 10, 11, 12, 13, 14, 15, 16, 17, 22] I (upd (upd I17551 10 (I17551 9)) 14 (I17551 13)) from (Md.up (Md.up (Md.tr (Md.up (Md.up (Md.up (Md.up (Md.up (Md.up (Md.tr (Md.up (Md.tr (Md.up Md.rf rfl) hI324 rfl) rfl) hI17545 rfl) rfl) rfl) rfl) rfl) rfl) rfl) hI17551 rfl) rfl) rfl)), (show Md [1, 2, 3, 4, 8, 9, 10, 11, 12, 13, 14, 15, 16, 17, 18, 27] A A17551 from (Md.tr (Md.up3 (Md.up3 (Md.up3 (Md.up3 (Md.up3 (Md.up3 (Md.tr (Md.tr Md.rf hA324 rfl) hA17545 rfl) rfl) rfl) rfl) rfl) rfl) rfl) hA17551 rfl)), ⟨(IvM_f1 (I := I17551) (A := A17551) hV17551), (IvM_f2 (I := I17551) (A := A17551) hV17551), (IvM_f3 (I := I17551) (A := A17551) hV17551), (IvM_f4 (I := I17551) (A := A17551) hV17551), (IvM_f6 (I := I17551) (A := A17551) hV17551), (IvM_f8 (I := I17551) (A := A17551) hV17551), (IvM_f15 (I := I17551) (A := A17551) hV17551), (IvM_f16 (I := I17551) (A := A17551) hV17551), (IvM_f17 (I := I17551) (A := A17551) hV17551), (IvM_f18 (I := I17551) (A := A17551) hV17551), (IvM_f22 (I := I17551) (A := A17551) hV17551), (IvM_f23 (I := I17551) (A := A17551) hV17551), (IvM_f24 (I := I17551) (A := A17551) hV17551), (IvM_a11 (I := I17551) (A := A17551) hV17551), (IvM_a26 (I := I17551) (A := A17551) hV17551), (IvM_s8_0 (I := I17551) (A := A17551) hV17551), (IvM_s8_1 (I := I17551) (A := A17551) hV17551), (IvM_s10_0 (I := I17551) (A := A17551) hV17551), (IvM_s10_1 (I := I17551) (A := A17551) hV17551), (IvM_s17_0 (I := I17551) (A := A17551) hV17551), (IvM_s17_164 (I := I17551) (A := A17551) hV17551), (IvM_lv (I := I17551) (A := A17551) hV17551), (IvM_sd (I := I17551) (A := A17551) hV17551), (IvM_nq (I := I17551) (A := A17551) hV17551), (IvM_hr (I := I17551) (A := A17551) hV17551), (IvM_hh (I := I17551) (A := A17551) hV17551), trivial⟩, (I17551 8), (by rw [show (upd (upd I17551 10 (I17551 9)) 14 (I17551 13)) 1 = 0 from ((hI17551 1 rfl).trans (hI17545 1 rfl))]; omega), (by omega), (by omega), rfl, rfl⟩ dX12_read_200
          have k17747 : (0 : Int32).toInt = 0 := rfl
          obtain ⟨n17748, n17748a, n17748b⟩ : ∃ n : Nat, 10 * (401 - (0 : Int32).toInt) + (10 - (0 : Int32).toInt) < (n : Int) ∧ 0 < n := ⟨((10 * (401 - (0 : Int32).toInt) + (10 - (0 : Int32).toInt) : Int)).toNat + 1, by omega, by omega⟩
          have g17749 : (I17545 15).toInt = (I 15).toInt := by rw [show (I17545 15) = (I 15) from ((hI17545 15 rfl).trans (hI324 15 rfl))]
          have g17750 := IvM_s10_0 (I := I17545) (A := A17545) hV17545
          have g17751 := IvM_s10_1 (I := I17545) (A := A17545) hV17545
          exact lp17668 n17748 (upd (upd (upd (upd (upd (upd I17545 4 0) 6 0) 8 0) 11 (-2)) 16 1) 17 0) (up3 (up3 (up3 (up3 (up3 (up3 A17545 8 1 0) 10 1 0) 13 1 2) 14 1 0) 15 1 0) 16 1 8) L17545 Md.rf Md.rf ⟨(IvM_f1 (I := I17545) (A := A17545) hV17545), (IvM_f2 (I := I17545) (A := A17545) hV17545), (IvM_f3 (I := I17545) (A := A17545) hV17545), (show 0 ≤ (0 : Int32).toInt ∧ (0 : Int32).toInt ≤ 400 from ⟨by decide, by decide⟩), (show 0 ≤ (0 : Int32).toInt ∧ (0 : Int32).toInt ≤ 9 from ⟨by decide, by decide⟩), (show 0 ≤ (0 : Int32).toInt ∧ (0 : Int32).toInt ≤ 9 from ⟨by decide, by decide⟩), (IvM_f15 (I := I17545) (A := A17545) hV17545), (show 0 ≤ (1 : Int32).toInt ∧ (1 : Int32).toInt ≤ 1 from ⟨by decide, by decide⟩), (show 0 ≤ (0 : Int32).toInt ∧ (0 : Int32).toInt ≤ 5 from ⟨by decide, by decide⟩), (IvM_f18 (I := I17545) (A := A17545) hV17545), (IvM_f22 (I := I17545) (A := A17545) hV17545), (IvM_f23 (I := I17545) (A := A17545) hV17545), (IvM_f24 (I := I17545) (A := A17545) hV17545), (IvM_a11 (I := I17545) (A := A17545) hV17545), (IvM_a26 (I := I17545) (A := A17545) hV17545), (show 0 ≤ ((up3 (up3 (up3 (up3 (up3 (up3 A17545 8 1 0) 10 1 0) 13 1 2) 14 1 0) 15 1 0) 16 1 8) 8 0).toInt ∧ ((up3 (up3 (up3 (up3 (up3 (up3 A17545 8 1 0) 10 1 0) 13 1 2) 14 1 0) 15 1 0) 16 1 8) 8 0).toInt ≤ 160 from by rw [show (up3 (up3 (up3 (up3 (up3 (up3 A17545 8 1 0) 10 1 0) 13 1 2) 14 1 0) 15 1 0) 16 1 8) 8 0 = (A17545 8 0) from rfl]; exact ⟨by omega, by omega⟩), (show 0 ≤ ((up3 (up3 (up3 (up3 (up3 (up3 A17545 8 1 0) 10 1 0) 13 1 2) 14 1 0) 15 1 0) 16 1 8) 8 1).toInt ∧ ((up3 (up3 (up3 (up3 (up3 (up3 A17545 8 1 0) 10 1 0) 13 1 2) 14 1 0) 15 1 0) 16 1 8) 8 1).toInt ≤ 160 from by rw [show (up3 (up3 (up3 (up3 (up3 (up3 A17545 8 1 0) 10 1 0) 13 1 2) 14 1 0) 15 1 0) 16 1 8) 8 1 = 0 from rfl]; exact ⟨by decide, by decide⟩), (show 0 ≤ ((up3 (up3 (up3 (up3 (up3 (up3 A17545 8 1 0) 10 1 0) 13 1 2) 14 1 0) 15 1 0) 16 1 8) 10 0).toInt ∧ ((up3 (up3 (up3 (up3 (up3 (up3 A17545 8 1 0) 10 1 0) 13 1 2) 14 1 0) 15 1 0) 16 1 8) 10 0).toInt ≤ 5 from by rw [show (up3 (up3 (up3 (up3 (up3 (up3 A17545 8 1 0) 10 1 0) 13 1 2) 14 1 0) 15 1 0) 16 1 8) 10 0 = (A17545 10 0) from rfl]; exact ⟨by omega, by omega⟩), (show 0 ≤ ((up3 (up3 (up3 (up3 (up3 (up3 A17545 8 1 0) 10 1 0) 13 1 2) 14 1 0) 15 1 0) 16 1 8) 10 1).toInt ∧ ((up3 (up3 (up3 (up3 (up3 (up3 A17545 8 1 0) 10 1 0) 13 1 2) 14 1 0) 15 1 0) 16 1 8) 10 1).toInt ≤ 5 from by rw [show (up3 (up3 (up3 (up3 (up3 (up3 A17545 8 1 0) 10 1 0) 13 1 2) 14 1 0) 15 1 0) 16 1 8) 10 1 = 0 from rfl]; exact ⟨by decide, by decide⟩), (IvM_s17_0 (I := I17545) (A := A17545) hV17545), (IvM_s17_164 (I := I17545) (A := A17545) hV17545), ⟨fun e => by have e : (I17545 15).toInt = 0 := e; first | exact (IvM_lv (I := I17545) (A := A17545) hV17545).1 e | (exfalso; omega), fun e => by have e : (I17545 15).toInt = 1 := e; first | exact (IvM_lv (I := I17545) (A := A17545) hV17545).2 e | (exfalso; omega)⟩, (Or.inr (Or.inr ⟨fun e => absurd (show (1 : Int32).toInt = 0 from e) (by decide), fun e => ghf_0 (show 1 ≤ (8 : Int32).toInt from by decide) (show (0 : Int32).toInt = 0 from rfl)⟩)), ⟨fun e => absurd (show (1 : Int32).toInt = 0 from e) (by decide), fun e => (show (0 : Int32).toInt = (0 : Int32).toInt from rfl)⟩, (IvM_hr (I := I17545) (A := A17545) hV17545), (IvM_hh (I := I17545) (A := A17545) hV17545), trivial⟩ (by first | exact n17748a | (rw [show ((upd (upd (upd (upd (upd (upd I17545 4 0) 6 0) 8 0) 11 (-2)) 16 1) 17 0) 4) = (0 : Int32) from rfl, show ((upd (upd (upd (upd (upd (upd I17545 4 0) 6 0) 8 0) 11 (-2)) 16 1) 17 0) 6) = (0 : Int32) from rfl] <;> exact n17748a)) n17748b
        by_cases c17752 : (I 15).toInt = 1
        · have ec17752 : (I 15) = 1 := Int32.toInt_inj.mp c17752
          rw [ec17752]
          show GW κ 2 0 0 (wM r g (upd (upd (upd (upd I17545 4 0) 6 0) 8 0) 11 (-2)) A17545 L17545) 72 [(1, .int x322), (0, .ref (r 0))] [.int 1, .int 1, .ref (r 0)]
          refine g_isub hk dX12_read_72 ?_
          refine g_norm (v := 0) (by decide) ?_
          refine pM_i16 hk hin12 (List.mem_cons_of_mem _ (List.mem_append_left _ (List.mem_of_getElem? (i := 11) rfl))) dX12_read_73 ?_
          refine g_aload_n hk dX12_read_76 rfl ?_
          refine g_iconst (v := 0) hk dX12_read_77 (by decide) ?_
          refine pM_i17 hk hin12 (List.mem_cons_of_mem _ (List.mem_append_left _ (List.mem_of_getElem? (i := 12) rfl))) dX12_read_78 ?_
          refine g_aload_n hk dX12_read_81 rfl ?_
          refine g_aload_n hk dX12_read_82 rfl ?_
          refine gM_i16 (v := 0) hk hin12 (List.mem_cons_of_mem _ (List.mem_append_left _ (List.mem_of_getElem? (i := 11) rfl))) dX12_read_83 rfl ?_
          have k17753 : (0 : Int32).toInt = 0 := rfl
          refine g_callV (n := 1) hk (j124_X12_plain l D zt r g (upd (upd (upd (upd (upd (upd I17545 4 0) 6 0) 8 0) 11 (-2)) 16 0) 17 0) A17545 L17545 0  (by decide) (by decide)) (SP.same _) (fun _ h => h) (gi_V (List.mem_cons_of_mem _ (List.mem_append_left _ (List.mem_of_getElem? (i := 13) rfl))) (List.mem_cons_of_mem _ (List.mem_append_left _ (List.mem_of_getElem? (i := 14) rfl))) (List.mem_cons_of_mem _ (List.mem_append_left _ (List.mem_of_getElem? (i := 15) rfl))) (List.mem_cons_of_mem _ (List.mem_append_left _ (List.mem_of_getElem? (i := 5) rfl))) (gi_sub (fun w h => (List.mem_cons_of_mem _ (List.mem_append_right _ (List.mem_append_right _ (List.mem_append_right _ (List.mem_append_left _ h)))))) zg_j124_X12_plain)) rfl rfl rfl (by decide +kernel) ⟨Nat.le_of_ble_eq_true rfl, Nat.le_of_ble_eq_true rfl⟩ 0 rfl rfl rfl rfl (Nat.le_of_ble_eq_true rfl) ⟨Nat.le_of_ble_eq_true rfl, Nat.le_of_ble_eq_true rfl⟩ dX12_read_86 (fun v ty' w' hp hk' => ?_)
          obtain ⟨rfl, rfl⟩ := hp
          show GW κ 2 0 0 (wM r g (upd (upd (upd (upd (upd (upd I17545 4 0) 6 0) 8 0) 11 (-2)) 16 0) 17 0) (up3 (up3 (up3 (up3 (up3 (up3 A17545 8 0 0) 10 0 0) 13 0 2) 14 0 0) 15 0 0) 16 0 8) L17545) 89 [(1, .int x322), (0, .ref (r 0))] []
          have lp17871 : ∀ (n17872 : Nat) (I17756 : Nat → Int32) (A17756 : Nat → Nat → Int32) (L17756 : Nat → Nat → Int64), (Md [4, 6, 7, 8, 9, 11, 12, 13, 16, 17] (upd (upd (upd (upd (upd (upd I17545 4 0) 6 0) 8 0) 11 (-2)) 16 0) 17 0) I17756) → (Md [8, 9, 10, 11, 12, 13, 14, 15, 16] (up3 (up3 (up3 (up3 (up3 (up3 A17545 8 0 0) 10 0 0) 13 0 2) 14 0 0) 15 0 0) 16 0 8) A17756) → (IvM I17756 A17756) → (10 * (401 - (I17756 4).toInt) + (10 - (I17756 6).toInt) < (n17872 : Int)) → (0 < n17872) → GW κ 2 0 0 (wM r g I17756 A17756 L17756) 89 [(1, .int x322), (0, .ref (r 0))] [] := by
            intro n17872
            induction n17872 with
            | zero =>
              intro I17756 A17756 L17756 hI17756 hA17756 hV17756 m17873 m17873z
              exact absurd m17873z (Nat.lt_irrefl 0)
            | succ n17872 ih17874 =>
              intro I17756 A17756 L17756 hI17756 hA17756 hV17756 m17873 m17873z
              have f17875 := IvM_f4 hV17756
              have f17876 := IvM_f6 hV17756
              refine g_aload_n hk dX12_read_89 rfl ?_
              refine gM_i6 (v := (I17756 6)) hk hin12 (List.mem_cons_of_mem _ (List.mem_append_left _ (List.mem_of_getElem? (i := 7) rfl))) dX12_read_90 rfl ?_
              refine g_if_ne (tgt := 111) (a := (I17756 6).toInt) hk dX12_read_93 (by decide) rfl (fun c17877 => ?_) (fun c17877 => ?_)
              · skip
                refine g_aload_n hk dX12_read_111 rfl ?_
                refine g_aload_n hk dX12_read_112 rfl ?_
                refine gM_i6 (v := (I17756 6)) hk hin12 (List.mem_cons_of_mem _ (List.mem_append_left _ (List.mem_of_getElem? (i := 7) rfl))) dX12_read_113 rfl ?_
                refine g_if_le (tgt := 126) (a := (I17756 6).toInt) hk dX12_read_116 (by decide) rfl (fun z9 => absurd z9 (show ¬ ((I17756 6).toInt ≤ 0) from by omega)) (fun _ => ?_)
                refine g_aload_n hk dX12_read_119 rfl ?_
                refine gM_i7 (v := (I17756 7)) hk hin12 (List.mem_cons_of_mem _ (List.mem_append_left _ (List.mem_of_getElem? (i := 32) rfl))) dX12_read_120 rfl ?_
                refine g_goto (tgt := 141) hk dX12_read_123 (by decide) ?_
                refine pM_i10 hk hin12 (List.mem_cons_of_mem _ (List.mem_append_left _ (List.mem_of_getElem? (i := 22) rfl))) dX12_read_141 ?_
                refine g_aload_n hk dX12_read_144 rfl ?_
                refine g_aload_n hk dX12_read_145 rfl ?_
                refine gM_i6 (v := (I17756 6)) hk hin12 (List.mem_cons_of_mem _ (List.mem_append_left _ (List.mem_of_getElem? (i := 7) rfl))) dX12_read_146 rfl ?_
                refine g_if_le (tgt := 159) (a := (I17756 6).toInt) hk dX12_read_149 (by decide) rfl (fun z9 => absurd z9 (show ¬ ((I17756 6).toInt ≤ 0) from by omega)) (fun _ => ?_)
                refine g_aload_n hk dX12_read_152 rfl ?_
                refine gM_i12 (v := (I17756 12)) hk hin12 (List.mem_cons_of_mem _ (List.mem_append_left _ (List.mem_of_getElem? (i := 33) rfl))) dX12_read_153 rfl ?_
                refine g_goto (tgt := 174) hk dX12_read_156 (by decide) ?_
                refine pM_i14 hk hin12 (List.mem_cons_of_mem _ (List.mem_append_left _ (List.mem_of_getElem? (i := 23) rfl))) dX12_read_174 ?_
                refine g_aload_n hk dX12_read_177 rfl ?_
                refine gM_i6 (v := (I17756 6)) hk hin12 (List.mem_cons_of_mem _ (List.mem_append_left _ (List.mem_of_getElem? (i := 7) rfl))) dX12_read_178 rfl ?_
                refine g_if_le (tgt := 189) (a := (I17756 6).toInt) hk dX12_read_181 (by decide) rfl (fun z9 => absurd z9 (show ¬ ((I17756 6).toInt ≤ 0) from by omega)) (fun _ => ?_)
                refine g_aload_n hk dX12_read_184 rfl ?_
                refine gM_i6 (v := (I17756 6)) hk hin12 (List.mem_cons_of_mem _ (List.mem_append_left _ (List.mem_of_getElem? (i := 7) rfl))) dX12_read_185 rfl ?_
                exact g_iret hk hR rfl ⟨(upd (upd I17756 10 (I17756 7)) 14 (I17756 12)), A17756, L17756, (show Md [1, 2, 3, 4, 6, 7, 8, 9, 10, 11, 12, 13, 14, 15, 16, 17, 22] I (upd (upd I17756 10 (I17756 7)) 14 (I17756 12)) from (Md.up (Md.up (Md.tr (Md.up (Md.up (Md.up (Md.up (Md.up (Md.up (Md.tr (Md.up (Md.tr (Md.up Md.rf rfl) hI324 rfl) rfl) hI17545 rfl) rfl) rfl) rfl) rfl) rfl) rfl) hI17756 rfl) rfl) rfl)), (show Md [1, 2, 3, 4, 8, 9, 10, 11, 12, 13, 14, 15, 16, 17, 18, 27] A A17756 from (Md.tr (Md.up3 (Md.up3 (Md.up3 (Md.up3 (Md.up3 (Md.up3 (Md.tr (Md.tr Md.rf hA324 rfl) hA17545 rfl) rfl) rfl) rfl) rfl) rfl) rfl) hA17756 rfl)), ⟨(IvM_f1 (I := I17756) (A := A17756) hV17756), (IvM_f2 (I := I17756) (A := A17756) hV17756), (IvM_f3 (I := I17756) (A := A17756) hV17756), (IvM_f4 (I := I17756) (A := A17756) hV17756), (IvM_f6 (I := I17756) (A := A17756) hV17756), (IvM_f8 (I := I17756) (A := A17756) hV17756), (IvM_f15 (I := I17756) (A := A17756) hV17756), (IvM_f16 (I := I17756) (A := A17756) hV17756), (IvM_f17 (I := I17756) (A := A17756) hV17756), (IvM_f18 (I := I17756) (A := A17756) hV17756), (IvM_f22 (I := I17756) (A := A17756) hV17756), (IvM_f23 (I := I17756) (A := A17756) hV17756), (IvM_f24 (I := I17756) (A := A17756) hV17756), (IvM_a11 (I := I17756) (A := A17756) hV17756), (IvM_a26 (I := I17756) (A := A17756) hV17756), (IvM_s8_0 (I := I17756) (A := A17756) hV17756), (IvM_s8_1 (I := I17756) (A := A17756) hV17756), (IvM_s10_0 (I := I17756) (A := A17756) hV17756), (IvM_s10_1 (I := I17756) (A := A17756) hV17756), (IvM_s17_0 (I := I17756) (A := A17756) hV17756), (IvM_s17_164 (I := I17756) (A := A17756) hV17756), (IvM_lv (I := I17756) (A := A17756) hV17756), (IvM_sd (I := I17756) (A := A17756) hV17756), (IvM_nq (I := I17756) (A := A17756) hV17756), (IvM_hr (I := I17756) (A := A17756) hV17756), (IvM_hh (I := I17756) (A := A17756) hV17756), trivial⟩, (I17756 6), (by rw [show (upd (upd I17756 10 (I17756 7)) 14 (I17756 12)) 1 = 0 from ((hI17756 1 rfl).trans (hI17545 1 rfl))]; omega), (by omega), (by omega), rfl, rfl⟩ dX12_read_188
              · skip
                refine g_aload_n hk dX12_read_96 rfl ?_
                refine g_iconst (v := 0) hk dX12_read_97 (by decide) ?_
                refine g_callV (n := 1) hk (j125_X12_is l D zt r g I17756 A17756 L17756 0 hV17756) (SP.same _) (fun _ h => h) (gi_V (List.mem_cons_of_mem _ (List.mem_append_left _ (List.mem_of_getElem? (i := 16) rfl))) (List.mem_cons_of_mem _ (List.mem_append_left _ (List.mem_of_getElem? (i := 17) rfl))) (List.mem_cons_of_mem _ (List.mem_append_left _ (List.mem_of_getElem? (i := 18) rfl))) (List.mem_cons_of_mem _ (List.mem_append_left _ (List.mem_of_getElem? (i := 5) rfl))) (gi_sub (fun w h => (List.mem_cons_of_mem _ (List.mem_append_right _ (List.mem_append_right _ (List.mem_append_right _ (List.mem_append_right _ (List.mem_append_left _ h))))))) zg_j125_X12_is)) rfl rfl rfl (by decide +kernel) ⟨Nat.le_of_ble_eq_true rfl, Nat.le_of_ble_eq_true rfl⟩ 0 rfl rfl rfl rfl (Nat.le_of_ble_eq_true rfl) ⟨Nat.le_of_ble_eq_true rfl, Nat.le_of_ble_eq_true rfl⟩ dX12_read_98 (fun v ty' w' hp hk' => ?_)
                rcases hp with ⟨c17878, rfl, rfl⟩ | ⟨c17880, rfl, rfl⟩
                · skip
                  rw [show (A17756 2 (I17756 4).toNatClampNeg) = (A17545 2 (I17756 4).toNatClampNeg) from (congrFun (hA17756 2 rfl) _)] at c17878
                  show GW κ 2 0 0 (wM r g I17756 A17756 L17756) 101 [(1, .int x322), (0, .ref (r 0))] [.int 0]
                  refine g_if_ne (tgt := 111) (a := 0) hk dX12_read_101 (by decide) rfl (fun z9 => absurd z9 (show ¬ ((0 : Int) ≠ (0 : Int)) from by decide)) (fun _ => ?_)
                  refine g_aload_n hk dX12_read_104 rfl ?_
                  have f17882 := IvM_f16 hV17756
                  refine g_callV (n := 0) hk (j126_X12_tellOne l D zt r g I17756 A17756 L17756  hV17756 (by first | (rw [show (I17756 15) = (I 15) from ((hI17756 15 rfl).trans ((hI17545 15 rfl).trans (hI324 15 rfl)))] <;> omega) | omega)) (SP.same _) (fun _ h => h) (gi_V (List.mem_cons_of_mem _ (List.mem_append_left _ (List.mem_of_getElem? (i := 19) rfl))) (List.mem_cons_of_mem _ (List.mem_append_left _ (List.mem_of_getElem? (i := 20) rfl))) (List.mem_cons_of_mem _ (List.mem_append_left _ (List.mem_of_getElem? (i := 21) rfl))) (List.mem_cons_of_mem _ (List.mem_append_left _ (List.mem_of_getElem? (i := 5) rfl))) (gi_sub (fun w h => (List.mem_cons_of_mem _ (List.mem_append_right _ (List.mem_append_right _ (List.mem_append_right _ (List.mem_append_right _ (List.mem_append_right _ (List.mem_append_left _ h)))))))) zg_j126_X12_tellOne)) rfl rfl rfl (by decide +kernel) ⟨Nat.le_of_ble_eq_true rfl, Nat.le_of_ble_eq_true rfl⟩ 0 rfl rfl rfl rfl (Nat.le_of_ble_eq_true rfl) ⟨Nat.le_of_ble_eq_true rfl, Nat.le_of_ble_eq_true rfl⟩ dX12_read_105 (fun v ty' w' hp hk' => ?_)
                  obtain ⟨I17884, A17884, L17884, hI17884, hA17884, hV17884, r17885, r17886, r17887, r17888, rfl, rfl⟩ := hp
                  have f17889 := IvM_f4 hV17884
                  have f17890 := IvM_f6 hV17884
                  have f17891 := IvM_f8 hV17756
                  have f17892 := IvM_f8 hV17884
                  show GW κ 2 0 0 (wM r g I17884 A17884 L17884) 108 [(1, .int x322), (0, .ref (r 0))] []
                  refine g_goto (tgt := 89) hk dX12_read_108 (by decide) ?_
                  exact g_lv (List.forall_mem_cons.mpr ⟨List.mem_of_getElem? (i := 0) rfl, (List.forall_mem_cons.mpr ⟨List.mem_of_getElem? (i := 1) rfl, (fun _ h => absurd h List.not_mem_nil)⟩)⟩) (ih17874 I17884 A17884 L17884 (show Md [4, 6, 7, 8, 9, 11, 12, 13, 16, 17] (upd (upd (upd (upd (upd (upd I17545 4 0) 6 0) 8 0) 11 (-2)) 16 0) 17 0) I17884 from Md.tr hI17756 (show Md [4, 6, 7, 8, 9, 11, 12, 13, 16, 17] I17756 I17884 from (Md.tr Md.rf hI17884 rfl)) rfl) (show Md [8, 9, 10, 11, 12, 13, 14, 15, 16] (up3 (up3 (up3 (up3 (up3 (up3 A17545 8 0 0) 10 0 0) 13 0 2) 14 0 0) 15 0 0) 16 0 8) A17884 from Md.tr hA17756 (show Md [8, 9, 10, 11, 12, 13, 14, 15, 16] A17756 A17884 from (Md.tr Md.rf hA17884 rfl)) rfl) hV17884 (by omega) (by omega))
                · skip
                  rw [show (A17756 2 (I17756 4).toNatClampNeg) = (A17545 2 (I17756 4).toNatClampNeg) from (congrFun (hA17756 2 rfl) _)] at c17880
                  show GW κ 2 0 0 (wM r g I17756 A17756 L17756) 101 [(1, .int x322), (0, .ref (r 0))] [.int 1]
                  refine g_if_ne (tgt := 111) (a := 1) hk dX12_read_101 (by decide) rfl (fun _ => ?_) (fun z9 => absurd (show (1 : Int) ≠ (0 : Int) from by decide) z9)
                  refine g_aload_n hk dX12_read_111 rfl ?_
                  refine g_aload_n hk dX12_read_112 rfl ?_
                  refine gM_i6 (v := (I17756 6)) hk hin12 (List.mem_cons_of_mem _ (List.mem_append_left _ (List.mem_of_getElem? (i := 7) rfl))) dX12_read_113 rfl ?_
                  refine g_if_le (tgt := 126) (a := (I17756 6).toInt) hk dX12_read_116 (by decide) rfl (fun _ => ?_) (fun z9 => absurd (show (I17756 6).toInt ≤ 0 from by omega) z9)
                  refine g_aload_n hk dX12_read_126 rfl ?_
                  refine gM_i8 (v := (I17756 8)) hk hin12 (List.mem_cons_of_mem _ (List.mem_append_left _ (List.mem_of_getElem? (i := 8) rfl))) dX12_read_127 rfl ?_
                  have f17893 := IvM_f8 hV17756
                  refine g_if_le (tgt := 140) (a := (I17756 8).toInt) hk dX12_read_130 (by decide) rfl (fun c17894 => ?_) (fun c17894 => ?_)
                  · skip
                    refine g_iconst (v := (-1)) hk dX12_read_140 (by decide) ?_
                    refine pM_i10 hk hin12 (List.mem_cons_of_mem _ (List.mem_append_left _ (List.mem_of_getElem? (i := 22) rfl))) dX12_read_141 ?_
                    refine g_aload_n hk dX12_read_144 rfl ?_
                    refine g_aload_n hk dX12_read_145 rfl ?_
                    refine gM_i6 (v := (I17756 6)) hk hin12 (List.mem_cons_of_mem _ (List.mem_append_left _ (List.mem_of_getElem? (i := 7) rfl))) dX12_read_146 rfl ?_
                    refine g_if_le (tgt := 159) (a := (I17756 6).toInt) hk dX12_read_149 (by decide) rfl (fun _ => ?_) (fun z9 => absurd (show (I17756 6).toInt ≤ 0 from by omega) z9)
                    refine g_aload_n hk dX12_read_159 rfl ?_
                    refine gM_i8 (v := (I17756 8)) hk hin12 (List.mem_cons_of_mem _ (List.mem_append_left _ (List.mem_of_getElem? (i := 8) rfl))) dX12_read_160 rfl ?_
                    refine g_if_le (tgt := 173) (a := (I17756 8).toInt) hk dX12_read_163 (by decide) rfl (fun _ => ?_) (fun z9 => absurd (show (I17756 8).toInt ≤ 0 from by omega) z9)
                    refine g_iconst (v := (-1)) hk dX12_read_173 (by decide) ?_
                    refine pM_i14 hk hin12 (List.mem_cons_of_mem _ (List.mem_append_left _ (List.mem_of_getElem? (i := 23) rfl))) dX12_read_174 ?_
                    refine g_aload_n hk dX12_read_177 rfl ?_
                    refine gM_i6 (v := (I17756 6)) hk hin12 (List.mem_cons_of_mem _ (List.mem_append_left _ (List.mem_of_getElem? (i := 7) rfl))) dX12_read_178 rfl ?_
                    refine g_if_le (tgt := 189) (a := (I17756 6).toInt) hk dX12_read_181 (by decide) rfl (fun _ => ?_) (fun z9 => absurd (show (I17756 6).toInt ≤ 0 from by omega) z9)
                    refine g_aload_n hk dX12_read_189 rfl ?_
                    refine gM_i8 (v := (I17756 8)) hk hin12 (List.mem_cons_of_mem _ (List.mem_append_left _ (List.mem_of_getElem? (i := 8) rfl))) dX12_read_190 rfl ?_
                    refine g_if_le (tgt := 201) (a := (I17756 8).toInt) hk dX12_read_193 (by decide) rfl (fun _ => ?_) (fun z9 => absurd (show (I17756 8).toInt ≤ 0 from by omega) z9)
                    refine g_aload_n hk dX12_read_201 rfl ?_
                    refine g_aload_n hk dX12_read_202 rfl ?_
                    refine gM_i16 (v := (I17756 16)) hk hin12 (List.mem_cons_of_mem _ (List.mem_append_left _ (List.mem_of_getElem? (i := 11) rfl))) dX12_read_203 rfl ?_
                    have f17895 := IvM_f16 hV17756
                    by_cases c17896 : (I17756 16).toInt = 0
                    · have ec17896 : (I17756 16) = 0 := Int32.toInt_inj.mp c17896
                      rw [ec17896]
                      show GW κ 2 0 0 (wM r g (upd (upd I17756 10 (-1)) 14 (-1)) A17756 L17756) 206 [(1, .int x322), (0, .ref (r 0))] [.int 0, .ref (r 0)]
                      refine pM_i15 hk hin12 (List.mem_cons_of_mem _ (List.mem_append_left _ (List.mem_of_getElem? (i := 10) rfl))) dX12_read_206 ?_
                      refine g_aload_n hk dX12_read_209 rfl ?_
                      refine g_callV (n := 0) hk (j138_X12_begins l D zt r g (upd (upd (upd I17756 10 (-1)) 14 (-1)) 15 0) A17756 L17756  ⟨(IvM_f1 (I := I17756) (A := A17756) hV17756), (IvM_f2 (I := I17756) (A := A17756) hV17756), (IvM_f3 (I := I17756) (A := A17756) hV17756), (IvM_f4 (I := I17756) (A := A17756) hV17756), (IvM_f6 (I := I17756) (A := A17756) hV17756), (IvM_f8 (I := I17756) (A := A17756) hV17756), (show 0 ≤ (0 : Int32).toInt ∧ (0 : Int32).toInt ≤ 1 from ⟨by decide, by decide⟩), (IvM_f16 (I := I17756) (A := A17756) hV17756), (IvM_f17 (I := I17756) (A := A17756) hV17756), (IvM_f18 (I := I17756) (A := A17756) hV17756), (IvM_f22 (I := I17756) (A := A17756) hV17756), (IvM_f23 (I := I17756) (A := A17756) hV17756), (IvM_f24 (I := I17756) (A := A17756) hV17756), (IvM_a11 (I := I17756) (A := A17756) hV17756), (IvM_a26 (I := I17756) (A := A17756) hV17756), (IvM_s8_0 (I := I17756) (A := A17756) hV17756), (IvM_s8_1 (I := I17756) (A := A17756) hV17756), (IvM_s10_0 (I := I17756) (A := A17756) hV17756), (IvM_s10_1 (I := I17756) (A := A17756) hV17756), (IvM_s17_0 (I := I17756) (A := A17756) hV17756), (IvM_s17_164 (I := I17756) (A := A17756) hV17756), ⟨fun e => (by rcases (IvM_sd (I := I17756) (A := A17756) hV17756) with h9 | h9 | h9; exact absurd h9 (by omega); exact absurd h9 (by omega); exact h9.1 (by omega)), fun e => absurd (show (0 : Int32).toInt = 1 from e) (by decide)⟩, (IvM_sd (I := I17756) (A := A17756) hV17756), (IvM_nq (I := I17756) (A := A17756) hV17756), (IvM_hr (I := I17756) (A := A17756) hV17756), (IvM_hh (I := I17756) (A := A17756) hV17756), trivial⟩) (SP.same _) (fun _ h => h) (gi_V (List.mem_cons_of_mem _ (List.mem_append_left _ (List.mem_of_getElem? (i := 24) rfl))) (List.mem_cons_of_mem _ (List.mem_append_left _ (List.mem_of_getElem? (i := 25) rfl))) (List.mem_cons_of_mem _ (List.mem_append_left _ (List.mem_of_getElem? (i := 26) rfl))) (List.mem_cons_of_mem _ (List.mem_append_left _ (List.mem_of_getElem? (i := 5) rfl))) (gi_sub (fun w h => (List.mem_cons_of_mem _ (List.mem_append_right _ (List.mem_append_right _ (List.mem_append_right _ (List.mem_append_right _ (List.mem_append_right _ (List.mem_append_right _ (List.mem_append_left _ h))))))))) zg_j138_X12_begins)) rfl rfl rfl (by decide +kernel) ⟨Nat.le_of_ble_eq_true rfl, Nat.le_of_ble_eq_true rfl⟩ 0 rfl rfl rfl rfl (Nat.le_of_ble_eq_true rfl) ⟨Nat.le_of_ble_eq_true rfl, Nat.le_of_ble_eq_true rfl⟩ dX12_read_210 (fun v ty' w' hp hk' => ?_)
                      obtain ⟨I17898, A17898, L17898, hI17898, hA17898, hV17898, r17899, r17900, r17901, rfl, rfl⟩ := hp
                      show GW κ 2 0 0 (wM r g I17898 A17898 L17898) 213 [(1, .int x322), (0, .ref (r 0))] []
                      refine g_aload_n hk dX12_read_213 rfl ?_
                      refine g_callV (n := 0) hk (j139_X12_keepsRow l D zt r g I17898 A17898 L17898  hV17898 (by omega) (by omega) (by omega)) (SP.same _) (fun _ h => h) (gi_V (List.mem_cons_of_mem _ (List.mem_append_left _ (List.mem_of_getElem? (i := 27) rfl))) (List.mem_cons_of_mem _ (List.mem_append_left _ (List.mem_of_getElem? (i := 28) rfl))) (List.mem_cons_of_mem _ (List.mem_append_left _ (List.mem_of_getElem? (i := 29) rfl))) (List.mem_cons_of_mem _ (List.mem_append_left _ (List.mem_of_getElem? (i := 5) rfl))) (gi_sub (fun w h => (List.mem_cons_of_mem _ (List.mem_append_right _ (List.mem_append_right _ (List.mem_append_right _ (List.mem_append_right _ (List.mem_append_right _ (List.mem_append_right _ (List.mem_append_right _ (List.mem_append_left _ h)))))))))) zg_j139_X12_keepsRow)) rfl rfl rfl (by decide +kernel) ⟨Nat.le_of_ble_eq_true rfl, Nat.le_of_ble_eq_true rfl⟩ 0 rfl rfl rfl rfl (Nat.le_of_ble_eq_true rfl) ⟨Nat.le_of_ble_eq_true rfl, Nat.le_of_ble_eq_true rfl⟩ dX12_read_214 (fun v ty' w' hp hk' => ?_)
                      obtain ⟨I17903, A17903, L17903, hI17903, hA17903, hV17903, rfl, rfl⟩ := hp
                      show GW κ 2 0 0 (wM r g I17903 A17903 L17903) 217 [(1, .int x322), (0, .ref (r 0))] []
                      refine g_aload_n hk dX12_read_217 rfl ?_
                      refine g_iconst (v := 0) hk dX12_read_218 (by decide) ?_
                      refine pM_i22 hk hin12 (List.mem_cons_of_mem _ (List.mem_append_left _ (List.mem_of_getElem? (i := 30) rfl))) dX12_read_219 ?_
                      refine g_iconst (v := 0) hk dX12_read_222 (by decide) ?_
                      refine g_istore_n (lv' := [(1, .int 0), (0, .ref (r 0))]) hk dX12_read_223 (by decide) rfl ?_
                      have lp17915 : ∀ (n17916 : Nat) (x17904 : Int32) (I17906 : Nat → Int32) (A17906 : Nat → Nat → Int32) (L17906 : Nat → Nat → Int64), (Md [22] (upd I17903 22 0) I17906) → (Md [27] A17903 A17906) → (IvM I17906 A17906) → (0 ≤ x17904.toInt) → (x17904.toInt ≤ 3) → (3 - x17904.toInt < (n17916 : Int)) → (0 < n17916) → GW κ 2 0 0 (wM r g I17906 A17906 L17906) 224 [(1, .int x17904), (0, .ref (r 0))] [] := by
                        intro n17916
                        induction n17916 with
                        | zero =>
                          intro x17904 I17906 A17906 L17906 hI17906 hA17906 hV17906 h17913 h17914 m17917 m17917z
                          exact absurd m17917z (Nat.lt_irrefl 0)
                        | succ n17916 ih17918 =>
                          intro x17904 I17906 A17906 L17906 hI17906 hA17906 hV17906 h17913 h17914 m17917 m17917z
                          refine g_iload_n hk dX12_read_224 rfl ?_
                          refine g_iconst (v := 3) hk dX12_read_225 (by decide) ?_
                          refine g_icmp_ge (tgt := 242) (a := x17904.toInt) (b := 3) hk dX12_read_226 (by decide) rfl rfl (fun c17919 => ?_) (fun c17919 => ?_)
                          · skip
                            refine g_iconst (v := 0) hk dX12_read_242 (by decide) ?_
                            exact g_iret hk hR rfl ⟨I17906, A17906, L17906, (show Md [1, 2, 3, 4, 6, 7, 8, 9, 10, 11, 12, 13, 14, 15, 16, 17, 22] I I17906 from (Md.tr (Md.up (Md.tr (Md.tr (Md.up (Md.up (Md.up (Md.tr (Md.up (Md.up (Md.up (Md.up (Md.up (Md.up (Md.tr (Md.up (Md.tr (Md.up Md.rf rfl) hI324 rfl) rfl) hI17545 rfl) rfl) rfl) rfl) rfl) rfl) rfl) hI17756 rfl) rfl) rfl) rfl) hI17898 rfl) hI17903 rfl) rfl) hI17906 rfl)), (show Md [1, 2, 3, 4, 8, 9, 10, 11, 12, 13, 14, 15, 16, 17, 18, 27] A A17906 from (Md.tr (Md.tr (Md.tr (Md.tr (Md.up3 (Md.up3 (Md.up3 (Md.up3 (Md.up3 (Md.up3 (Md.tr (Md.tr Md.rf hA324 rfl) hA17545 rfl) rfl) rfl) rfl) rfl) rfl) rfl) hA17756 rfl) hA17898 rfl) hA17903 rfl) hA17906 rfl)), hV17906, 0, (by rw [show I17906 1 = 0 from ((hI17906 1 rfl).trans ((hI17903 1 rfl).trans ((hI17898 1 rfl).trans ((hI17756 1 rfl).trans (hI17545 1 rfl)))))]; omega), (by decide), (by decide), rfl, rfl⟩ dX12_read_243
                          · skip
                            refine g_aload_n hk dX12_read_229 rfl ?_
                            refine gM_r0_53 hk hin12 (List.mem_cons_of_mem _ (List.mem_append_left _ (List.mem_of_getElem? (i := 31) rfl))) dX12_read_230 ?_
                            refine g_iload_n hk dX12_read_233 rfl ?_
                            refine g_iconst (v := 0) hk dX12_read_234 (by decide) ?_
                            refine sM_27 (y := (vp_nar .boolean 0)) (j := x17904.toNatClampNeg) hk (vp_in_iff.mpr ⟨by omega, by omega⟩) rfl rfl dX12_read_235 ?_
                            obtain ⟨y17920, ey17920⟩ : ∃ y : Int32, y = x17904 + Int32.ofInt 1 := ⟨_, rfl⟩
                            have hy17920 : y17920.toInt = x17904.toInt + 1 := i32_add ey17920 rfl (by decide) (by omega) (by omega)
                            refine g_iinc (v := y17920) (lv' := [(1, .int y17920), (0, .ref (r 0))]) hk 0 dX12_read_236 rfl ey17920.symm (by decide) rfl ?_
                            refine g_goto (tgt := 224) hk dX12_read_239 (by decide) ?_
                            exact g_lv (List.forall_mem_cons.mpr ⟨List.mem_of_getElem? (i := 0) rfl, (List.forall_mem_cons.mpr ⟨List.mem_of_getElem? (i := 1) rfl, (fun _ h => absurd h List.not_mem_nil)⟩)⟩) (ih17918 y17920 I17906 (up3 A17906 27 (x17904.toNatClampNeg) (vp_nar .boolean 0)) L17906 (show Md [22] (upd I17903 22 0) I17906 from Md.tr hI17906 (show Md [22] I17906 I17906 from Md.rf) rfl) (show Md [27] A17903 (up3 A17906 27 (x17904.toNatClampNeg) (vp_nar .boolean 0)) from Md.tr hA17906 (show Md [27] A17906 (up3 A17906 27 (x17904.toNatClampNeg) (vp_nar .boolean 0)) from (Md.up3 Md.rf rfl)) rfl) ⟨(IvM_f1 (I := I17906) (A := A17906) hV17906), (IvM_f2 (I := I17906) (A := A17906) hV17906), (IvM_f3 (I := I17906) (A := A17906) hV17906), (IvM_f4 (I := I17906) (A := A17906) hV17906), (IvM_f6 (I := I17906) (A := A17906) hV17906), (IvM_f8 (I := I17906) (A := A17906) hV17906), (IvM_f15 (I := I17906) (A := A17906) hV17906), (IvM_f16 (I := I17906) (A := A17906) hV17906), (IvM_f17 (I := I17906) (A := A17906) hV17906), (IvM_f18 (I := I17906) (A := A17906) hV17906), (IvM_f22 (I := I17906) (A := A17906) hV17906), (IvM_f23 (I := I17906) (A := A17906) hV17906), (IvM_f24 (I := I17906) (A := A17906) hV17906), (IvM_a11 (I := I17906) (A := A17906) hV17906), (IvM_a26 (I := I17906) (A := A17906) hV17906), (IvM_s8_0 (I := I17906) (A := A17906) hV17906), (IvM_s8_1 (I := I17906) (A := A17906) hV17906), (IvM_s10_0 (I := I17906) (A := A17906) hV17906), (IvM_s10_1 (I := I17906) (A := A17906) hV17906), (IvM_s17_0 (I := I17906) (A := A17906) hV17906), (IvM_s17_164 (I := I17906) (A := A17906) hV17906), (IvM_lv (I := I17906) (A := A17906) hV17906), (IvM_sd (I := I17906) (A := A17906) hV17906), (IvM_nq (I := I17906) (A := A17906) hV17906), (IvM_hr (I := I17906) (A := A17906) hV17906), (hh_off (IvM_hh (I := I17906) (A := A17906) hV17906) (by decide)), trivial⟩ (by omega) (by omega) (by omega) (by omega))
                      obtain ⟨n17921, n17921a, n17921b⟩ : ∃ n : Nat, 3 - (0 : Int32).toInt < (n : Int) ∧ 0 < n := ⟨((3 - (0 : Int32).toInt : Int)).toNat + 1, by omega, by omega⟩
                      exact lp17915 n17921 0 (upd I17903 22 0) A17903 L17903 Md.rf Md.rf ⟨(IvM_f1 (I := I17903) (A := A17903) hV17903), (IvM_f2 (I := I17903) (A := A17903) hV17903), (IvM_f3 (I := I17903) (A := A17903) hV17903), (IvM_f4 (I := I17903) (A := A17903) hV17903), (IvM_f6 (I := I17903) (A := A17903) hV17903), (IvM_f8 (I := I17903) (A := A17903) hV17903), (IvM_f15 (I := I17903) (A := A17903) hV17903), (IvM_f16 (I := I17903) (A := A17903) hV17903), (IvM_f17 (I := I17903) (A := A17903) hV17903), (IvM_f18 (I := I17903) (A := A17903) hV17903), (show 0 ≤ (0 : Int32).toInt ∧ (0 : Int32).toInt ≤ 40 from ⟨by decide, by decide⟩), (IvM_f23 (I := I17903) (A := A17903) hV17903), (IvM_f24 (I := I17903) (A := A17903) hV17903), (IvM_a11 (I := I17903) (A := A17903) hV17903), (IvM_a26 (I := I17903) (A := A17903) hV17903), (IvM_s8_0 (I := I17903) (A := A17903) hV17903), (IvM_s8_1 (I := I17903) (A := A17903) hV17903), (IvM_s10_0 (I := I17903) (A := A17903) hV17903), (IvM_s10_1 (I := I17903) (A := A17903) hV17903), (IvM_s17_0 (I := I17903) (A := A17903) hV17903), (IvM_s17_164 (I := I17903) (A := A17903) hV17903), (IvM_lv (I := I17903) (A := A17903) hV17903), (IvM_sd (I := I17903) (A := A17903) hV17903), (IvM_nq (I := I17903) (A := A17903) hV17903), (fun j hj => absurd (show (j : Int) < (0 : Int32).toInt from hj) (by have : (0 : Int32).toInt = 0 := rfl; omega)), (IvM_hh (I := I17903) (A := A17903) hV17903), trivial⟩ (by omega) (by omega) n17921a n17921b
                    by_cases c17922 : (I17756 16).toInt = 1
                    · have ec17922 : (I17756 16) = 1 := Int32.toInt_inj.mp c17922
                      rw [ec17922]
                      show GW κ 2 0 0 (wM r g (upd (upd I17756 10 (-1)) 14 (-1)) A17756 L17756) 206 [(1, .int x322), (0, .ref (r 0))] [.int 1, .ref (r 0)]
                      refine pM_i15 hk hin12 (List.mem_cons_of_mem _ (List.mem_append_left _ (List.mem_of_getElem? (i := 10) rfl))) dX12_read_206 ?_
                      refine g_aload_n hk dX12_read_209 rfl ?_
                      refine g_callV (n := 0) hk (j138_X12_begins l D zt r g (upd (upd (upd I17756 10 (-1)) 14 (-1)) 15 1) A17756 L17756  ⟨(IvM_f1 (I := I17756) (A := A17756) hV17756), (IvM_f2 (I := I17756) (A := A17756) hV17756), (IvM_f3 (I := I17756) (A := A17756) hV17756), (IvM_f4 (I := I17756) (A := A17756) hV17756), (IvM_f6 (I := I17756) (A := A17756) hV17756), (IvM_f8 (I := I17756) (A := A17756) hV17756), (show 0 ≤ (1 : Int32).toInt ∧ (1 : Int32).toInt ≤ 1 from ⟨by decide, by decide⟩), (IvM_f16 (I := I17756) (A := A17756) hV17756), (IvM_f17 (I := I17756) (A := A17756) hV17756), (IvM_f18 (I := I17756) (A := A17756) hV17756), (IvM_f22 (I := I17756) (A := A17756) hV17756), (IvM_f23 (I := I17756) (A := A17756) hV17756), (IvM_f24 (I := I17756) (A := A17756) hV17756), (IvM_a11 (I := I17756) (A := A17756) hV17756), (IvM_a26 (I := I17756) (A := A17756) hV17756), (IvM_s8_0 (I := I17756) (A := A17756) hV17756), (IvM_s8_1 (I := I17756) (A := A17756) hV17756), (IvM_s10_0 (I := I17756) (A := A17756) hV17756), (IvM_s10_1 (I := I17756) (A := A17756) hV17756), (IvM_s17_0 (I := I17756) (A := A17756) hV17756), (IvM_s17_164 (I := I17756) (A := A17756) hV17756), ⟨fun e => absurd (show (1 : Int32).toInt = 0 from e) (by decide), fun e => (by rcases (IvM_sd (I := I17756) (A := A17756) hV17756) with h9 | h9 | h9; exact absurd h9 (by omega); exact absurd h9 (by omega); exact h9.2 (by omega))⟩, (IvM_sd (I := I17756) (A := A17756) hV17756), (IvM_nq (I := I17756) (A := A17756) hV17756), (IvM_hr (I := I17756) (A := A17756) hV17756), (IvM_hh (I := I17756) (A := A17756) hV17756), trivial⟩) (SP.same _) (fun _ h => h) (gi_V (List.mem_cons_of_mem _ (List.mem_append_left _ (List.mem_of_getElem? (i := 24) rfl))) (List.mem_cons_of_mem _ (List.mem_append_left _ (List.mem_of_getElem? (i := 25) rfl))) (List.mem_cons_of_mem _ (List.mem_append_left _ (List.mem_of_getElem? (i := 26) rfl))) (List.mem_cons_of_mem _ (List.mem_append_left _ (List.mem_of_getElem? (i := 5) rfl))) (gi_sub (fun w h => (List.mem_cons_of_mem _ (List.mem_append_right _ (List.mem_append_right _ (List.mem_append_right _ (List.mem_append_right _ (List.mem_append_right _ (List.mem_append_right _ (List.mem_append_left _ h))))))))) zg_j138_X12_begins)) rfl rfl rfl (by decide +kernel) ⟨Nat.le_of_ble_eq_true rfl, Nat.le_of_ble_eq_true rfl⟩ 0 rfl rfl rfl rfl (Nat.le_of_ble_eq_true rfl) ⟨Nat.le_of_ble_eq_true rfl, Nat.le_of_ble_eq_true rfl⟩ dX12_read_210 (fun v ty' w' hp hk' => ?_)
                      obtain ⟨I17924, A17924, L17924, hI17924, hA17924, hV17924, r17925, r17926, r17927, rfl, rfl⟩ := hp
                      show GW κ 2 0 0 (wM r g I17924 A17924 L17924) 213 [(1, .int x322), (0, .ref (r 0))] []
                      refine g_aload_n hk dX12_read_213 rfl ?_
                      refine g_callV (n := 0) hk (j139_X12_keepsRow l D zt r g I17924 A17924 L17924  hV17924 (by omega) (by omega) (by omega)) (SP.same _) (fun _ h => h) (gi_V (List.mem_cons_of_mem _ (List.mem_append_left _ (List.mem_of_getElem? (i := 27) rfl))) (List.mem_cons_of_mem _ (List.mem_append_left _ (List.mem_of_getElem? (i := 28) rfl))) (List.mem_cons_of_mem _ (List.mem_append_left _ (List.mem_of_getElem? (i := 29) rfl))) (List.mem_cons_of_mem _ (List.mem_append_left _ (List.mem_of_getElem? (i := 5) rfl))) (gi_sub (fun w h => (List.mem_cons_of_mem _ (List.mem_append_right _ (List.mem_append_right _ (List.mem_append_right _ (List.mem_append_right _ (List.mem_append_right _ (List.mem_append_right _ (List.mem_append_right _ (List.mem_append_left _ h)))))))))) zg_j139_X12_keepsRow)) rfl rfl rfl (by decide +kernel) ⟨Nat.le_of_ble_eq_true rfl, Nat.le_of_ble_eq_true rfl⟩ 0 rfl rfl rfl rfl (Nat.le_of_ble_eq_true rfl) ⟨Nat.le_of_ble_eq_true rfl, Nat.le_of_ble_eq_true rfl⟩ dX12_read_214 (fun v ty' w' hp hk' => ?_)
                      obtain ⟨I17929, A17929, L17929, hI17929, hA17929, hV17929, rfl, rfl⟩ := hp
                      show GW κ 2 0 0 (wM r g I17929 A17929 L17929) 217 [(1, .int x322), (0, .ref (r 0))] []
                      refine g_aload_n hk dX12_read_217 rfl ?_
                      refine g_iconst (v := 0) hk dX12_read_218 (by decide) ?_
                      refine pM_i22 hk hin12 (List.mem_cons_of_mem _ (List.mem_append_left _ (List.mem_of_getElem? (i := 30) rfl))) dX12_read_219 ?_
                      refine g_iconst (v := 0) hk dX12_read_222 (by decide) ?_
                      refine g_istore_n (lv' := [(1, .int 0), (0, .ref (r 0))]) hk dX12_read_223 (by decide) rfl ?_
                      have lp17941 : ∀ (n17942 : Nat) (x17930 : Int32) (I17932 : Nat → Int32) (A17932 : Nat → Nat → Int32) (L17932 : Nat → Nat → Int64), (Md [22] (upd I17929 22 0) I17932) → (Md [27] A17929 A17932) → (IvM I17932 A17932) → (0 ≤ x17930.toInt) → (x17930.toInt ≤ 3) → (3 - x17930.toInt < (n17942 : Int)) → (0 < n17942) → GW κ 2 0 0 (wM r g I17932 A17932 L17932) 224 [(1, .int x17930), (0, .ref (r 0))] [] := by
                        intro n17942
                        induction n17942 with
                        | zero =>
                          intro x17930 I17932 A17932 L17932 hI17932 hA17932 hV17932 h17939 h17940 m17943 m17943z
                          exact absurd m17943z (Nat.lt_irrefl 0)
                        | succ n17942 ih17944 =>
                          intro x17930 I17932 A17932 L17932 hI17932 hA17932 hV17932 h17939 h17940 m17943 m17943z
                          refine g_iload_n hk dX12_read_224 rfl ?_
                          refine g_iconst (v := 3) hk dX12_read_225 (by decide) ?_
                          refine g_icmp_ge (tgt := 242) (a := x17930.toInt) (b := 3) hk dX12_read_226 (by decide) rfl rfl (fun c17945 => ?_) (fun c17945 => ?_)
                          · skip
                            refine g_iconst (v := 0) hk dX12_read_242 (by decide) ?_
                            exact g_iret hk hR rfl ⟨I17932, A17932, L17932, (show Md [1, 2, 3, 4, 6, 7, 8, 9, 10, 11, 12, 13, 14, 15, 16, 17, 22] I I17932 from (Md.tr (Md.up (Md.tr (Md.tr (Md.up (Md.up (Md.up (Md.tr (Md.up (Md.up (Md.up (Md.up (Md.up (Md.up (Md.tr (Md.up (Md.tr (Md.up Md.rf rfl) hI324 rfl) rfl) hI17545 rfl) rfl) rfl) rfl) rfl) rfl) rfl) hI17756 rfl) rfl) rfl) rfl) hI17924 rfl) hI17929 rfl) rfl) hI17932 rfl)), (show Md [1, 2, 3, 4, 8, 9, 10, 11, 12, 13, 14, 15, 16, 17, 18, 27] A A17932 from (Md.tr (Md.tr (Md.tr (Md.tr (Md.up3 (Md.up3 (Md.up3 (Md.up3 (Md.up3 (Md.up3 (Md.tr (Md.tr Md.rf hA324 rfl) hA17545 rfl) rfl) rfl) rfl) rfl) rfl) rfl) hA17756 rfl) hA17924 rfl) hA17929 rfl) hA17932 rfl)), hV17932, 0, (by rw [show I17932 1 = 0 from ((hI17932 1 rfl).trans ((hI17929 1 rfl).trans ((hI17924 1 rfl).trans ((hI17756 1 rfl).trans (hI17545 1 rfl)))))]; omega), (by decide), (by decide), rfl, rfl⟩ dX12_read_243
                          · skip
                            refine g_aload_n hk dX12_read_229 rfl ?_
                            refine gM_r0_53 hk hin12 (List.mem_cons_of_mem _ (List.mem_append_left _ (List.mem_of_getElem? (i := 31) rfl))) dX12_read_230 ?_
                            refine g_iload_n hk dX12_read_233 rfl ?_
                            refine g_iconst (v := 0) hk dX12_read_234 (by decide) ?_
                            refine sM_27 (y := (vp_nar .boolean 0)) (j := x17930.toNatClampNeg) hk (vp_in_iff.mpr ⟨by omega, by omega⟩) rfl rfl dX12_read_235 ?_
                            obtain ⟨y17946, ey17946⟩ : ∃ y : Int32, y = x17930 + Int32.ofInt 1 := ⟨_, rfl⟩
                            have hy17946 : y17946.toInt = x17930.toInt + 1 := i32_add ey17946 rfl (by decide) (by omega) (by omega)
                            refine g_iinc (v := y17946) (lv' := [(1, .int y17946), (0, .ref (r 0))]) hk 0 dX12_read_236 rfl ey17946.symm (by decide) rfl ?_
                            refine g_goto (tgt := 224) hk dX12_read_239 (by decide) ?_
                            exact g_lv (List.forall_mem_cons.mpr ⟨List.mem_of_getElem? (i := 0) rfl, (List.forall_mem_cons.mpr ⟨List.mem_of_getElem? (i := 1) rfl, (fun _ h => absurd h List.not_mem_nil)⟩)⟩) (ih17944 y17946 I17932 (up3 A17932 27 (x17930.toNatClampNeg) (vp_nar .boolean 0)) L17932 (show Md [22] (upd I17929 22 0) I17932 from Md.tr hI17932 (show Md [22] I17932 I17932 from Md.rf) rfl) (show Md [27] A17929 (up3 A17932 27 (x17930.toNatClampNeg) (vp_nar .boolean 0)) from Md.tr hA17932 (show Md [27] A17932 (up3 A17932 27 (x17930.toNatClampNeg) (vp_nar .boolean 0)) from (Md.up3 Md.rf rfl)) rfl) ⟨(IvM_f1 (I := I17932) (A := A17932) hV17932), (IvM_f2 (I := I17932) (A := A17932) hV17932), (IvM_f3 (I := I17932) (A := A17932) hV17932), (IvM_f4 (I := I17932) (A := A17932) hV17932), (IvM_f6 (I := I17932) (A := A17932) hV17932), (IvM_f8 (I := I17932) (A := A17932) hV17932), (IvM_f15 (I := I17932) (A := A17932) hV17932), (IvM_f16 (I := I17932) (A := A17932) hV17932), (IvM_f17 (I := I17932) (A := A17932) hV17932), (IvM_f18 (I := I17932) (A := A17932) hV17932), (IvM_f22 (I := I17932) (A := A17932) hV17932), (IvM_f23 (I := I17932) (A := A17932) hV17932), (IvM_f24 (I := I17932) (A := A17932) hV17932), (IvM_a11 (I := I17932) (A := A17932) hV17932), (IvM_a26 (I := I17932) (A := A17932) hV17932), (IvM_s8_0 (I := I17932) (A := A17932) hV17932), (IvM_s8_1 (I := I17932) (A := A17932) hV17932), (IvM_s10_0 (I := I17932) (A := A17932) hV17932), (IvM_s10_1 (I := I17932) (A := A17932) hV17932), (IvM_s17_0 (I := I17932) (A := A17932) hV17932), (IvM_s17_164 (I := I17932) (A := A17932) hV17932), (IvM_lv (I := I17932) (A := A17932) hV17932), (IvM_sd (I := I17932) (A := A17932) hV17932), (IvM_nq (I := I17932) (A := A17932) hV17932), (IvM_hr (I := I17932) (A := A17932) hV17932), (hh_off (IvM_hh (I := I17932) (A := A17932) hV17932) (by decide)), trivial⟩ (by omega) (by omega) (by omega) (by omega))
                      obtain ⟨n17947, n17947a, n17947b⟩ : ∃ n : Nat, 3 - (0 : Int32).toInt < (n : Int) ∧ 0 < n := ⟨((3 - (0 : Int32).toInt : Int)).toNat + 1, by omega, by omega⟩
                      exact lp17941 n17947 0 (upd I17929 22 0) A17929 L17929 Md.rf Md.rf ⟨(IvM_f1 (I := I17929) (A := A17929) hV17929), (IvM_f2 (I := I17929) (A := A17929) hV17929), (IvM_f3 (I := I17929) (A := A17929) hV17929), (IvM_f4 (I := I17929) (A := A17929) hV17929), (IvM_f6 (I := I17929) (A := A17929) hV17929), (IvM_f8 (I := I17929) (A := A17929) hV17929), (IvM_f15 (I := I17929) (A := A17929) hV17929), (IvM_f16 (I := I17929) (A := A17929) hV17929), (IvM_f17 (I := I17929) (A := A17929) hV17929), (IvM_f18 (I := I17929) (A := A17929) hV17929), (show 0 ≤ (0 : Int32).toInt ∧ (0 : Int32).toInt ≤ 40 from ⟨by decide, by decide⟩), (IvM_f23 (I := I17929) (A := A17929) hV17929), (IvM_f24 (I := I17929) (A := A17929) hV17929), (IvM_a11 (I := I17929) (A := A17929) hV17929), (IvM_a26 (I := I17929) (A := A17929) hV17929), (IvM_s8_0 (I := I17929) (A := A17929) hV17929), (IvM_s8_1 (I := I17929) (A := A17929) hV17929), (IvM_s10_0 (I := I17929) (A := A17929) hV17929), (IvM_s10_1 (I := I17929) (A := A17929) hV17929), (IvM_s17_0 (I := I17929) (A := A17929) hV17929), (IvM_s17_164 (I := I17929) (A := A17929) hV17929), (IvM_lv (I := I17929) (A := A17929) hV17929), (IvM_sd (I := I17929) (A := A17929) hV17929), (IvM_nq (I := I17929) (A := A17929) hV17929), (fun j hj => absurd (show (j : Int) < (0 : Int32).toInt from hj) (by have : (0 : Int32).toInt = 0 := rfl; omega)), (IvM_hh (I := I17929) (A := A17929) hV17929), trivial⟩ (by omega) (by omega) n17947a n17947b
                    exfalso; omega
                  · skip
                    refine g_aload_n hk dX12_read_133 rfl ?_
                    refine gM_i9 (v := (I17756 9)) hk hin12 (List.mem_cons_of_mem _ (List.mem_append_left _ (List.mem_of_getElem? (i := 34) rfl))) dX12_read_134 rfl ?_
                    refine g_goto (tgt := 141) hk dX12_read_137 (by decide) ?_
                    refine pM_i10 hk hin12 (List.mem_cons_of_mem _ (List.mem_append_left _ (List.mem_of_getElem? (i := 22) rfl))) dX12_read_141 ?_
                    refine g_aload_n hk dX12_read_144 rfl ?_
                    refine g_aload_n hk dX12_read_145 rfl ?_
                    refine gM_i6 (v := (I17756 6)) hk hin12 (List.mem_cons_of_mem _ (List.mem_append_left _ (List.mem_of_getElem? (i := 7) rfl))) dX12_read_146 rfl ?_
                    refine g_if_le (tgt := 159) (a := (I17756 6).toInt) hk dX12_read_149 (by decide) rfl (fun _ => ?_) (fun z9 => absurd (show (I17756 6).toInt ≤ 0 from by omega) z9)
                    refine g_aload_n hk dX12_read_159 rfl ?_
                    refine gM_i8 (v := (I17756 8)) hk hin12 (List.mem_cons_of_mem _ (List.mem_append_left _ (List.mem_of_getElem? (i := 8) rfl))) dX12_read_160 rfl ?_
                    refine g_if_le (tgt := 173) (a := (I17756 8).toInt) hk dX12_read_163 (by decide) rfl (fun z9 => absurd z9 (show ¬ ((I17756 8).toInt ≤ 0) from by omega)) (fun _ => ?_)
                    refine g_aload_n hk dX12_read_166 rfl ?_
                    refine gM_i13 (v := (I17756 13)) hk hin12 (List.mem_cons_of_mem _ (List.mem_append_left _ (List.mem_of_getElem? (i := 35) rfl))) dX12_read_167 rfl ?_
                    refine g_goto (tgt := 174) hk dX12_read_170 (by decide) ?_
                    refine pM_i14 hk hin12 (List.mem_cons_of_mem _ (List.mem_append_left _ (List.mem_of_getElem? (i := 23) rfl))) dX12_read_174 ?_
                    refine g_aload_n hk dX12_read_177 rfl ?_
                    refine gM_i6 (v := (I17756 6)) hk hin12 (List.mem_cons_of_mem _ (List.mem_append_left _ (List.mem_of_getElem? (i := 7) rfl))) dX12_read_178 rfl ?_
                    refine g_if_le (tgt := 189) (a := (I17756 6).toInt) hk dX12_read_181 (by decide) rfl (fun _ => ?_) (fun z9 => absurd (show (I17756 6).toInt ≤ 0 from by omega) z9)
                    refine g_aload_n hk dX12_read_189 rfl ?_
                    refine gM_i8 (v := (I17756 8)) hk hin12 (List.mem_cons_of_mem _ (List.mem_append_left _ (List.mem_of_getElem? (i := 8) rfl))) dX12_read_190 rfl ?_
                    refine g_if_le (tgt := 201) (a := (I17756 8).toInt) hk dX12_read_193 (by decide) rfl (fun z9 => absurd z9 (show ¬ ((I17756 8).toInt ≤ 0) from by omega)) (fun _ => ?_)
                    refine g_aload_n hk dX12_read_196 rfl ?_
                    refine gM_i8 (v := (I17756 8)) hk hin12 (List.mem_cons_of_mem _ (List.mem_append_left _ (List.mem_of_getElem? (i := 8) rfl))) dX12_read_197 rfl ?_
                    exact g_iret hk hR rfl ⟨(upd (upd I17756 10 (I17756 9)) 14 (I17756 13)), A17756, L17756, (show Md [1, 2, 3, 4, 6, 7, 8, 9, 10, 11, 12, 13, 14, 15, 16, 17, 22] I (upd (upd I17756 10 (I17756 9)) 14 (I17756 13)) from (Md.up (Md.up (Md.tr (Md.up (Md.up (Md.up (Md.up (Md.up (Md.up (Md.tr (Md.up (Md.tr (Md.up Md.rf rfl) hI324 rfl) rfl) hI17545 rfl) rfl) rfl) rfl) rfl) rfl) rfl) hI17756 rfl) rfl) rfl)), (show Md [1, 2, 3, 4, 8, 9, 10, 11, 12, 13, 14, 15, 16, 17, 18, 27] A A17756 from (Md.tr (Md.up3 (Md.up3 (Md.up3 (Md.up3 (Md.up3 (Md.up3 (Md.tr (Md.tr Md.rf hA324 rfl) hA17545 rfl) rfl) rfl) rfl) rfl) rfl) rfl) hA17756 rfl)), ⟨(IvM_f1 (I := I17756) (A := A17756) hV17756), (IvM_f2 (I := I17756) (A := A17756) hV17756), (IvM_f3 (I := I17756) (A := A17756) hV17756), (IvM_f4 (I := I17756) (A := A17756) hV17756), (IvM_f6 (I := I17756) (A := A17756) hV17756), (IvM_f8 (I := I17756) (A := A17756) hV17756), (IvM_f15 (I := I17756) (A := A17756) hV17756), (IvM_f16 (I := I17756) (A := A17756) hV17756), (IvM_f17 (I := I17756) (A := A17756) hV17756), (IvM_f18 (I := I17756) (A := A17756) hV17756), (IvM_f22 (I := I17756) (A := A17756) hV17756), (IvM_f23 (I := I17756) (A := A17756) hV17756), (IvM_f24 (I := I17756) (A := A17756) hV17756), (IvM_a11 (I := I17756) (A := A17756) hV17756), (IvM_a26 (I := I17756) (A := A17756) hV17756), (IvM_s8_0 (I := I17756) (A := A17756) hV17756), (IvM_s8_1 (I := I17756) (A := A17756) hV17756), (IvM_s10_0 (I := I17756) (A := A17756) hV17756), (IvM_s10_1 (I := I17756) (A := A17756) hV17756), (IvM_s17_0 (I := I17756) (A := A17756) hV17756), (IvM_s17_164 (I := I17756) (A := A17756) hV17756), (IvM_lv (I := I17756) (A := A17756) hV17756), (IvM_sd (I := I17756) (A := A17756) hV17756), (IvM_nq (I := I17756) (A := A17756) hV17756), (IvM_hr (I := I17756) (A := A17756) hV17756), (IvM_hh (I := I17756) (A := A17756) hV17756), trivial⟩, (I17756 8), (by rw [show (upd (upd I17756 10 (I17756 9)) 14 (I17756 13)) 1 = 0 from ((hI17756 1 rfl).trans (hI17545 1 rfl))]; omega), (by omega), (by omega), rfl, rfl⟩ dX12_read_200
          obtain ⟨n17948, n17948a, n17948b⟩ : ∃ n : Nat, 10 * (401 - (0 : Int32).toInt) + (10 - (0 : Int32).toInt) < (n : Int) ∧ 0 < n := ⟨((10 * (401 - (0 : Int32).toInt) + (10 - (0 : Int32).toInt) : Int)).toNat + 1, by omega, by omega⟩
          have g17949 : (I17545 15).toInt = (I 15).toInt := by rw [show (I17545 15) = (I 15) from ((hI17545 15 rfl).trans (hI324 15 rfl))]
          have g17950 := IvM_s10_0 (I := I17545) (A := A17545) hV17545
          have g17951 := IvM_s10_1 (I := I17545) (A := A17545) hV17545
          exact lp17871 n17948 (upd (upd (upd (upd (upd (upd I17545 4 0) 6 0) 8 0) 11 (-2)) 16 0) 17 0) (up3 (up3 (up3 (up3 (up3 (up3 A17545 8 0 0) 10 0 0) 13 0 2) 14 0 0) 15 0 0) 16 0 8) L17545 Md.rf Md.rf ⟨(IvM_f1 (I := I17545) (A := A17545) hV17545), (IvM_f2 (I := I17545) (A := A17545) hV17545), (IvM_f3 (I := I17545) (A := A17545) hV17545), (show 0 ≤ (0 : Int32).toInt ∧ (0 : Int32).toInt ≤ 400 from ⟨by decide, by decide⟩), (show 0 ≤ (0 : Int32).toInt ∧ (0 : Int32).toInt ≤ 9 from ⟨by decide, by decide⟩), (show 0 ≤ (0 : Int32).toInt ∧ (0 : Int32).toInt ≤ 9 from ⟨by decide, by decide⟩), (IvM_f15 (I := I17545) (A := A17545) hV17545), (show 0 ≤ (0 : Int32).toInt ∧ (0 : Int32).toInt ≤ 1 from ⟨by decide, by decide⟩), (show 0 ≤ (0 : Int32).toInt ∧ (0 : Int32).toInt ≤ 5 from ⟨by decide, by decide⟩), (IvM_f18 (I := I17545) (A := A17545) hV17545), (IvM_f22 (I := I17545) (A := A17545) hV17545), (IvM_f23 (I := I17545) (A := A17545) hV17545), (IvM_f24 (I := I17545) (A := A17545) hV17545), (IvM_a11 (I := I17545) (A := A17545) hV17545), (IvM_a26 (I := I17545) (A := A17545) hV17545), (show 0 ≤ ((up3 (up3 (up3 (up3 (up3 (up3 A17545 8 0 0) 10 0 0) 13 0 2) 14 0 0) 15 0 0) 16 0 8) 8 0).toInt ∧ ((up3 (up3 (up3 (up3 (up3 (up3 A17545 8 0 0) 10 0 0) 13 0 2) 14 0 0) 15 0 0) 16 0 8) 8 0).toInt ≤ 160 from by rw [show (up3 (up3 (up3 (up3 (up3 (up3 A17545 8 0 0) 10 0 0) 13 0 2) 14 0 0) 15 0 0) 16 0 8) 8 0 = 0 from rfl]; exact ⟨by decide, by decide⟩), (show 0 ≤ ((up3 (up3 (up3 (up3 (up3 (up3 A17545 8 0 0) 10 0 0) 13 0 2) 14 0 0) 15 0 0) 16 0 8) 8 1).toInt ∧ ((up3 (up3 (up3 (up3 (up3 (up3 A17545 8 0 0) 10 0 0) 13 0 2) 14 0 0) 15 0 0) 16 0 8) 8 1).toInt ≤ 160 from by rw [show (up3 (up3 (up3 (up3 (up3 (up3 A17545 8 0 0) 10 0 0) 13 0 2) 14 0 0) 15 0 0) 16 0 8) 8 1 = (A17545 8 1) from rfl]; exact ⟨by omega, by omega⟩), (show 0 ≤ ((up3 (up3 (up3 (up3 (up3 (up3 A17545 8 0 0) 10 0 0) 13 0 2) 14 0 0) 15 0 0) 16 0 8) 10 0).toInt ∧ ((up3 (up3 (up3 (up3 (up3 (up3 A17545 8 0 0) 10 0 0) 13 0 2) 14 0 0) 15 0 0) 16 0 8) 10 0).toInt ≤ 5 from by rw [show (up3 (up3 (up3 (up3 (up3 (up3 A17545 8 0 0) 10 0 0) 13 0 2) 14 0 0) 15 0 0) 16 0 8) 10 0 = 0 from rfl]; exact ⟨by decide, by decide⟩), (show 0 ≤ ((up3 (up3 (up3 (up3 (up3 (up3 A17545 8 0 0) 10 0 0) 13 0 2) 14 0 0) 15 0 0) 16 0 8) 10 1).toInt ∧ ((up3 (up3 (up3 (up3 (up3 (up3 A17545 8 0 0) 10 0 0) 13 0 2) 14 0 0) 15 0 0) 16 0 8) 10 1).toInt ≤ 5 from by rw [show (up3 (up3 (up3 (up3 (up3 (up3 A17545 8 0 0) 10 0 0) 13 0 2) 14 0 0) 15 0 0) 16 0 8) 10 1 = (A17545 10 1) from rfl]; exact ⟨by omega, by omega⟩), (IvM_s17_0 (I := I17545) (A := A17545) hV17545), (IvM_s17_164 (I := I17545) (A := A17545) hV17545), ⟨fun e => by have e : (I17545 15).toInt = 0 := e; first | exact (IvM_lv (I := I17545) (A := A17545) hV17545).1 e | (exfalso; omega), fun e => by have e : (I17545 15).toInt = 1 := e; first | exact (IvM_lv (I := I17545) (A := A17545) hV17545).2 e | (exfalso; omega)⟩, (Or.inr (Or.inr ⟨fun e => ghf_0 (show 1 ≤ (8 : Int32).toInt from by decide) (show (0 : Int32).toInt = 0 from rfl), fun e => absurd (show (0 : Int32).toInt = 1 from e) (by decide)⟩)), ⟨fun e => (show (0 : Int32).toInt = (0 : Int32).toInt from rfl), fun e => absurd (show (0 : Int32).toInt = 1 from e) (by decide)⟩, (IvM_hr (I := I17545) (A := A17545) hV17545), (IvM_hh (I := I17545) (A := A17545) hV17545), trivial⟩ (by first | exact n17948a | (rw [show ((upd (upd (upd (upd (upd (upd I17545 4 0) 6 0) 8 0) 11 (-2)) 16 0) 17 0) 4) = (0 : Int32) from rfl, show ((upd (upd (upd (upd (upd (upd I17545 4 0) 6 0) 8 0) 11 (-2)) 16 0) 17 0) 6) = (0 : Int32) from rfl] <;> exact n17948a)) n17948b
        exfalso; omega
      · skip
        refine g_aload_n hk dX12_read_18 rfl ?_
        refine gM_r0_3 hk hin12 (List.mem_cons_of_mem _ (List.mem_append_left _ (List.mem_of_getElem? (i := 36) rfl))) dX12_read_19 ?_
        refine g_iload_n hk dX12_read_22 rfl ?_
        refine g_aload_n hk dX12_read_23 rfl ?_
        refine gM_r0_1 hk hin12 (List.mem_cons_of_mem _ (List.mem_append_left _ (List.mem_of_getElem? (i := 37) rfl))) dX12_read_24 ?_
        refine g_iload_n hk dX12_read_27 rfl ?_
        refine lM_0 (v := (A 0 x322.toNatClampNeg)) hk (vp_in_iff.mpr ⟨by omega, by omega⟩) (congrFun (hA324 0 rfl) _) dX12_read_28 ?_
        refine sM_1 (y := (vp_nar .byte (A 0 x322.toNatClampNeg))) (j := x322.toNatClampNeg) hk (vp_in_iff.mpr ⟨by omega, by omega⟩) rfl rfl dX12_read_29 ?_
        obtain ⟨y17952, ey17952⟩ : ∃ y : Int32, y = x322 + Int32.ofInt 1 := ⟨_, rfl⟩
        have hy17952 : y17952.toInt = x322.toInt + 1 := i32_add ey17952 rfl (by decide) (by omega) (by omega)
        refine g_iinc (v := y17952) (lv' := [(1, .int y17952), (0, .ref (r 0))]) hk 0 dX12_read_30 rfl ey17952.symm (by decide) rfl ?_
        refine g_goto (tgt := 10) hk dX12_read_33 (by decide) ?_
        exact g_lv (List.forall_mem_cons.mpr ⟨List.mem_of_getElem? (i := 0) rfl, (List.forall_mem_cons.mpr ⟨List.mem_of_getElem? (i := 1) rfl, (fun _ h => absurd h List.not_mem_nil)⟩)⟩) (ih17541 y17952 I324 (up3 A324 1 (x322.toNatClampNeg) (vp_nar .byte (A 0 x322.toNatClampNeg))) L324 (show Md [2] (upd I 2 (I 1)) I324 from Md.tr hI324 (show Md [2] I324 I324 from Md.rf) rfl) (show Md [1] A (up3 A324 1 (x322.toNatClampNeg) (vp_nar .byte (A 0 x322.toNatClampNeg))) from Md.tr hA324 (show Md [1] A324 (up3 A324 1 (x322.toNatClampNeg) (vp_nar .byte (A 0 x322.toNatClampNeg))) from (Md.up3 Md.rf rfl)) rfl) ⟨(IvM_f1 (I := I324) (A := A324) hV324), (IvM_f2 (I := I324) (A := A324) hV324), (IvM_f3 (I := I324) (A := A324) hV324), (IvM_f4 (I := I324) (A := A324) hV324), (IvM_f6 (I := I324) (A := A324) hV324), (IvM_f8 (I := I324) (A := A324) hV324), (IvM_f15 (I := I324) (A := A324) hV324), (IvM_f16 (I := I324) (A := A324) hV324), (IvM_f17 (I := I324) (A := A324) hV324), (IvM_f18 (I := I324) (A := A324) hV324), (IvM_f22 (I := I324) (A := A324) hV324), (IvM_f23 (I := I324) (A := A324) hV324), (IvM_f24 (I := I324) (A := A324) hV324), (IvM_a11 (I := I324) (A := A324) hV324), (IvM_a26 (I := I324) (A := A324) hV324), (IvM_s8_0 (I := I324) (A := A324) hV324), (IvM_s8_1 (I := I324) (A := A324) hV324), (IvM_s10_0 (I := I324) (A := A324) hV324), (IvM_s10_1 (I := I324) (A := A324) hV324), (IvM_s17_0 (I := I324) (A := A324) hV324), (IvM_s17_164 (I := I324) (A := A324) hV324), (IvM_lv (I := I324) (A := A324) hV324), (IvM_sd (I := I324) (A := A324) hV324), (IvM_nq (I := I324) (A := A324) hV324), (IvM_hr (I := I324) (A := A324) hV324), (IvM_hh (I := I324) (A := A324) hV324), trivial⟩ (by omega) (by omega) (by omega) (by omega))
  have k17953 : (0 : Int32).toInt = 0 := rfl
  obtain ⟨n17954, n17954a, n17954b⟩ : ∃ n : Nat, 2001 - (0 : Int32).toInt < (n : Int) ∧ 0 < n := ⟨((2001 - (0 : Int32).toInt : Int)).toNat + 1, by omega, by omega⟩
  exact lp17538 n17954 0 (upd I 2 (I 1)) A L Md.rf Md.rf ⟨(IvM_f1 (I := I) (A := A) hIv), (show 0 ≤ (I 1).toInt ∧ (I 1).toInt ≤ 2000 from ⟨by omega, by omega⟩), (IvM_f3 (I := I) (A := A) hIv), (IvM_f4 (I := I) (A := A) hIv), (IvM_f6 (I := I) (A := A) hIv), (IvM_f8 (I := I) (A := A) hIv), (IvM_f15 (I := I) (A := A) hIv), (IvM_f16 (I := I) (A := A) hIv), (IvM_f17 (I := I) (A := A) hIv), (IvM_f18 (I := I) (A := A) hIv), (IvM_f22 (I := I) (A := A) hIv), (IvM_f23 (I := I) (A := A) hIv), (IvM_f24 (I := I) (A := A) hIv), (IvM_a11 (I := I) (A := A) hIv), (IvM_a26 (I := I) (A := A) hIv), (IvM_s8_0 (I := I) (A := A) hIv), (IvM_s8_1 (I := I) (A := A) hIv), (IvM_s10_0 (I := I) (A := A) hIv), (IvM_s10_1 (I := I) (A := A) hIv), (IvM_s17_0 (I := I) (A := A) hIv), (IvM_s17_164 (I := I) (A := A) hIv), (IvM_lv (I := I) (A := A) hIv), (IvM_sd (I := I) (A := A) hIv), (IvM_nq (I := I) (A := A) hIv), (IvM_hr (I := I) (A := A) hIv), (IvM_hh (I := I) (A := A) hIv), trivial⟩ (by omega) (by omega) n17954a n17954b
def wo_j140_X12_place : List Cond := [Cond.fieldLink RX12 37 "WarpDeskModel" "place" "I"]
def wz_j140_X12_place : List Cond := .code yX12_place cX12_place 1 (some .int) :: (wo_j140_X12_place ++ (wsX120 ++ ([] : List Cond)))
theorem zg_j140_X12_place : ∀ w ∈ wz_j140_X12_place, goodWord w = true := zg_cons rfl (zg_app (by decide +kernel) (zg_app zgU_wsX120 zg_nil))
theorem zi_j140_X12_place : ∀ w ∈ wz_j140_X12_place, w ∈ lw_tbl := zi_cons zw_1639 (zi_app (zi_cons zw_1395 zi_nil) (zi_app inX12 zi_nil))
set_option maxHeartbeats 4000000 in
set_option maxRecDepth 100000 in
theorem j140_X12_place (l : Launch) (D : va_G) (zt : Nat × Nat × Nat × (Nat → Nat) × (Nat → Nat)) (r : Nat → Nat) (g : Nat → ClassId) (I : Nat → Int32) (A : Nat → Nat → Int32) (L : Nat → Nat → Int64) (hIv : IvM I A) : GM l D zt (tyM g) yX12_place wz_j140_X12_place ({ frames := 0, cells := 0, slots := 0, locals := 0 } : Room) [.ref (r 0)] (wM r g I A L) (fun v _ w' => ∃ y0 : Int32, v = some (.int y0) ∧ w' = wM r g I A L) 0 0 := by
  refine GM.of (cc := cX12_place) (maxL := 1) (ret := (some .int)) (own := RX12) (lv := [(0, .ref (r 0))]) (by decide) rfl rfl (Nat.le_of_ble_eq_true rfl) rfl (fun κ sz hk hR hN => ?_)
  have hin12 : ∀ w ∈ u_ws RX12 TX12 55, w ∈ wz_j140_X12_place := fun w h => (List.mem_cons_of_mem _ (List.mem_append_right _ (List.mem_append_left _ h)))
  refine g_aload_n hk dX12_place_0 rfl ?_
  refine gM_i10 (v := (I 10)) hk hin12 (List.mem_cons_of_mem _ (List.mem_append_left _ (List.mem_of_getElem? (i := 0) rfl))) dX12_place_1 rfl ?_
  have b17955l := Int32.le_toInt (I 10)
  have b17955h := Int32.toInt_lt (I 10)
  exact g_iret hk hR rfl ⟨(I 10), rfl, rfl⟩ dX12_place_4
def wo_j141_X12_cause : List Cond := [Cond.fieldLink RX12 111 "WarpDeskModel" "cause" "I"]
def wz_j141_X12_cause : List Cond := .code yX12_cause cX12_cause 1 (some .int) :: (wo_j141_X12_cause ++ (wsX120 ++ ([] : List Cond)))
theorem zg_j141_X12_cause : ∀ w ∈ wz_j141_X12_cause, goodWord w = true := zg_cons rfl (zg_app (by decide +kernel) (zg_app zgU_wsX120 zg_nil))
theorem zi_j141_X12_cause : ∀ w ∈ wz_j141_X12_cause, w ∈ lw_tbl := zi_cons zw_1643 (zi_app (zi_cons zw_1399 zi_nil) (zi_app inX12 zi_nil))
set_option maxHeartbeats 4000000 in
set_option maxRecDepth 100000 in
theorem j141_X12_cause (l : Launch) (D : va_G) (zt : Nat × Nat × Nat × (Nat → Nat) × (Nat → Nat)) (r : Nat → Nat) (g : Nat → ClassId) (I : Nat → Int32) (A : Nat → Nat → Int32) (L : Nat → Nat → Int64) (hIv : IvM I A) : GM l D zt (tyM g) yX12_cause wz_j141_X12_cause ({ frames := 0, cells := 0, slots := 0, locals := 0 } : Room) [.ref (r 0)] (wM r g I A L) (fun v _ w' => ∃ y0 : Int32, v = some (.int y0) ∧ w' = wM r g I A L) 0 0 := by
  refine GM.of (cc := cX12_cause) (maxL := 1) (ret := (some .int)) (own := RX12) (lv := [(0, .ref (r 0))]) (by decide) rfl rfl (Nat.le_of_ble_eq_true rfl) rfl (fun κ sz hk hR hN => ?_)
  have hin12 : ∀ w ∈ u_ws RX12 TX12 55, w ∈ wz_j141_X12_cause := fun w h => (List.mem_cons_of_mem _ (List.mem_append_right _ (List.mem_append_left _ h)))
  refine g_aload_n hk dX12_cause_0 rfl ?_
  refine gM_i14 (v := (I 14)) hk hin12 (List.mem_cons_of_mem _ (List.mem_append_left _ (List.mem_of_getElem? (i := 0) rfl))) dX12_cause_1 rfl ?_
  have b17956l := Int32.le_toInt (I 14)
  have b17956h := Int32.toInt_lt (I 14)
  exact g_iret hk hR rfl ⟨(I 14), rfl, rfl⟩ dX12_cause_4
def wo_j145_X12_in : List Cond := []
def wz_j145_X12_in : List Cond := .code yX12_in cX12_in 3 (some .boolean) :: (wo_j145_X12_in ++ ([] : List Cond))
theorem zg_j145_X12_in : ∀ w ∈ wz_j145_X12_in, goodWord w = true := zg_cons rfl (zg_app (by decide +kernel) zg_nil)
theorem zi_j145_X12_in : ∀ w ∈ wz_j145_X12_in, w ∈ lw_tbl := zi_cons zw_1658 (zi_app zi_nil zi_nil)
set_option maxHeartbeats 4000000 in
set_option maxRecDepth 100000 in
theorem j145_X12_in (l : Launch) (D : va_G) (zt : Nat × Nat × Nat × (Nat → Nat) × (Nat → Nat)) (r : Nat → Nat) (g : Nat → ClassId) (I : Nat → Int32) (A : Nat → Nat → Int32) (L : Nat → Nat → Int64) (z0 : Int32) (z1 : Int32) (z2 : Int32) (hIv : IvM I A) : GM l D zt (tyM g) yX12_in wz_j145_X12_in ({ frames := 0, cells := 0, slots := 0, locals := 0 } : Room) [.int z0, .int z1, .int z2] (wM r g I A L) (fun v _ w' => ((z0.toInt < z1.toInt ∨ z2.toInt < z0.toInt) ∧ v = some (.int 0) ∧ w' = wM r g I A L) ∨ ((¬ (z0.toInt < z1.toInt)) ∧ (¬ (z2.toInt < z0.toInt)) ∧ v = some (.int 1) ∧ w' = wM r g I A L)) 0 0 := by
  refine GM.of (cc := cX12_in) (maxL := 3) (ret := (some .boolean)) (own := RX12) (lv := [(0, .int z0), (1, .int z1), (2, .int z2)]) (by decide) rfl rfl (Nat.le_of_ble_eq_true rfl) rfl (fun κ sz hk hR hN => ?_)
  refine g_iload_n hk dX12_in_0 rfl ?_
  refine g_iload_n hk dX12_in_1 rfl ?_
  have b17959l := Int32.le_toInt z0
  have b17959h := Int32.toInt_lt z0
  have b17960l := Int32.le_toInt z1
  have b17960h := Int32.toInt_lt z1
  refine g_icmp_lt (tgt := 14) (a := z0.toInt) (b := z1.toInt) hk dX12_in_2 (by decide) rfl rfl (fun c17961 => ?_) (fun c17961 => ?_)
  · skip
    refine g_iconst (v := 0) hk dX12_in_14 (by decide) ?_
    exact g_iret hk hR rfl (Or.inl ⟨(by omega), rfl, rfl⟩) dX12_in_15
  · skip
    refine g_iload_n hk dX12_in_5 rfl ?_
    refine g_iload_n hk dX12_in_6 rfl ?_
    have b17962l := Int32.le_toInt z2
    have b17962h := Int32.toInt_lt z2
    refine g_icmp_gt (tgt := 14) (a := z0.toInt) (b := z2.toInt) hk dX12_in_7 (by decide) rfl rfl (fun c17963 => ?_) (fun c17963 => ?_)
    · skip
      refine g_iconst (v := 0) hk dX12_in_14 (by decide) ?_
      exact g_iret hk hR rfl (Or.inl ⟨(by omega), rfl, rfl⟩) dX12_in_15
    · skip
      refine g_iconst (v := 1) hk dX12_in_10 (by decide) ?_
      refine g_goto (tgt := 15) hk dX12_in_11 (by decide) ?_
      exact g_iret hk hR rfl (Or.inr (⟨c17961, c17963, rfl, rfl⟩)) dX12_in_15
def wo_j144_X12_isPlace : List Cond := [Cond.fieldLink RX12 70 "WarpDeskModel" "now" "[I", Cond.methodLink RX12 244 yX12_in, Cond.static yX12_in, Cond.initialized RX12]
def wz_j144_X12_isPlace : List Cond := .code yX12_isPlace cX12_isPlace 2 (some .boolean) :: (wo_j144_X12_isPlace ++ (wsX120 ++ (wz_j145_X12_in ++ ([] : List Cond))))
theorem zg_j144_X12_isPlace : ∀ w ∈ wz_j144_X12_isPlace, goodWord w = true := zg_cons rfl (zg_app (by decide +kernel) (zg_app zgU_wsX120 (zg_app zg_j145_X12_in zg_nil)))
theorem zi_j144_X12_isPlace : ∀ w ∈ wz_j144_X12_isPlace, w ∈ lw_tbl := zi_cons zw_1655 (zi_app (zi_cons zw_1413 (zi_cons zw_1656 (zi_cons zw_1657 (zi_cons zw_115 zi_nil)))) (zi_app inX12 (zi_app zi_j145_X12_in zi_nil)))
set_option maxHeartbeats 4000000 in
set_option maxRecDepth 100000 in
theorem j144_X12_isPlace (l : Launch) (D : va_G) (zt : Nat × Nat × Nat × (Nat → Nat) × (Nat → Nat)) (r : Nat → Nat) (g : Nat → ClassId) (I : Nat → Int32) (A : Nat → Nat → Int32) (L : Nat → Nat → Int64) (z1 : Int32) (hIv : IvM I A) : GM l D zt (tyM g) yX12_isPlace wz_j144_X12_isPlace ({ frames := 1, cells := 0, slots := 0, locals := 22 } : Room) [.ref (r 0), .int z1] (wM r g I A L) (fun v _ w' => (v = some (.int 0) ∧ w' = wM r g I A L) ∨ ((¬ (0.toInt < 0)) ∧ (0 ≤ z1.toInt) ∧ (z1.toInt ≤ 159) ∧ v = some (.int 1) ∧ w' = wM r g I A L)) 0 0 := by
  refine GM.of (cc := cX12_isPlace) (maxL := 2) (ret := (some .boolean)) (own := RX12) (lv := [(0, .ref (r 0)), (1, .int z1)]) (by decide) rfl rfl (Nat.le_of_ble_eq_true rfl) rfl (fun κ sz hk hR hN => ?_)
  have hin12 : ∀ w ∈ u_ws RX12 TX12 55, w ∈ wz_j144_X12_isPlace := fun w h => (List.mem_cons_of_mem _ (List.mem_append_right _ (List.mem_append_left _ h)))
  refine g_iload_n hk dX12_isPlace_0 rfl ?_
  refine g_iconst (v := 0) hk dX12_isPlace_1 (by decide) ?_
  refine g_aload_n hk dX12_isPlace_2 rfl ?_
  refine gM_r0_35 hk hin12 (List.mem_cons_of_mem _ (List.mem_append_left _ (List.mem_of_getElem? (i := 0) rfl))) dX12_isPlace_3 ?_
  refine g_iconst (v := 0) hk dX12_isPlace_6 (by decide) ?_
  refine lM_17 (v := (A 17 0)) hk (vp_in_iff.mpr ⟨by decide, by decide⟩) rfl dX12_isPlace_7 ?_
  have f17957 := IvM_s17_0 hIv
  refine g_iconst (v := 1) hk dX12_isPlace_8 (by decide) ?_
  refine g_isub hk dX12_isPlace_9 ?_
  refine g_topi (fun y17958 ey17958 => ?_)
  have hy17958 : y17958.toInt = (A 17 0).toInt - 1 := i32_sub ey17958 rfl rfl (by omega) (by omega)
  have k17964 : (0 : Int32).toInt = 0 := rfl
  refine g_callS (n := 3) hk (j145_X12_in l D zt r g I A L z1 0 y17958 hIv) (SP.same _) (fun _ h => h) (gi_S (List.mem_cons_of_mem _ (List.mem_append_left _ (List.mem_of_getElem? (i := 1) rfl))) (List.mem_cons_of_mem _ (List.mem_append_left _ (List.mem_of_getElem? (i := 2) rfl))) (List.mem_cons_of_mem _ (List.mem_append_left _ (List.mem_of_getElem? (i := 3) rfl))) (gi_sub (fun w h => (List.mem_cons_of_mem _ (List.mem_append_right _ (List.mem_append_right _ (List.mem_append_left _ h))))) zg_j145_X12_in)) rfl rfl rfl (by decide +kernel) ⟨Nat.le_of_ble_eq_true rfl, Nat.le_of_ble_eq_true rfl⟩ rfl rfl (Nat.le_of_ble_eq_true rfl) ⟨Nat.le_of_ble_eq_true rfl, Nat.le_of_ble_eq_true rfl⟩ dX12_isPlace_10 (fun v ty' w' hp hk' => ?_)
  rcases hp with ⟨c17965, rfl, rfl⟩ | ⟨c17967, c17968, rfl, rfl⟩
  · skip
    have b17970l := Int32.le_toInt z1
    have b17970h := Int32.toInt_lt z1
    show GW κ 2 0 0 (wM r g I A L) 13 [(0, .ref (r 0)), (1, .int z1)] [.int 0]
    exact g_iret hk hR rfl (Or.inl ⟨rfl, rfl⟩) dX12_isPlace_13
  · skip
    show GW κ 2 0 0 (wM r g I A L) 13 [(0, .ref (r 0)), (1, .int z1)] [.int 1]
    exact g_iret hk hR rfl (Or.inr (⟨c17967, (by omega), (by omega), rfl, rfl⟩)) dX12_isPlace_13
def wo_j143_X12_isThere : List Cond := [Cond.methodLink RX12 248 yX12_isPlace, Cond.instanceMethod yX12_isPlace, Cond.selects RX12 yX12_isPlace yX12_isPlace, Cond.initialized RX12, Cond.fieldLink RX12 70 "WarpDeskModel" "now" "[I", Cond.constant RX12 239 (100000)]
def wz_j143_X12_isThere : List Cond := .code yX12_isThere cX12_isThere 2 (some .boolean) :: (wo_j143_X12_isThere ++ (wsX120 ++ (wz_j144_X12_isPlace ++ ([] : List Cond))))
theorem zg_j143_X12_isThere : ∀ w ∈ wz_j143_X12_isThere, goodWord w = true := zg_cons rfl (zg_app (by decide +kernel) (zg_app zgU_wsX120 (zg_app zg_j144_X12_isPlace zg_nil)))
theorem zi_j143_X12_isThere : ∀ w ∈ wz_j143_X12_isThere, w ∈ lw_tbl := zi_cons zw_1651 (zi_app (zi_cons zw_1652 (zi_cons zw_1654 (zi_cons zw_66 (zi_cons zw_115 (zi_cons zw_1413 (zi_cons zw_1607 zi_nil)))))) (zi_app inX12 (zi_app zi_j144_X12_isPlace zi_nil)))
set_option maxHeartbeats 4000000 in
set_option maxRecDepth 100000 in
theorem j143_X12_isThere (l : Launch) (D : va_G) (zt : Nat × Nat × Nat × (Nat → Nat) × (Nat → Nat)) (r : Nat → Nat) (g : Nat → ClassId) (I : Nat → Int32) (A : Nat → Nat → Int32) (L : Nat → Nat → Int64) (z1 : Int32) (hIv : IvM I A) : GM l D zt (tyM g) yX12_isThere wz_j143_X12_isThere ({ frames := 2, cells := 0, slots := 0, locals := 43 } : Room) [.ref (r 0), .int z1] (wM r g I A L) (fun v _ w' => (v = some (.int 0) ∧ w' = wM r g I A L) ∨ ((¬ (0.toInt < 0)) ∧ (0 ≤ z1.toInt) ∧ (z1.toInt ≤ 159) ∧ (0 ≤ z1.toInt) ∧ (z1.toInt ≤ 159) ∧ v = some (.int 1) ∧ w' = wM r g I A L)) 0 0 := by
  refine GM.of (cc := cX12_isThere) (maxL := 2) (ret := (some .boolean)) (own := RX12) (lv := [(0, .ref (r 0)), (1, .int z1)]) (by decide) rfl rfl (Nat.le_of_ble_eq_true rfl) rfl (fun κ sz hk hR hN => ?_)
  have hin12 : ∀ w ∈ u_ws RX12 TX12 55, w ∈ wz_j143_X12_isThere := fun w h => (List.mem_cons_of_mem _ (List.mem_append_right _ (List.mem_append_left _ h)))
  refine g_aload_n hk dX12_isThere_0 rfl ?_
  refine g_iload_n hk dX12_isThere_1 rfl ?_
  refine g_callV (n := 1) hk (j144_X12_isPlace l D zt r g I A L z1 hIv) (SP.same _) (fun _ h => h) (gi_V (List.mem_cons_of_mem _ (List.mem_append_left _ (List.mem_of_getElem? (i := 0) rfl))) (List.mem_cons_of_mem _ (List.mem_append_left _ (List.mem_of_getElem? (i := 1) rfl))) (List.mem_cons_of_mem _ (List.mem_append_left _ (List.mem_of_getElem? (i := 2) rfl))) (List.mem_cons_of_mem _ (List.mem_append_left _ (List.mem_of_getElem? (i := 3) rfl))) (gi_sub (fun w h => (List.mem_cons_of_mem _ (List.mem_append_right _ (List.mem_append_right _ (List.mem_append_left _ h))))) zg_j144_X12_isPlace)) rfl rfl rfl (by decide +kernel) ⟨Nat.le_of_ble_eq_true rfl, Nat.le_of_ble_eq_true rfl⟩ 0 rfl rfl rfl rfl (Nat.le_of_ble_eq_true rfl) ⟨Nat.le_of_ble_eq_true rfl, Nat.le_of_ble_eq_true rfl⟩ dX12_isThere_2 (fun v ty' w' hp hk' => ?_)
  rcases hp with ⟨rfl, rfl⟩ | ⟨c17972, c17973, c17974, rfl, rfl⟩
  · skip
    show GW κ 2 0 0 (wM r g I A L) 5 [(0, .ref (r 0)), (1, .int z1)] [.int 0]
    refine g_if_eq (tgt := 25) (a := 0) hk dX12_isThere_5 (by decide) rfl (fun _ => ?_) (fun z9 => absurd (show (0 : Int) = (0 : Int) from by decide) z9)
    refine g_iconst (v := 0) hk dX12_isThere_25 (by decide) ?_
    exact g_iret hk hR rfl (Or.inl ⟨rfl, rfl⟩) dX12_isThere_26
  · skip
    show GW κ 2 0 0 (wM r g I A L) 5 [(0, .ref (r 0)), (1, .int z1)] [.int 1]
    refine g_if_eq (tgt := 25) (a := 1) hk dX12_isThere_5 (by decide) rfl (fun z9 => absurd z9 (show ¬ ((1 : Int) = (0 : Int)) from by decide)) (fun _ => ?_)
    refine g_aload_n hk dX12_isThere_8 rfl ?_
    refine gM_r0_35 hk hin12 (List.mem_cons_of_mem _ (List.mem_append_left _ (List.mem_of_getElem? (i := 4) rfl))) dX12_isThere_9 ?_
    refine g_iconst (v := 1) hk dX12_isThere_12 (by decide) ?_
    refine g_iload_n hk dX12_isThere_13 rfl ?_
    refine g_iadd hk dX12_isThere_14 ?_
    refine g_topi (fun y17976 ey17976 => ?_)
    have hy17976 : y17976.toInt = 1 + z1.toInt := i32_add ey17976 rfl rfl (by omega) (by omega)
    refine lM_17 (v := (A 17 y17976.toNatClampNeg)) hk (vp_in_iff.mpr ⟨by omega, by omega⟩) rfl dX12_isThere_15 ?_
    refine g_ldc (v := 100000) hk (List.mem_cons_of_mem _ (List.mem_append_left _ (List.mem_of_getElem? (i := 5) rfl))) dX12_isThere_16 ?_
    have b17977l := Int32.le_toInt (A 17 y17976.toNatClampNeg)
    have b17977h := Int32.toInt_lt (A 17 y17976.toNatClampNeg)
    refine g_icmp_eq (tgt := 25) (a := (A 17 y17976.toNatClampNeg).toInt) (b := 100000) hk dX12_isThere_18 (by decide) rfl rfl (fun c17978 => ?_) (fun c17978 => ?_)
    · skip
      refine g_iconst (v := 0) hk dX12_isThere_25 (by decide) ?_
      exact g_iret hk hR rfl (Or.inl ⟨rfl, rfl⟩) dX12_isThere_26
    · skip
      refine g_iconst (v := 1) hk dX12_isThere_21 (by decide) ?_
      refine g_goto (tgt := 26) hk dX12_isThere_22 (by decide) ?_
      exact g_iret hk hR rfl (Or.inr (⟨c17972, c17973, c17974, (by omega), (by omega), rfl, rfl⟩)) dX12_isThere_26
def wo_j142_X12_at : List Cond := [Cond.methodLink RX12 320 yX12_isThere, Cond.instanceMethod yX12_isThere, Cond.selects RX12 yX12_isThere yX12_isThere, Cond.initialized RX12, Cond.fieldLink RX12 70 "WarpDeskModel" "now" "[I"]
def wz_j142_X12_at : List Cond := .code yX12_at cX12_at 2 (some .int) :: (wo_j142_X12_at ++ (wsX120 ++ (wz_j143_X12_isThere ++ ([] : List Cond))))
theorem zg_j142_X12_at : ∀ w ∈ wz_j142_X12_at, goodWord w = true := zg_cons rfl (zg_app (by decide +kernel) (zg_app zgU_wsX120 (zg_app zg_j143_X12_isThere zg_nil)))
theorem zi_j142_X12_at : ∀ w ∈ wz_j142_X12_at, w ∈ lw_tbl := zi_cons zw_1647 (zi_app (zi_cons zw_1648 (zi_cons zw_1650 (zi_cons zw_65 (zi_cons zw_115 (zi_cons zw_1413 zi_nil))))) (zi_app inX12 (zi_app zi_j143_X12_isThere zi_nil)))
set_option maxHeartbeats 4000000 in
set_option maxRecDepth 100000 in
theorem j142_X12_at (l : Launch) (D : va_G) (zt : Nat × Nat × Nat × (Nat → Nat) × (Nat → Nat)) (r : Nat → Nat) (g : Nat → ClassId) (I : Nat → Int32) (A : Nat → Nat → Int32) (L : Nat → Nat → Int64) (z1 : Int32) (hIv : IvM I A) : GM l D zt (tyM g) yX12_at wz_j142_X12_at ({ frames := 3, cells := 0, slots := 0, locals := 64 } : Room) [.ref (r 0), .int z1] (wM r g I A L) (fun v _ w' => ∃ y0 : Int32, v = some (.int y0) ∧ w' = wM r g I A L) 0 0 := by
  refine GM.of (cc := cX12_at) (maxL := 2) (ret := (some .int)) (own := RX12) (lv := [(0, .ref (r 0)), (1, .int z1)]) (by decide) rfl rfl (Nat.le_of_ble_eq_true rfl) rfl (fun κ sz hk hR hN => ?_)
  have hin12 : ∀ w ∈ u_ws RX12 TX12 55, w ∈ wz_j142_X12_at := fun w h => (List.mem_cons_of_mem _ (List.mem_append_right _ (List.mem_append_left _ h)))
  refine g_aload_n hk dX12_at_0 rfl ?_
  refine g_iload_n hk dX12_at_1 rfl ?_
  refine g_callV (n := 1) hk (j143_X12_isThere l D zt r g I A L z1 hIv) (SP.same _) (fun _ h => h) (gi_V (List.mem_cons_of_mem _ (List.mem_append_left _ (List.mem_of_getElem? (i := 0) rfl))) (List.mem_cons_of_mem _ (List.mem_append_left _ (List.mem_of_getElem? (i := 1) rfl))) (List.mem_cons_of_mem _ (List.mem_append_left _ (List.mem_of_getElem? (i := 2) rfl))) (List.mem_cons_of_mem _ (List.mem_append_left _ (List.mem_of_getElem? (i := 3) rfl))) (gi_sub (fun w h => (List.mem_cons_of_mem _ (List.mem_append_right _ (List.mem_append_right _ (List.mem_append_left _ h))))) zg_j143_X12_isThere)) rfl rfl rfl (by decide +kernel) ⟨Nat.le_of_ble_eq_true rfl, Nat.le_of_ble_eq_true rfl⟩ 0 rfl rfl rfl rfl (Nat.le_of_ble_eq_true rfl) ⟨Nat.le_of_ble_eq_true rfl, Nat.le_of_ble_eq_true rfl⟩ dX12_at_2 (fun v ty' w' hp hk' => ?_)
  rcases hp with ⟨rfl, rfl⟩ | ⟨c17980, c17981, c17982, c17983, c17984, rfl, rfl⟩
  · skip
    show GW κ 2 0 0 (wM r g I A L) 5 [(0, .ref (r 0)), (1, .int z1)] [.int 0]
    refine g_if_eq (tgt := 19) (a := 0) hk dX12_at_5 (by decide) rfl (fun _ => ?_) (fun z9 => absurd (show (0 : Int) = (0 : Int) from by decide) z9)
    refine g_sipush (v := (-1000)) hk dX12_at_19 (by decide) ?_
    exact g_iret hk hR rfl ⟨(-1000), rfl, rfl⟩ dX12_at_22
  · skip
    show GW κ 2 0 0 (wM r g I A L) 5 [(0, .ref (r 0)), (1, .int z1)] [.int 1]
    refine g_if_eq (tgt := 19) (a := 1) hk dX12_at_5 (by decide) rfl (fun z9 => absurd z9 (show ¬ ((1 : Int) = (0 : Int)) from by decide)) (fun _ => ?_)
    refine g_aload_n hk dX12_at_8 rfl ?_
    refine gM_r0_35 hk hin12 (List.mem_cons_of_mem _ (List.mem_append_left _ (List.mem_of_getElem? (i := 4) rfl))) dX12_at_9 ?_
    refine g_iconst (v := 1) hk dX12_at_12 (by decide) ?_
    refine g_iload_n hk dX12_at_13 rfl ?_
    refine g_iadd hk dX12_at_14 ?_
    refine g_topi (fun y17986 ey17986 => ?_)
    have hy17986 : y17986.toInt = 1 + z1.toInt := i32_add ey17986 rfl rfl (by omega) (by omega)
    refine lM_17 (v := (A 17 y17986.toNatClampNeg)) hk (vp_in_iff.mpr ⟨by omega, by omega⟩) rfl dX12_at_15 ?_
    refine g_goto (tgt := 22) hk dX12_at_16 (by decide) ?_
    have b17987l := Int32.le_toInt (A 17 y17986.toNatClampNeg)
    have b17987h := Int32.toInt_lt (A 17 y17986.toNatClampNeg)
    exact g_iret hk hR rfl ⟨(A 17 y17986.toNatClampNeg), rfl, rfl⟩ dX12_at_22
def wo_j147_X12_isQuery : List Cond := [Cond.fieldLink RX12 49 "WarpDeskModel" "queries" "[I", Cond.fieldLink RX12 197 "WarpDeskModel" "live" "I", Cond.methodLink RX12 244 yX12_in, Cond.static yX12_in, Cond.initialized RX12]
def wz_j147_X12_isQuery : List Cond := .code yX12_isQuery cX12_isQuery 2 (some .boolean) :: (wo_j147_X12_isQuery ++ (wsX120 ++ (wz_j145_X12_in ++ ([] : List Cond))))
theorem zg_j147_X12_isQuery : ∀ w ∈ wz_j147_X12_isQuery, goodWord w = true := zg_cons rfl (zg_app (by decide +kernel) (zg_app zgU_wsX120 (zg_app zg_j145_X12_in zg_nil)))
theorem zi_j147_X12_isQuery : ∀ w ∈ wz_j147_X12_isQuery, w ∈ lw_tbl := zi_cons zw_1666 (zi_app (zi_cons zw_1406 (zi_cons zw_1400 (zi_cons zw_1656 (zi_cons zw_1657 (zi_cons zw_115 zi_nil))))) (zi_app inX12 (zi_app zi_j145_X12_in zi_nil)))
set_option maxHeartbeats 4000000 in
set_option maxRecDepth 100000 in
theorem j147_X12_isQuery (l : Launch) (D : va_G) (zt : Nat × Nat × Nat × (Nat → Nat) × (Nat → Nat)) (r : Nat → Nat) (g : Nat → ClassId) (I : Nat → Int32) (A : Nat → Nat → Int32) (L : Nat → Nat → Int64) (z1 : Int32) (hIv : IvM I A) : GM l D zt (tyM g) yX12_isQuery wz_j147_X12_isQuery ({ frames := 1, cells := 0, slots := 0, locals := 22 } : Room) [.ref (r 0), .int z1] (wM r g I A L) (fun v _ w' => (v = some (.int 0) ∧ w' = wM r g I A L) ∨ ((¬ (0.toInt < 0)) ∧ (0 ≤ z1.toInt) ∧ (z1.toInt ≤ 4) ∧ (1 ≤ (A 11 (5 * (I 15) + z1).toNatClampNeg).toInt) ∧ v = some (.int 1) ∧ w' = wM r g I A L)) 0 0 := by
  refine GM.of (cc := cX12_isQuery) (maxL := 2) (ret := (some .boolean)) (own := RX12) (lv := [(0, .ref (r 0)), (1, .int z1)]) (by decide) rfl rfl (Nat.le_of_ble_eq_true rfl) rfl (fun κ sz hk hR hN => ?_)
  have hin12 : ∀ w ∈ u_ws RX12 TX12 55, w ∈ wz_j147_X12_isQuery := fun w h => (List.mem_cons_of_mem _ (List.mem_append_right _ (List.mem_append_left _ h)))
  refine g_iload_n hk dX12_isQuery_0 rfl ?_
  refine g_iconst (v := 0) hk dX12_isQuery_1 (by decide) ?_
  refine g_aload_n hk dX12_isQuery_2 rfl ?_
  refine gM_r0_28 hk hin12 (List.mem_cons_of_mem _ (List.mem_append_left _ (List.mem_of_getElem? (i := 0) rfl))) dX12_isQuery_3 ?_
  refine g_aload_n hk dX12_isQuery_6 rfl ?_
  refine gM_i15 (v := (I 15)) hk hin12 (List.mem_cons_of_mem _ (List.mem_append_left _ (List.mem_of_getElem? (i := 1) rfl))) dX12_isQuery_7 rfl ?_
  have f17988 := IvM_f15 hIv
  by_cases c17989 : (I 15).toInt = 0
  · have ec17989 : (I 15) = 0 := Int32.toInt_inj.mp c17989
    rw [ec17989]
    show GW κ 2 0 0 (wM r g I A L) 10 [(0, .ref (r 0)), (1, .int z1)] [.int 0, .ref (r 11), .int 0, .int z1]
    refine lM_10 (v := (A 10 0)) hk (vp_in_iff.mpr ⟨by decide, by decide⟩) rfl dX12_isQuery_10 ?_
    have f17990 := IvM_s10_0 hIv
    refine g_iconst (v := 1) hk dX12_isQuery_11 (by decide) ?_
    refine g_isub hk dX12_isQuery_12 ?_
    refine g_topi (fun y17991 ey17991 => ?_)
    have hy17991 : y17991.toInt = (A 10 0).toInt - 1 := i32_sub ey17991 rfl rfl (by omega) (by omega)
    have k17992 : (0 : Int32).toInt = 0 := rfl
    refine g_callS (n := 3) hk (j145_X12_in l D zt r g I A L z1 0 y17991 hIv) (SP.same _) (fun _ h => h) (gi_S (List.mem_cons_of_mem _ (List.mem_append_left _ (List.mem_of_getElem? (i := 2) rfl))) (List.mem_cons_of_mem _ (List.mem_append_left _ (List.mem_of_getElem? (i := 3) rfl))) (List.mem_cons_of_mem _ (List.mem_append_left _ (List.mem_of_getElem? (i := 4) rfl))) (gi_sub (fun w h => (List.mem_cons_of_mem _ (List.mem_append_right _ (List.mem_append_right _ (List.mem_append_left _ h))))) zg_j145_X12_in)) rfl rfl rfl (by decide +kernel) ⟨Nat.le_of_ble_eq_true rfl, Nat.le_of_ble_eq_true rfl⟩ rfl rfl (Nat.le_of_ble_eq_true rfl) ⟨Nat.le_of_ble_eq_true rfl, Nat.le_of_ble_eq_true rfl⟩ dX12_isQuery_13 (fun v ty' w' hp hk' => ?_)
    rcases hp with ⟨c17993, rfl, rfl⟩ | ⟨c17995, c17996, rfl, rfl⟩
    · skip
      have b17998l := Int32.le_toInt z1
      have b17998h := Int32.toInt_lt z1
      show GW κ 2 0 0 (wM r g I A L) 16 [(0, .ref (r 0)), (1, .int z1)] [.int 0]
      exact g_iret hk hR rfl (Or.inl ⟨rfl, rfl⟩) dX12_isQuery_16
    · skip
      show GW κ 2 0 0 (wM r g I A L) 16 [(0, .ref (r 0)), (1, .int z1)] [.int 1]
      exact g_iret hk hR rfl (Or.inr (⟨c17995, (by omega), (by omega), (lv_w hIv (by omega) (by omega)), rfl, rfl⟩)) dX12_isQuery_16
  by_cases c17999 : (I 15).toInt = 1
  · have ec17999 : (I 15) = 1 := Int32.toInt_inj.mp c17999
    rw [ec17999]
    show GW κ 2 0 0 (wM r g I A L) 10 [(0, .ref (r 0)), (1, .int z1)] [.int 1, .ref (r 11), .int 0, .int z1]
    refine lM_10 (v := (A 10 1)) hk (vp_in_iff.mpr ⟨by decide, by decide⟩) rfl dX12_isQuery_10 ?_
    have f18000 := IvM_s10_1 hIv
    refine g_iconst (v := 1) hk dX12_isQuery_11 (by decide) ?_
    refine g_isub hk dX12_isQuery_12 ?_
    refine g_topi (fun y18001 ey18001 => ?_)
    have hy18001 : y18001.toInt = (A 10 1).toInt - 1 := i32_sub ey18001 rfl rfl (by omega) (by omega)
    have k18002 : (0 : Int32).toInt = 0 := rfl
    refine g_callS (n := 3) hk (j145_X12_in l D zt r g I A L z1 0 y18001 hIv) (SP.same _) (fun _ h => h) (gi_S (List.mem_cons_of_mem _ (List.mem_append_left _ (List.mem_of_getElem? (i := 2) rfl))) (List.mem_cons_of_mem _ (List.mem_append_left _ (List.mem_of_getElem? (i := 3) rfl))) (List.mem_cons_of_mem _ (List.mem_append_left _ (List.mem_of_getElem? (i := 4) rfl))) (gi_sub (fun w h => (List.mem_cons_of_mem _ (List.mem_append_right _ (List.mem_append_right _ (List.mem_append_left _ h))))) zg_j145_X12_in)) rfl rfl rfl (by decide +kernel) ⟨Nat.le_of_ble_eq_true rfl, Nat.le_of_ble_eq_true rfl⟩ rfl rfl (Nat.le_of_ble_eq_true rfl) ⟨Nat.le_of_ble_eq_true rfl, Nat.le_of_ble_eq_true rfl⟩ dX12_isQuery_13 (fun v ty' w' hp hk' => ?_)
    rcases hp with ⟨c18003, rfl, rfl⟩ | ⟨c18005, c18006, rfl, rfl⟩
    · skip
      have b18008l := Int32.le_toInt z1
      have b18008h := Int32.toInt_lt z1
      show GW κ 2 0 0 (wM r g I A L) 16 [(0, .ref (r 0)), (1, .int z1)] [.int 0]
      exact g_iret hk hR rfl (Or.inl ⟨rfl, rfl⟩) dX12_isQuery_16
    · skip
      show GW κ 2 0 0 (wM r g I A L) 16 [(0, .ref (r 0)), (1, .int z1)] [.int 1]
      exact g_iret hk hR rfl (Or.inr (⟨c18005, (by omega), (by omega), (lv_w hIv (by omega) (by omega)), rfl, rfl⟩)) dX12_isQuery_16
  exfalso; omega
def wo_j148_X12_wideOf : List Cond := [Cond.fieldLink RX12 52 "WarpDeskModel" "queryMany" "[I", Cond.fieldLink RX12 197 "WarpDeskModel" "live" "I"]
def wz_j148_X12_wideOf : List Cond := .code yX12_wideOf cX12_wideOf 2 (some .int) :: (wo_j148_X12_wideOf ++ (wsX120 ++ ([] : List Cond)))
theorem zg_j148_X12_wideOf : ∀ w ∈ wz_j148_X12_wideOf, goodWord w = true := zg_cons rfl (zg_app (by decide +kernel) (zg_app zgU_wsX120 zg_nil))
theorem zi_j148_X12_wideOf : ∀ w ∈ wz_j148_X12_wideOf, w ∈ lw_tbl := zi_cons zw_1670 (zi_app (zi_cons zw_1407 (zi_cons zw_1400 zi_nil)) (zi_app inX12 zi_nil))
set_option maxHeartbeats 4000000 in
set_option maxRecDepth 100000 in
theorem j148_X12_wideOf (l : Launch) (D : va_G) (zt : Nat × Nat × Nat × (Nat → Nat) × (Nat → Nat)) (r : Nat → Nat) (g : Nat → ClassId) (I : Nat → Int32) (A : Nat → Nat → Int32) (L : Nat → Nat → Int64) (z1 : Int32) (hIv : IvM I A) (hp0 : 0 ≤ z1.toInt) (hp1 : z1.toInt ≤ 4) : GM l D zt (tyM g) yX12_wideOf wz_j148_X12_wideOf ({ frames := 0, cells := 0, slots := 0, locals := 0 } : Room) [.ref (r 0), .int z1] (wM r g I A L) (fun v _ w' => v = some (.int (A 11 ((5 * (I 15)) + z1).toNatClampNeg)) ∧ w' = wM r g I A L) 0 0 := by
  refine GM.of (cc := cX12_wideOf) (maxL := 2) (ret := (some .int)) (own := RX12) (lv := [(0, .ref (r 0)), (1, .int z1)]) (by decide) rfl rfl (Nat.le_of_ble_eq_true rfl) rfl (fun κ sz hk hR hN => ?_)
  have hin12 : ∀ w ∈ u_ws RX12 TX12 55, w ∈ wz_j148_X12_wideOf := fun w h => (List.mem_cons_of_mem _ (List.mem_append_right _ (List.mem_append_left _ h)))
  refine g_aload_n hk dX12_wideOf_0 rfl ?_
  refine gM_r0_29 hk hin12 (List.mem_cons_of_mem _ (List.mem_append_left _ (List.mem_of_getElem? (i := 0) rfl))) dX12_wideOf_1 ?_
  refine g_iconst (v := 5) hk dX12_wideOf_4 (by decide) ?_
  refine g_aload_n hk dX12_wideOf_5 rfl ?_
  refine gM_i15 (v := (I 15)) hk hin12 (List.mem_cons_of_mem _ (List.mem_append_left _ (List.mem_of_getElem? (i := 1) rfl))) dX12_wideOf_6 rfl ?_
  have f18016 := IvM_f15 hIv
  refine g_imul hk dX12_wideOf_9 ?_
  have h18017 : (5 * (I 15)).toInt = 5 * (I 15).toInt := i32_mul rfl rfl rfl (by omega) (by omega)
  refine g_iload_n hk dX12_wideOf_10 rfl ?_
  refine g_iadd hk dX12_wideOf_11 ?_
  have h18018 : ((5 * (I 15)) + z1).toInt = (5 * (I 15)).toInt + z1.toInt := i32_add rfl rfl rfl (by omega) (by omega)
  refine lM_11 (v := (A 11 ((5 * (I 15)) + z1).toNatClampNeg)) hk (vp_in_iff.mpr ⟨by omega, by omega⟩) rfl dX12_wideOf_12 ?_
  have f18019 := IvM_a11 hIv (((5 * (I 15)) + z1).toNatClampNeg)
  exact g_iret hk hR rfl ⟨rfl, rfl⟩ dX12_wideOf_13
def wo_j146_X12_query : List Cond := [Cond.methodLink RX12 251 yX12_isQuery, Cond.instanceMethod yX12_isQuery, Cond.selects RX12 yX12_isQuery yX12_isQuery, Cond.initialized RX12, Cond.methodLink RX12 254 yX12_wideOf, Cond.instanceMethod yX12_wideOf, Cond.selects RX12 yX12_wideOf yX12_wideOf, Cond.methodLink RX12 244 yX12_in, Cond.static yX12_in, Cond.fieldLink RX12 55 "WarpDeskModel" "queryAt" "[I", Cond.fieldLink RX12 197 "WarpDeskModel" "live" "I"]
def wz_j146_X12_query : List Cond := .code yX12_query cX12_query 3 (some .int) :: (wo_j146_X12_query ++ (wsX120 ++ (wz_j147_X12_isQuery ++ (wz_j148_X12_wideOf ++ (wz_j145_X12_in ++ ([] : List Cond))))))
theorem zg_j146_X12_query : ∀ w ∈ wz_j146_X12_query, goodWord w = true := zg_cons rfl (zg_app (by decide +kernel) (zg_app zgU_wsX120 (zg_app zg_j147_X12_isQuery (zg_app zg_j148_X12_wideOf (zg_app zg_j145_X12_in zg_nil)))))
theorem zi_j146_X12_query : ∀ w ∈ wz_j146_X12_query, w ∈ lw_tbl := zi_cons zw_1662 (zi_app (zi_cons zw_1663 (zi_cons zw_1665 (zi_cons zw_67 (zi_cons zw_115 (zi_cons zw_1667 (zi_cons zw_1669 (zi_cons zw_68 (zi_cons zw_1656 (zi_cons zw_1657 (zi_cons zw_1408 (zi_cons zw_1400 zi_nil))))))))))) (zi_app inX12 (zi_app zi_j147_X12_isQuery (zi_app zi_j148_X12_wideOf (zi_app zi_j145_X12_in zi_nil)))))
set_option maxHeartbeats 4000000 in
set_option maxRecDepth 100000 in
theorem j146_X12_query (l : Launch) (D : va_G) (zt : Nat × Nat × Nat × (Nat → Nat) × (Nat → Nat)) (r : Nat → Nat) (g : Nat → ClassId) (I : Nat → Int32) (A : Nat → Nat → Int32) (L : Nat → Nat → Int64) (z1 : Int32) (z2 : Int32) (hIv : IvM I A) : GM l D zt (tyM g) yX12_query wz_j146_X12_query ({ frames := 2, cells := 0, slots := 0, locals := 43 } : Room) [.ref (r 0), .int z1, .int z2] (wM r g I A L) (fun v _ w' => ∃ y0 : Int32, v = some (.int y0) ∧ w' = wM r g I A L) 0 0 := by
  refine GM.of (cc := cX12_query) (maxL := 3) (ret := (some .int)) (own := RX12) (lv := [(0, .ref (r 0)), (1, .int z1), (2, .int z2)]) (by decide) rfl rfl (Nat.le_of_ble_eq_true rfl) rfl (fun κ sz hk hR hN => ?_)
  have hin12 : ∀ w ∈ u_ws RX12 TX12 55, w ∈ wz_j146_X12_query := fun w h => (List.mem_cons_of_mem _ (List.mem_append_right _ (List.mem_append_left _ h)))
  refine g_aload_n hk dX12_query_0 rfl ?_
  refine g_iload_n hk dX12_query_1 rfl ?_
  refine g_callV (n := 1) hk (j147_X12_isQuery l D zt r g I A L z1 hIv) (SP.same _) (fun _ h => h) (gi_V (List.mem_cons_of_mem _ (List.mem_append_left _ (List.mem_of_getElem? (i := 0) rfl))) (List.mem_cons_of_mem _ (List.mem_append_left _ (List.mem_of_getElem? (i := 1) rfl))) (List.mem_cons_of_mem _ (List.mem_append_left _ (List.mem_of_getElem? (i := 2) rfl))) (List.mem_cons_of_mem _ (List.mem_append_left _ (List.mem_of_getElem? (i := 3) rfl))) (gi_sub (fun w h => (List.mem_cons_of_mem _ (List.mem_append_right _ (List.mem_append_right _ (List.mem_append_left _ h))))) zg_j147_X12_isQuery)) rfl rfl rfl (by decide +kernel) ⟨Nat.le_of_ble_eq_true rfl, Nat.le_of_ble_eq_true rfl⟩ 0 rfl rfl rfl rfl (Nat.le_of_ble_eq_true rfl) ⟨Nat.le_of_ble_eq_true rfl, Nat.le_of_ble_eq_true rfl⟩ dX12_query_2 (fun v ty' w' hp hk' => ?_)
  rcases hp with ⟨rfl, rfl⟩ | ⟨c18010, c18011, c18012, c18013, rfl, rfl⟩
  · skip
    show GW κ 3 0 0 (wM r g I A L) 5 [(0, .ref (r 0)), (1, .int z1), (2, .int z2)] [.int 0]
    refine g_if_eq (tgt := 44) (a := 0) hk dX12_query_5 (by decide) rfl (fun _ => ?_) (fun z9 => absurd (show (0 : Int) = (0 : Int) from by decide) z9)
    refine g_sipush (v := (-1000)) hk dX12_query_44 (by decide) ?_
    exact g_iret hk hR rfl ⟨(-1000), rfl, rfl⟩ dX12_query_47
  · skip
    have f18015 : 0 ≤ (A 11 (5 * (I 15) + z1).toNatClampNeg).toInt ∧ (A 11 (5 * (I 15) + z1).toNatClampNeg).toInt ≤ 16 := IvM_a11 hIv _
    show GW κ 3 0 0 (wM r g I A L) 5 [(0, .ref (r 0)), (1, .int z1), (2, .int z2)] [.int 1]
    refine g_if_eq (tgt := 44) (a := 1) hk dX12_query_5 (by decide) rfl (fun z9 => absurd z9 (show ¬ ((1 : Int) = (0 : Int)) from by decide)) (fun _ => ?_)
    refine g_iload_n hk dX12_query_8 rfl ?_
    refine g_iconst (v := 0) hk dX12_query_9 (by decide) ?_
    refine g_aload_n hk dX12_query_10 rfl ?_
    refine g_iload_n hk dX12_query_11 rfl ?_
    refine g_callV (n := 1) hk (j148_X12_wideOf l D zt r g I A L z1 hIv (by omega) (by omega)) (SP.same _) (fun _ h => h) (gi_V (List.mem_cons_of_mem _ (List.mem_append_left _ (List.mem_of_getElem? (i := 4) rfl))) (List.mem_cons_of_mem _ (List.mem_append_left _ (List.mem_of_getElem? (i := 5) rfl))) (List.mem_cons_of_mem _ (List.mem_append_left _ (List.mem_of_getElem? (i := 6) rfl))) (List.mem_cons_of_mem _ (List.mem_append_left _ (List.mem_of_getElem? (i := 3) rfl))) (gi_sub (fun w h => (List.mem_cons_of_mem _ (List.mem_append_right _ (List.mem_append_right _ (List.mem_append_right _ (List.mem_append_left _ h)))))) zg_j148_X12_wideOf)) rfl rfl rfl (by decide +kernel) ⟨Nat.le_of_ble_eq_true rfl, Nat.le_of_ble_eq_true rfl⟩ 0 rfl rfl rfl rfl (Nat.le_of_ble_eq_true rfl) ⟨Nat.le_of_ble_eq_true rfl, Nat.le_of_ble_eq_true rfl⟩ dX12_query_12 (fun v ty' w' hp hk' => ?_)
    obtain ⟨rfl, rfl⟩ := hp
    show GW κ 3 0 0 (wM r g I A L) 15 [(0, .ref (r 0)), (1, .int z1), (2, .int z2)] [.int (A 11 (5 * (I 15) + z1).toNatClampNeg), .int 0, .int z2]
    refine g_iconst (v := 1) hk dX12_query_15 (by decide) ?_
    refine g_isub hk dX12_query_16 ?_
    refine g_topi (fun y18020 ey18020 => ?_)
    have hy18020 : y18020.toInt = (A 11 (5 * (I 15) + z1).toNatClampNeg).toInt - 1 := i32_sub ey18020 rfl rfl (by omega) (by omega)
    have k18021 : (0 : Int32).toInt = 0 := rfl
    refine g_callS (n := 3) hk (j145_X12_in l D zt r g I A L z2 0 y18020 hIv) (SP.same _) (fun _ h => h) (gi_S (List.mem_cons_of_mem _ (List.mem_append_left _ (List.mem_of_getElem? (i := 7) rfl))) (List.mem_cons_of_mem _ (List.mem_append_left _ (List.mem_of_getElem? (i := 8) rfl))) (List.mem_cons_of_mem _ (List.mem_append_left _ (List.mem_of_getElem? (i := 3) rfl))) (gi_sub (fun w h => (List.mem_cons_of_mem _ (List.mem_append_right _ (List.mem_append_right _ (List.mem_append_right _ (List.mem_append_right _ (List.mem_append_left _ h))))))) zg_j145_X12_in)) rfl rfl rfl (by decide +kernel) ⟨Nat.le_of_ble_eq_true rfl, Nat.le_of_ble_eq_true rfl⟩ rfl rfl (Nat.le_of_ble_eq_true rfl) ⟨Nat.le_of_ble_eq_true rfl, Nat.le_of_ble_eq_true rfl⟩ dX12_query_17 (fun v ty' w' hp hk' => ?_)
    rcases hp with ⟨c18022, rfl, rfl⟩ | ⟨c18024, c18025, rfl, rfl⟩
    · skip
      have b18027l := Int32.le_toInt z2
      have b18027h := Int32.toInt_lt z2
      show GW κ 3 0 0 (wM r g I A L) 20 [(0, .ref (r 0)), (1, .int z1), (2, .int z2)] [.int 0]
      refine g_if_eq (tgt := 44) (a := 0) hk dX12_query_20 (by decide) rfl (fun _ => ?_) (fun z9 => absurd (show (0 : Int) = (0 : Int) from by decide) z9)
      refine g_sipush (v := (-1000)) hk dX12_query_44 (by decide) ?_
      exact g_iret hk hR rfl ⟨(-1000), rfl, rfl⟩ dX12_query_47
    · skip
      show GW κ 3 0 0 (wM r g I A L) 20 [(0, .ref (r 0)), (1, .int z1), (2, .int z2)] [.int 1]
      refine g_if_eq (tgt := 44) (a := 1) hk dX12_query_20 (by decide) rfl (fun z9 => absurd z9 (show ¬ ((1 : Int) = (0 : Int)) from by decide)) (fun _ => ?_)
      refine g_aload_n hk dX12_query_23 rfl ?_
      refine gM_r0_30 hk hin12 (List.mem_cons_of_mem _ (List.mem_append_left _ (List.mem_of_getElem? (i := 9) rfl))) dX12_query_24 ?_
      refine g_bipush (v := 16) hk dX12_query_27 (by decide) ?_
      refine g_iconst (v := 5) hk dX12_query_29 (by decide) ?_
      refine g_aload_n hk dX12_query_30 rfl ?_
      refine gM_i15 (v := (I 15)) hk hin12 (List.mem_cons_of_mem _ (List.mem_append_left _ (List.mem_of_getElem? (i := 10) rfl))) dX12_query_31 rfl ?_
      have f18028 := IvM_f15 hIv
      refine g_imul hk dX12_query_34 ?_
      refine g_topi (fun y18029 ey18029 => ?_)
      have hy18029 : y18029.toInt = 5 * (I 15).toInt := i32_mul ey18029 rfl rfl (by omega) (by omega)
      refine g_iload_n hk dX12_query_35 rfl ?_
      refine g_iadd hk dX12_query_36 ?_
      refine g_topi (fun y18030 ey18030 => ?_)
      have hy18030 : y18030.toInt = y18029.toInt + z1.toInt := i32_add ey18030 rfl rfl (by omega) (by omega)
      refine g_imul hk dX12_query_37 ?_
      refine g_topi (fun y18031 ey18031 => ?_)
      have hy18031 : y18031.toInt = 16 * y18030.toInt := i32_mul ey18031 rfl rfl (by omega) (by omega)
      refine g_iload_n hk dX12_query_38 rfl ?_
      refine g_iadd hk dX12_query_39 ?_
      refine g_topi (fun y18032 ey18032 => ?_)
      have hy18032 : y18032.toInt = y18031.toInt + z2.toInt := i32_add ey18032 rfl rfl (by omega) (by omega)
      refine lM_12 (v := (A 12 y18032.toNatClampNeg)) hk (vp_in_iff.mpr ⟨by omega, by omega⟩) rfl dX12_query_40 ?_
      refine g_goto (tgt := 47) hk dX12_query_41 (by decide) ?_
      have b18033l := Int32.le_toInt (A 12 y18032.toNatClampNeg)
      have b18033h := Int32.toInt_lt (A 12 y18032.toNatClampNeg)
      exact g_iret hk hR rfl ⟨(A 12 y18032.toNatClampNeg), rfl, rfl⟩ dX12_query_47
def wo_j151_X12_copies : List Cond := [Cond.fieldLink RX12 73 "WarpDeskModel" "row" "[I", Cond.fieldLink RX12 70 "WarpDeskModel" "now" "[I"]
def wz_j151_X12_copies : List Cond := .code yX12_copies cX12_copies 2 none :: (wo_j151_X12_copies ++ (wsX120 ++ ([] : List Cond)))
theorem zg_j151_X12_copies : ∀ w ∈ wz_j151_X12_copies, goodWord w = true := zg_cons rfl (zg_app (by decide +kernel) (zg_app zgU_wsX120 zg_nil))
theorem zi_j151_X12_copies : ∀ w ∈ wz_j151_X12_copies, w ∈ lw_tbl := zi_cons zw_1682 (zi_app (zi_cons zw_1414 (zi_cons zw_1413 zi_nil)) (zi_app inX12 zi_nil))
set_option maxHeartbeats 4000000 in
set_option maxRecDepth 100000 in
theorem j151_X12_copies (l : Launch) (D : va_G) (zt : Nat × Nat × Nat × (Nat → Nat) × (Nat → Nat)) (r : Nat → Nat) (g : Nat → ClassId) (I : Nat → Int32) (A : Nat → Nat → Int32) (L : Nat → Nat → Int64) (hIv : IvM I A) : GM l D zt (tyM g) yX12_copies wz_j151_X12_copies ({ frames := 0, cells := 0, slots := 0, locals := 0 } : Room) [.ref (r 0)] (wM r g I A L) (fun v _ w' => ∃ (I' : Nat → Int32) (A' : Nat → Nat → Int32) (L' : Nat → Nat → Int64), Md [] I I' ∧ Md [18] A A' ∧ IvM I' A' ∧ ((A' 18 0).toInt = (A 17 0).toInt) ∧ ((A' 18 164).toInt = (A 17 164).toInt) ∧ v = none ∧ w' = wM r g I' A' L') 0 0 := by
  refine GM.of (cc := cX12_copies) (maxL := 2) (ret := none) (own := RX12) (lv := [(0, .ref (r 0))]) (by decide) rfl rfl (Nat.le_of_ble_eq_true rfl) rfl (fun κ sz hk hR hN => ?_)
  have hin12 : ∀ w ∈ u_ws RX12 TX12 55, w ∈ wz_j151_X12_copies := fun w h => (List.mem_cons_of_mem _ (List.mem_append_right _ (List.mem_append_left _ h)))
  refine g_iconst (v := 0) hk dX12_copies_0 (by decide) ?_
  refine g_istore_n (lv' := [(1, .int 0), (0, .ref (r 0))]) hk dX12_copies_1 (by decide) rfl ?_
  have lp18044 : ∀ (n18046 k18045 : Nat), k18045 + n18046 = 165 → GW κ 2 0 0 (wM r g I (up2 A 18 (cpo (A 17) (A 18) 0 k18045)) L) 2 [(1, .int (nI k18045)), (0, .ref (r 0))] [] := by
    intro n18046
    induction n18046 with
    | zero =>
      intro k18045 hk18045
      obtain rfl : k18045 = 165 := by omega
      show GW κ 2 0 0 (wM r g I (up2 A 18 (cpo (A 17) (A 18) 0 165)) L) 2 [(1, .int 165), (0, .ref (r 0))] []
      refine g_iload_n hk dX12_copies_2 rfl ?_
      refine g_sipush (v := 165) hk dX12_copies_3 (by decide) ?_
      refine g_icmp_ge (tgt := 27) (a := 165) (b := 165) hk dX12_copies_6 (by decide) rfl rfl (fun _ => ?_) (fun z9 => absurd (show (165 : Int) ≤ (165 : Int) from by decide) z9)
      have f18049 := IvM_s17_0 hIv
      have f18050 := IvM_s17_164 hIv
      exact g_vret hk hR ⟨I, (up2 A 18 (cpo (A 17) (A 18) 0 165)), L, (show Md [] I I from Md.rf), (show Md [18] A (up2 A 18 (cpo (A 17) (A 18) 0 165)) from (Md.up2 Md.rf rfl)), ⟨(IvM_f1 (I := I) (A := A) hIv), (IvM_f2 (I := I) (A := A) hIv), (IvM_f3 (I := I) (A := A) hIv), (IvM_f4 (I := I) (A := A) hIv), (IvM_f6 (I := I) (A := A) hIv), (IvM_f8 (I := I) (A := A) hIv), (IvM_f15 (I := I) (A := A) hIv), (IvM_f16 (I := I) (A := A) hIv), (IvM_f17 (I := I) (A := A) hIv), (IvM_f18 (I := I) (A := A) hIv), (IvM_f22 (I := I) (A := A) hIv), (IvM_f23 (I := I) (A := A) hIv), (IvM_f24 (I := I) (A := A) hIv), (IvM_a11 (I := I) (A := A) hIv), (IvM_a26 (I := I) (A := A) hIv), (IvM_s8_0 (I := I) (A := A) hIv), (IvM_s8_1 (I := I) (A := A) hIv), (IvM_s10_0 (I := I) (A := A) hIv), (IvM_s10_1 (I := I) (A := A) hIv), (IvM_s17_0 (I := I) (A := A) hIv), (IvM_s17_164 (I := I) (A := A) hIv), (IvM_lv (I := I) (A := A) hIv), (IvM_sd (I := I) (A := A) hIv), (IvM_nq (I := I) (A := A) hIv), (IvM_hr (I := I) (A := A) hIv), (IvM_hh (I := I) (A := A) hIv), trivial⟩, (by rw [show ((up2 A 18 (cpo (A 17) (A 18) 0 165)) 18 0) = (A 17 0) from rfl] <;> omega), (by rw [show ((up2 A 18 (cpo (A 17) (A 18) 0 165)) 18 164) = (A 17 164) from rfl] <;> omega), rfl, rfl⟩ dX12_copies_27
    | succ n18046 ih18048 =>
      intro k18045 hk18045
      obtain ⟨x18047, ex18047⟩ : ∃ x : Int32, x = nI k18045 := ⟨_, rfl⟩
      have hx18047 : x18047.toInt = (k18045 : Int) := by rw [ex18047]; exact nI_toInt (by omega)
      have cx18047 : x18047.toNatClampNeg = k18045 := cl_nat hx18047
      rw [← ex18047]
      refine g_iload_n hk dX12_copies_2 rfl ?_
      refine g_sipush (v := 165) hk dX12_copies_3 (by decide) ?_
      refine g_icmp_ge (tgt := 27) (a := x18047.toInt) (b := 165) hk dX12_copies_6 (by decide) rfl rfl (fun z9 => absurd z9 (show ¬ (165 ≤ x18047.toInt) from by omega)) (fun _ => ?_)
      refine g_aload_n hk dX12_copies_9 rfl ?_
      refine gM_r0_36 hk hin12 (List.mem_cons_of_mem _ (List.mem_append_left _ (List.mem_of_getElem? (i := 0) rfl))) dX12_copies_10 ?_
      refine g_iload_n hk dX12_copies_13 rfl ?_
      refine g_aload_n hk dX12_copies_14 rfl ?_
      refine gM_r0_35 hk hin12 (List.mem_cons_of_mem _ (List.mem_append_left _ (List.mem_of_getElem? (i := 1) rfl))) dX12_copies_15 ?_
      refine g_iload_n hk dX12_copies_18 rfl ?_
      refine lM_17 (v := (A 17 x18047.toNatClampNeg)) hk (vp_in_iff.mpr ⟨by omega, by omega⟩) rfl dX12_copies_19 ?_
      refine sM_18 (j := x18047.toNatClampNeg) hk (vp_in_iff.mpr ⟨by omega, by omega⟩) rfl dX12_copies_20 ?_
      obtain ⟨y18051, ey18051⟩ : ∃ y : Int32, y = x18047 + Int32.ofInt 1 := ⟨_, rfl⟩
      have hy18051 : y18051.toInt = x18047.toInt + 1 := i32_add ey18051 rfl (by decide) (by omega) (by omega)
      refine g_iinc (v := y18051) (lv' := [(1, .int y18051), (0, .ref (r 0))]) hk 0 dX12_copies_21 rfl ey18051.symm (by decide) rfl ?_
      refine g_goto (tgt := 2) hk dX12_copies_24 (by decide) ?_
      have q18052 := cl_int (y := x18047) (by omega)
      have q18053 := cl_int (y := x18047) (by omega)
      have eW : (up3 (up2 A 18 (cpo (A 17) (A 18) 0 k18045)) 18 (x18047.toNatClampNeg) (A 17 x18047.toNatClampNeg)) = (up2 A 18 (cpo (A 17) (A 18) 0 (k18045 + 1))) := cpo_st (by omega) (show (A 17 x18047.toNatClampNeg) = (A 17 k18045) from by rw [show x18047.toNatClampNeg = k18045 from by omega])
      have fy : y18051 = nI (k18045 + 1) := nI_of_toInt (by omega) (by omega)
      rw [eW, fy]
      exact g_lv (List.forall_mem_cons.mpr ⟨List.mem_of_getElem? (i := 0) rfl, (List.forall_mem_cons.mpr ⟨List.mem_of_getElem? (i := 1) rfl, (fun _ h => absurd h List.not_mem_nil)⟩)⟩) (ih18048 (k18045 + 1) (by omega))
  have lp18044e := lp18044 165 0 (by omega)
  rw [cpo_0] at lp18044e
  exact lp18044e
def wo_j152_X12_records : List Cond := [Cond.fieldLink RX12 209 "WarpDeskModel" "undos" "I", Cond.methodLink RX12 121 yX12_keepsRow, Cond.instanceMethod yX12_keepsRow, Cond.selects RX12 yX12_keepsRow yX12_keepsRow, Cond.initialized RX12, Cond.fieldLink RX12 85 "WarpDeskModel" "history" "[I", Cond.fieldLink RX12 70 "WarpDeskModel" "now" "[I"]
def wz_j152_X12_records : List Cond := .code yX12_records cX12_records 2 none :: (wo_j152_X12_records ++ (wsX120 ++ (wz_j139_X12_keepsRow ++ ([] : List Cond))))
theorem zg_j152_X12_records : ∀ w ∈ wz_j152_X12_records, goodWord w = true := zg_cons rfl (zg_app (by decide +kernel) (zg_app zgU_wsX120 (zg_app zg_j139_X12_keepsRow zg_nil)))
theorem zi_j152_X12_records : ∀ w ∈ wz_j152_X12_records, w ∈ lw_tbl := zi_cons zw_1686 (zi_app (zi_cons zw_1422 (zi_cons zw_1376 (zi_cons zw_1378 (zi_cons zw_46 (zi_cons zw_115 (zi_cons zw_1423 (zi_cons zw_1413 zi_nil))))))) (zi_app inX12 (zi_app zi_j139_X12_keepsRow zi_nil)))
set_option maxHeartbeats 4000000 in
set_option maxRecDepth 100000 in
theorem j152_X12_records (l : Launch) (D : va_G) (zt : Nat × Nat × Nat × (Nat → Nat) × (Nat → Nat)) (r : Nat → Nat) (g : Nat → ClassId) (I : Nat → Int32) (A : Nat → Nat → Int32) (L : Nat → Nat → Int64) (hIv : IvM I A) (hp0 : 0 ≤ (A 18 0).toInt) (hp1 : (A 18 0).toInt ≤ 160) (hp2 : 1 ≤ (A 18 164).toInt) : GM l D zt (tyM g) yX12_records wz_j152_X12_records ({ frames := 1, cells := 0, slots := 0, locals := 21 } : Room) [.ref (r 0)] (wM r g I A L) (fun v _ w' => ∃ (I' : Nat → Int32) (A' : Nat → Nat → Int32) (L' : Nat → Nat → Int64), Md [22] I I' ∧ Md [17, 22] A A' ∧ IvM I' A' ∧ v = none ∧ w' = wM r g I' A' L') 0 0 := by
  refine GM.of (cc := cX12_records) (maxL := 2) (ret := none) (own := RX12) (lv := [(0, .ref (r 0))]) (by decide) rfl rfl (Nat.le_of_ble_eq_true rfl) rfl (fun κ sz hk hR hN => ?_)
  have hin12 : ∀ w ∈ u_ws RX12 TX12 55, w ∈ wz_j152_X12_records := fun w h => (List.mem_cons_of_mem _ (List.mem_append_right _ (List.mem_append_left _ h)))
  refine g_aload_n hk dX12_records_0 rfl ?_
  refine gM_i22 (v := (I 22)) hk hin12 (List.mem_cons_of_mem _ (List.mem_append_left _ (List.mem_of_getElem? (i := 0) rfl))) dX12_records_1 rfl ?_
  have f18063 := IvM_f22 hIv
  refine g_bipush (v := 40) hk dX12_records_4 (by decide) ?_
  refine g_icmp_ne (tgt := 50) (a := (I 22).toInt) (b := 40) hk dX12_records_6 (by decide) rfl rfl (fun c18064 => ?_) (fun c18064 => ?_)
  · skip
    refine g_iconst (v := 0) hk dX12_records_50 (by decide) ?_
    refine g_istore_n (lv' := [(1, .int 0), (0, .ref (r 0))]) hk dX12_records_51 (by decide) rfl ?_
    have lp18065 : ∀ (n18067 k18066 : Nat), k18066 + n18067 = 165 → GW κ 2 0 0 (wM r g I (up2 A 22 (cpo (A 17) (A 22) (165 * (I 22).toNatClampNeg) k18066)) L) 52 [(1, .int (nI k18066)), (0, .ref (r 0))] [] := by
      intro n18067
      induction n18067 with
      | zero =>
        intro k18066 hk18066
        obtain rfl : k18066 = 165 := by omega
        show GW κ 2 0 0 (wM r g I (up2 A 22 (cpo (A 17) (A 22) (165 * (I 22).toNatClampNeg) 165)) L) 52 [(1, .int 165), (0, .ref (r 0))] []
        refine g_iload_n hk dX12_records_52 rfl ?_
        refine g_sipush (v := 165) hk dX12_records_53 (by decide) ?_
        refine g_icmp_ge (tgt := 86) (a := 165) (b := 165) hk dX12_records_56 (by decide) rfl rfl (fun _ => ?_) (fun z9 => absurd (show (165 : Int) ≤ (165 : Int) from by decide) z9)
        refine g_aload_n hk dX12_records_86 rfl ?_
        refine g_dup hk dX12_records_87 rfl ?_
        refine gM_i22 (v := (I 22)) hk hin12 (List.mem_cons_of_mem _ (List.mem_append_left _ (List.mem_of_getElem? (i := 0) rfl))) dX12_records_88 rfl ?_
        refine g_iconst (v := 1) hk dX12_records_91 (by decide) ?_
        refine g_iadd hk dX12_records_92 ?_
        refine g_topi (fun y18070 ey18070 => ?_)
        have hy18070 : y18070.toInt = (I 22).toInt + 1 := i32_add ey18070 rfl rfl (by omega) (by omega)
        refine pM_i22 hk hin12 (List.mem_cons_of_mem _ (List.mem_append_left _ (List.mem_of_getElem? (i := 0) rfl))) dX12_records_93 ?_
        refine g_aload_n hk dX12_records_96 rfl ?_
        have q18071 := cl_int (y := (I 22)) (by omega)
        refine g_callV (n := 0) hk (j139_X12_keepsRow l D zt r g (upd I 22 y18070) (up2 A 22 (cpo (A 17) (A 22) (165 * (I 22).toNatClampNeg) 165)) L  ⟨(IvM_f1 (I := I) (A := A) hIv), (IvM_f2 (I := I) (A := A) hIv), (IvM_f3 (I := I) (A := A) hIv), (IvM_f4 (I := I) (A := A) hIv), (IvM_f6 (I := I) (A := A) hIv), (IvM_f8 (I := I) (A := A) hIv), (IvM_f15 (I := I) (A := A) hIv), (IvM_f16 (I := I) (A := A) hIv), (IvM_f17 (I := I) (A := A) hIv), (IvM_f18 (I := I) (A := A) hIv), (show 0 ≤ y18070.toInt ∧ y18070.toInt ≤ 40 from ⟨by omega, by omega⟩), (IvM_f23 (I := I) (A := A) hIv), (IvM_f24 (I := I) (A := A) hIv), (IvM_a11 (I := I) (A := A) hIv), (IvM_a26 (I := I) (A := A) hIv), (IvM_s8_0 (I := I) (A := A) hIv), (IvM_s8_1 (I := I) (A := A) hIv), (IvM_s10_0 (I := I) (A := A) hIv), (IvM_s10_1 (I := I) (A := A) hIv), (IvM_s17_0 (I := I) (A := A) hIv), (IvM_s17_164 (I := I) (A := A) hIv), (IvM_lv (I := I) (A := A) hIv), (IvM_sd (I := I) (A := A) hIv), (IvM_nq (I := I) (A := A) hIv), (hr_cpo (n := (I 22)) (n2 := y18070) (fun j hj => (IvM_hr (I := I) (A := A) hIv) j (by omega)) (by omega) (by omega) ⟨(IvM_s17_0 (I := I) (A := A) hIv), (IvM_s17_164 (I := I) (A := A) hIv).1⟩), (IvM_hh (I := I) (A := A) hIv), trivial⟩ (by first | (rw [show ((up2 A 22 (cpo (A 17) (A 22) (165 * (I 22).toNatClampNeg) 165)) 18 0) = (A 18 0) from rfl] <;> omega) | omega) (by first | (rw [show ((up2 A 22 (cpo (A 17) (A 22) (165 * (I 22).toNatClampNeg) 165)) 18 0) = (A 18 0) from rfl] <;> omega) | omega) (by first | (rw [show ((up2 A 22 (cpo (A 17) (A 22) (165 * (I 22).toNatClampNeg) 165)) 18 164) = (A 18 164) from rfl] <;> omega) | omega)) (SP.same _) (fun _ h => h) (gi_V (List.mem_cons_of_mem _ (List.mem_append_left _ (List.mem_of_getElem? (i := 1) rfl))) (List.mem_cons_of_mem _ (List.mem_append_left _ (List.mem_of_getElem? (i := 2) rfl))) (List.mem_cons_of_mem _ (List.mem_append_left _ (List.mem_of_getElem? (i := 3) rfl))) (List.mem_cons_of_mem _ (List.mem_append_left _ (List.mem_of_getElem? (i := 4) rfl))) (gi_sub (fun w h => (List.mem_cons_of_mem _ (List.mem_append_right _ (List.mem_append_right _ (List.mem_append_left _ h))))) zg_j139_X12_keepsRow)) rfl rfl rfl (by decide +kernel) ⟨Nat.le_of_ble_eq_true rfl, Nat.le_of_ble_eq_true rfl⟩ 0 rfl rfl rfl rfl (Nat.le_of_ble_eq_true rfl) ⟨Nat.le_of_ble_eq_true rfl, Nat.le_of_ble_eq_true rfl⟩ dX12_records_97 (fun v ty' w' hp hk' => ?_)
        obtain ⟨I18073, A18073, L18073, hI18073, hA18073, hV18073, rfl, rfl⟩ := hp
        show GW κ 2 0 0 (wM r g I18073 A18073 L18073) 100 [(1, .int 165), (0, .ref (r 0))] []
        exact g_vret hk hR ⟨I18073, A18073, L18073, (show Md [22] I I18073 from (Md.tr (Md.up Md.rf rfl) hI18073 rfl)), (show Md [17, 22] A A18073 from (Md.tr (Md.up2 Md.rf rfl) hA18073 rfl)), hV18073, rfl, rfl⟩ dX12_records_100
      | succ n18067 ih18069 =>
        intro k18066 hk18066
        obtain ⟨x18068, ex18068⟩ : ∃ x : Int32, x = nI k18066 := ⟨_, rfl⟩
        have hx18068 : x18068.toInt = (k18066 : Int) := by rw [ex18068]; exact nI_toInt (by omega)
        have cx18068 : x18068.toNatClampNeg = k18066 := cl_nat hx18068
        rw [← ex18068]
        have q18074 := cl_int (y := (I 22)) (by omega)
        refine g_iload_n hk dX12_records_52 rfl ?_
        refine g_sipush (v := 165) hk dX12_records_53 (by decide) ?_
        refine g_icmp_ge (tgt := 86) (a := x18068.toInt) (b := 165) hk dX12_records_56 (by decide) rfl rfl (fun z9 => absurd z9 (show ¬ (165 ≤ x18068.toInt) from by omega)) (fun _ => ?_)
        refine g_aload_n hk dX12_records_59 rfl ?_
        refine gM_r0_45 hk hin12 (List.mem_cons_of_mem _ (List.mem_append_left _ (List.mem_of_getElem? (i := 5) rfl))) dX12_records_60 ?_
        refine g_sipush (v := 165) hk dX12_records_63 (by decide) ?_
        refine g_aload_n hk dX12_records_66 rfl ?_
        refine gM_i22 (v := (I 22)) hk hin12 (List.mem_cons_of_mem _ (List.mem_append_left _ (List.mem_of_getElem? (i := 0) rfl))) dX12_records_67 rfl ?_
        refine g_imul hk dX12_records_70 ?_
        refine g_topi (fun y18075 ey18075 => ?_)
        have hy18075 : y18075.toInt = 165 * (I 22).toInt := i32_mul ey18075 rfl rfl (by omega) (by omega)
        refine g_iload_n hk dX12_records_71 rfl ?_
        refine g_iadd hk dX12_records_72 ?_
        refine g_topi (fun y18076 ey18076 => ?_)
        have hy18076 : y18076.toInt = y18075.toInt + x18068.toInt := i32_add ey18076 rfl rfl (by omega) (by omega)
        refine g_aload_n hk dX12_records_73 rfl ?_
        refine gM_r0_35 hk hin12 (List.mem_cons_of_mem _ (List.mem_append_left _ (List.mem_of_getElem? (i := 6) rfl))) dX12_records_74 ?_
        refine g_iload_n hk dX12_records_77 rfl ?_
        refine lM_17 (v := (A 17 x18068.toNatClampNeg)) hk (vp_in_iff.mpr ⟨by omega, by omega⟩) rfl dX12_records_78 ?_
        refine sM_22 (j := y18076.toNatClampNeg) hk (vp_in_iff.mpr ⟨by omega, by omega⟩) rfl dX12_records_79 ?_
        obtain ⟨y18077, ey18077⟩ : ∃ y : Int32, y = x18068 + Int32.ofInt 1 := ⟨_, rfl⟩
        have hy18077 : y18077.toInt = x18068.toInt + 1 := i32_add ey18077 rfl (by decide) (by omega) (by omega)
        refine g_iinc (v := y18077) (lv' := [(1, .int y18077), (0, .ref (r 0))]) hk 0 dX12_records_80 rfl ey18077.symm (by decide) rfl ?_
        refine g_goto (tgt := 52) hk dX12_records_83 (by decide) ?_
        have q18078 := cl_int (y := x18068) (by omega)
        have q18079 := cl_int (y := y18076) (by omega)
        have eW : (up3 (up2 A 22 (cpo (A 17) (A 22) (165 * (I 22).toNatClampNeg) k18066)) 22 (y18076.toNatClampNeg) (A 17 x18068.toNatClampNeg)) = (up2 A 22 (cpo (A 17) (A 22) (165 * (I 22).toNatClampNeg) (k18066 + 1))) := cpo_st (by omega) (show (A 17 x18068.toNatClampNeg) = (A 17 k18066) from by rw [show x18068.toNatClampNeg = k18066 from by omega])
        have fy : y18077 = nI (k18066 + 1) := nI_of_toInt (by omega) (by omega)
        rw [eW, fy]
        exact g_lv (List.forall_mem_cons.mpr ⟨List.mem_of_getElem? (i := 0) rfl, (List.forall_mem_cons.mpr ⟨List.mem_of_getElem? (i := 1) rfl, (fun _ h => absurd h List.not_mem_nil)⟩)⟩) (ih18069 (k18066 + 1) (by omega))
    have lp18065e := lp18065 165 0 (by omega)
    rw [cpo_0] at lp18065e
    exact lp18065e
  · skip
    refine g_iconst (v := 0) hk dX12_records_9 (by decide) ?_
    refine g_istore_n (lv' := [(1, .int 0), (0, .ref (r 0))]) hk dX12_records_10 (by decide) rfl ?_
    have lp18126 : ∀ (n18127 : Nat) (x18080 : Int32) (I18082 : Nat → Int32) (A18082 : Nat → Nat → Int32) (L18082 : Nat → Nat → Int64), (Md [] I I18082) → (Md [22] A A18082) → (IvM I18082 A18082) → (0 ≤ x18080.toInt) → (x18080.toInt ≤ 6435) → (6436 - x18080.toInt < (n18127 : Int)) → (0 < n18127) → GW κ 2 0 0 (wM r g I18082 A18082 L18082) 11 [(1, .int x18080), (0, .ref (r 0))] [] := by
      intro n18127
      induction n18127 with
      | zero =>
        intro x18080 I18082 A18082 L18082 hI18082 hA18082 hV18082 h18124 h18125 m18128 m18128z
        exact absurd m18128z (Nat.lt_irrefl 0)
      | succ n18127 ih18129 =>
        intro x18080 I18082 A18082 L18082 hI18082 hA18082 hV18082 h18124 h18125 m18128 m18128z
        refine g_iload_n hk dX12_records_11 rfl ?_
        refine g_sipush (v := 6435) hk dX12_records_12 (by decide) ?_
        refine g_icmp_ge (tgt := 40) (a := x18080.toInt) (b := 6435) hk dX12_records_15 (by decide) rfl rfl (fun c18130 => ?_) (fun c18130 => ?_)
        · skip
          refine g_aload_n hk dX12_records_40 rfl ?_
          refine g_dup hk dX12_records_41 rfl ?_
          refine gM_i22 (v := (I 22)) hk hin12 (List.mem_cons_of_mem _ (List.mem_append_left _ (List.mem_of_getElem? (i := 0) rfl))) dX12_records_42 (hI18082 22 rfl) ?_
          refine g_iconst (v := 1) hk dX12_records_45 (by decide) ?_
          refine g_isub hk dX12_records_46 ?_
          refine g_topi (fun y18131 ey18131 => ?_)
          have hy18131 : y18131.toInt = (I 22).toInt - 1 := i32_sub ey18131 rfl rfl (by omega) (by omega)
          refine pM_i22 hk hin12 (List.mem_cons_of_mem _ (List.mem_append_left _ (List.mem_of_getElem? (i := 0) rfl))) dX12_records_47 ?_
          refine g_iconst (v := 0) hk dX12_records_50 (by decide) ?_
          refine g_istore_n (lv' := [(1, .int 0), (0, .ref (r 0))]) hk dX12_records_51 (by decide) rfl ?_
          have lp18132 : ∀ (n18134 k18133 : Nat), k18133 + n18134 = 165 → GW κ 2 0 0 (wM r g (upd I18082 22 y18131) (up2 A18082 22 (cpo (A 17) (A18082 22) (165 * y18131.toNatClampNeg) k18133)) L18082) 52 [(1, .int (nI k18133)), (0, .ref (r 0))] [] := by
            intro n18134
            induction n18134 with
            | zero =>
              intro k18133 hk18133
              obtain rfl : k18133 = 165 := by omega
              show GW κ 2 0 0 (wM r g (upd I18082 22 y18131) (up2 A18082 22 (cpo (A 17) (A18082 22) (165 * y18131.toNatClampNeg) 165)) L18082) 52 [(1, .int 165), (0, .ref (r 0))] []
              refine g_iload_n hk dX12_records_52 rfl ?_
              refine g_sipush (v := 165) hk dX12_records_53 (by decide) ?_
              refine g_icmp_ge (tgt := 86) (a := 165) (b := 165) hk dX12_records_56 (by decide) rfl rfl (fun _ => ?_) (fun z9 => absurd (show (165 : Int) ≤ (165 : Int) from by decide) z9)
              refine g_aload_n hk dX12_records_86 rfl ?_
              refine g_dup hk dX12_records_87 rfl ?_
              refine gM_i22 (v := y18131) hk hin12 (List.mem_cons_of_mem _ (List.mem_append_left _ (List.mem_of_getElem? (i := 0) rfl))) dX12_records_88 rfl ?_
              refine g_iconst (v := 1) hk dX12_records_91 (by decide) ?_
              refine g_iadd hk dX12_records_92 ?_
              refine g_topi (fun y18137 ey18137 => ?_)
              have hy18137 : y18137.toInt = y18131.toInt + 1 := i32_add ey18137 rfl rfl (by omega) (by omega)
              refine pM_i22 hk hin12 (List.mem_cons_of_mem _ (List.mem_append_left _ (List.mem_of_getElem? (i := 0) rfl))) dX12_records_93 ?_
              refine g_aload_n hk dX12_records_96 rfl ?_
              have q18138 := cl_int (y := y18131) (by omega)
              refine g_callV (n := 0) hk (j139_X12_keepsRow l D zt r g (upd (upd I18082 22 y18131) 22 y18137) (up2 A18082 22 (cpo (A 17) (A18082 22) (165 * y18131.toNatClampNeg) 165)) L18082  ⟨(IvM_f1 (I := I18082) (A := A18082) hV18082), (IvM_f2 (I := I18082) (A := A18082) hV18082), (IvM_f3 (I := I18082) (A := A18082) hV18082), (IvM_f4 (I := I18082) (A := A18082) hV18082), (IvM_f6 (I := I18082) (A := A18082) hV18082), (IvM_f8 (I := I18082) (A := A18082) hV18082), (IvM_f15 (I := I18082) (A := A18082) hV18082), (IvM_f16 (I := I18082) (A := A18082) hV18082), (IvM_f17 (I := I18082) (A := A18082) hV18082), (IvM_f18 (I := I18082) (A := A18082) hV18082), (show 0 ≤ y18137.toInt ∧ y18137.toInt ≤ 40 from ⟨by omega, by omega⟩), (IvM_f23 (I := I18082) (A := A18082) hV18082), (IvM_f24 (I := I18082) (A := A18082) hV18082), (IvM_a11 (I := I18082) (A := A18082) hV18082), (IvM_a26 (I := I18082) (A := A18082) hV18082), (IvM_s8_0 (I := I18082) (A := A18082) hV18082), (IvM_s8_1 (I := I18082) (A := A18082) hV18082), (IvM_s10_0 (I := I18082) (A := A18082) hV18082), (IvM_s10_1 (I := I18082) (A := A18082) hV18082), (IvM_s17_0 (I := I18082) (A := A18082) hV18082), (IvM_s17_164 (I := I18082) (A := A18082) hV18082), (IvM_lv (I := I18082) (A := A18082) hV18082), (IvM_sd (I := I18082) (A := A18082) hV18082), (IvM_nq (I := I18082) (A := A18082) hV18082), (hr_cpo (n := y18131) (n2 := y18137) (fun j hj => (IvM_hr (I := I18082) (A := A18082) hV18082) j (by omega)) (by omega) (by omega) ⟨(IvM_s17_0 (I := I18082) (A := A18082) hV18082), (IvM_s17_164 (I := I18082) (A := A18082) hV18082).1⟩), (IvM_hh (I := I18082) (A := A18082) hV18082), trivial⟩ (by first | (rw [show ((up2 A18082 22 (cpo (A 17) (A18082 22) (165 * y18131.toNatClampNeg) 165)) 18 0) = (A 18 0) from (congrFun (hA18082 18 rfl) _)] <;> omega) | omega) (by first | (rw [show ((up2 A18082 22 (cpo (A 17) (A18082 22) (165 * y18131.toNatClampNeg) 165)) 18 0) = (A 18 0) from (congrFun (hA18082 18 rfl) _)] <;> omega) | omega) (by first | (rw [show ((up2 A18082 22 (cpo (A 17) (A18082 22) (165 * y18131.toNatClampNeg) 165)) 18 164) = (A 18 164) from (congrFun (hA18082 18 rfl) _)] <;> omega) | omega)) (SP.same _) (fun _ h => h) (gi_V (List.mem_cons_of_mem _ (List.mem_append_left _ (List.mem_of_getElem? (i := 1) rfl))) (List.mem_cons_of_mem _ (List.mem_append_left _ (List.mem_of_getElem? (i := 2) rfl))) (List.mem_cons_of_mem _ (List.mem_append_left _ (List.mem_of_getElem? (i := 3) rfl))) (List.mem_cons_of_mem _ (List.mem_append_left _ (List.mem_of_getElem? (i := 4) rfl))) (gi_sub (fun w h => (List.mem_cons_of_mem _ (List.mem_append_right _ (List.mem_append_right _ (List.mem_append_left _ h))))) zg_j139_X12_keepsRow)) rfl rfl rfl (by decide +kernel) ⟨Nat.le_of_ble_eq_true rfl, Nat.le_of_ble_eq_true rfl⟩ 0 rfl rfl rfl rfl (Nat.le_of_ble_eq_true rfl) ⟨Nat.le_of_ble_eq_true rfl, Nat.le_of_ble_eq_true rfl⟩ dX12_records_97 (fun v ty' w' hp hk' => ?_)
              obtain ⟨I18140, A18140, L18140, hI18140, hA18140, hV18140, rfl, rfl⟩ := hp
              show GW κ 2 0 0 (wM r g I18140 A18140 L18140) 100 [(1, .int 165), (0, .ref (r 0))] []
              exact g_vret hk hR ⟨I18140, A18140, L18140, (show Md [22] I I18140 from (Md.tr (Md.up (Md.up (Md.tr Md.rf hI18082 rfl) rfl) rfl) hI18140 rfl)), (show Md [17, 22] A A18140 from (Md.tr (Md.up2 (Md.tr Md.rf hA18082 rfl) rfl) hA18140 rfl)), hV18140, rfl, rfl⟩ dX12_records_100
            | succ n18134 ih18136 =>
              intro k18133 hk18133
              obtain ⟨x18135, ex18135⟩ : ∃ x : Int32, x = nI k18133 := ⟨_, rfl⟩
              have hx18135 : x18135.toInt = (k18133 : Int) := by rw [ex18135]; exact nI_toInt (by omega)
              have cx18135 : x18135.toNatClampNeg = k18133 := cl_nat hx18135
              rw [← ex18135]
              have q18141 := cl_int (y := y18131) (by omega)
              refine g_iload_n hk dX12_records_52 rfl ?_
              refine g_sipush (v := 165) hk dX12_records_53 (by decide) ?_
              refine g_icmp_ge (tgt := 86) (a := x18135.toInt) (b := 165) hk dX12_records_56 (by decide) rfl rfl (fun z9 => absurd z9 (show ¬ (165 ≤ x18135.toInt) from by omega)) (fun _ => ?_)
              refine g_aload_n hk dX12_records_59 rfl ?_
              refine gM_r0_45 hk hin12 (List.mem_cons_of_mem _ (List.mem_append_left _ (List.mem_of_getElem? (i := 5) rfl))) dX12_records_60 ?_
              refine g_sipush (v := 165) hk dX12_records_63 (by decide) ?_
              refine g_aload_n hk dX12_records_66 rfl ?_
              refine gM_i22 (v := y18131) hk hin12 (List.mem_cons_of_mem _ (List.mem_append_left _ (List.mem_of_getElem? (i := 0) rfl))) dX12_records_67 rfl ?_
              refine g_imul hk dX12_records_70 ?_
              refine g_topi (fun y18142 ey18142 => ?_)
              have hy18142 : y18142.toInt = 165 * y18131.toInt := i32_mul ey18142 rfl rfl (by omega) (by omega)
              refine g_iload_n hk dX12_records_71 rfl ?_
              refine g_iadd hk dX12_records_72 ?_
              refine g_topi (fun y18143 ey18143 => ?_)
              have hy18143 : y18143.toInt = y18142.toInt + x18135.toInt := i32_add ey18143 rfl rfl (by omega) (by omega)
              refine g_aload_n hk dX12_records_73 rfl ?_
              refine gM_r0_35 hk hin12 (List.mem_cons_of_mem _ (List.mem_append_left _ (List.mem_of_getElem? (i := 6) rfl))) dX12_records_74 ?_
              refine g_iload_n hk dX12_records_77 rfl ?_
              refine lM_17 (v := (A 17 x18135.toNatClampNeg)) hk (vp_in_iff.mpr ⟨by omega, by omega⟩) (congrFun (hA18082 17 rfl) _) dX12_records_78 ?_
              refine sM_22 (j := y18143.toNatClampNeg) hk (vp_in_iff.mpr ⟨by omega, by omega⟩) rfl dX12_records_79 ?_
              obtain ⟨y18144, ey18144⟩ : ∃ y : Int32, y = x18135 + Int32.ofInt 1 := ⟨_, rfl⟩
              have hy18144 : y18144.toInt = x18135.toInt + 1 := i32_add ey18144 rfl (by decide) (by omega) (by omega)
              refine g_iinc (v := y18144) (lv' := [(1, .int y18144), (0, .ref (r 0))]) hk 0 dX12_records_80 rfl ey18144.symm (by decide) rfl ?_
              refine g_goto (tgt := 52) hk dX12_records_83 (by decide) ?_
              have q18145 := cl_int (y := x18135) (by omega)
              have q18146 := cl_int (y := y18143) (by omega)
              have eW : (up3 (up2 A18082 22 (cpo (A 17) (A18082 22) (165 * y18131.toNatClampNeg) k18133)) 22 (y18143.toNatClampNeg) (A 17 x18135.toNatClampNeg)) = (up2 A18082 22 (cpo (A 17) (A18082 22) (165 * y18131.toNatClampNeg) (k18133 + 1))) := cpo_st (by omega) (show (A 17 x18135.toNatClampNeg) = (A 17 k18133) from by rw [show x18135.toNatClampNeg = k18133 from by omega])
              have fy : y18144 = nI (k18133 + 1) := nI_of_toInt (by omega) (by omega)
              rw [eW, fy]
              exact g_lv (List.forall_mem_cons.mpr ⟨List.mem_of_getElem? (i := 0) rfl, (List.forall_mem_cons.mpr ⟨List.mem_of_getElem? (i := 1) rfl, (fun _ h => absurd h List.not_mem_nil)⟩)⟩) (ih18136 (k18133 + 1) (by omega))
          have lp18132e := lp18132 165 0 (by omega)
          rw [cpo_0] at lp18132e
          exact lp18132e
        · skip
          refine g_aload_n hk dX12_records_18 rfl ?_
          refine gM_r0_45 hk hin12 (List.mem_cons_of_mem _ (List.mem_append_left _ (List.mem_of_getElem? (i := 5) rfl))) dX12_records_19 ?_
          refine g_iload_n hk dX12_records_22 rfl ?_
          refine g_aload_n hk dX12_records_23 rfl ?_
          refine gM_r0_45 hk hin12 (List.mem_cons_of_mem _ (List.mem_append_left _ (List.mem_of_getElem? (i := 5) rfl))) dX12_records_24 ?_
          refine g_iload_n hk dX12_records_27 rfl ?_
          refine g_sipush (v := 165) hk dX12_records_28 (by decide) ?_
          refine g_iadd hk dX12_records_31 ?_
          refine g_topi (fun y18147 ey18147 => ?_)
          have hy18147 : y18147.toInt = x18080.toInt + 165 := i32_add ey18147 rfl rfl (by omega) (by omega)
          refine lM_22 (v := (A18082 22 y18147.toNatClampNeg)) hk (vp_in_iff.mpr ⟨by omega, by omega⟩) rfl dX12_records_32 ?_
          refine sM_22 (j := x18080.toNatClampNeg) hk (vp_in_iff.mpr ⟨by omega, by omega⟩) rfl dX12_records_33 ?_
          obtain ⟨y18148, ey18148⟩ : ∃ y : Int32, y = x18080 + Int32.ofInt 1 := ⟨_, rfl⟩
          have hy18148 : y18148.toInt = x18080.toInt + 1 := i32_add ey18148 rfl (by decide) (by omega) (by omega)
          refine g_iinc (v := y18148) (lv' := [(1, .int y18148), (0, .ref (r 0))]) hk 0 dX12_records_34 rfl ey18148.symm (by decide) rfl ?_
          refine g_goto (tgt := 11) hk dX12_records_37 (by decide) ?_
          have g18149 : (I18082 22).toInt = (I 22).toInt := by rw [show (I18082 22) = (I 22) from (hI18082 22 rfl)]
          have q18150 := cl_int (y := x18080) (by omega)
          have q18151 := cl_int (y := y18147) (by omega)
          exact g_lv (List.forall_mem_cons.mpr ⟨List.mem_of_getElem? (i := 0) rfl, (List.forall_mem_cons.mpr ⟨List.mem_of_getElem? (i := 1) rfl, (fun _ h => absurd h List.not_mem_nil)⟩)⟩) (ih18129 y18148 I18082 (up3 A18082 22 (x18080.toNatClampNeg) (A18082 22 y18147.toNatClampNeg)) L18082 (show Md [] I I18082 from Md.tr hI18082 (show Md [] I18082 I18082 from Md.rf) rfl) (show Md [22] A (up3 A18082 22 (x18080.toNatClampNeg) (A18082 22 y18147.toNatClampNeg)) from Md.tr hA18082 (show Md [22] A18082 (up3 A18082 22 (x18080.toNatClampNeg) (A18082 22 y18147.toNatClampNeg)) from (Md.up3 Md.rf rfl)) rfl) ⟨(IvM_f1 (I := I18082) (A := A18082) hV18082), (IvM_f2 (I := I18082) (A := A18082) hV18082), (IvM_f3 (I := I18082) (A := A18082) hV18082), (IvM_f4 (I := I18082) (A := A18082) hV18082), (IvM_f6 (I := I18082) (A := A18082) hV18082), (IvM_f8 (I := I18082) (A := A18082) hV18082), (IvM_f15 (I := I18082) (A := A18082) hV18082), (IvM_f16 (I := I18082) (A := A18082) hV18082), (IvM_f17 (I := I18082) (A := A18082) hV18082), (IvM_f18 (I := I18082) (A := A18082) hV18082), (IvM_f22 (I := I18082) (A := A18082) hV18082), (IvM_f23 (I := I18082) (A := A18082) hV18082), (IvM_f24 (I := I18082) (A := A18082) hV18082), (IvM_a11 (I := I18082) (A := A18082) hV18082), (IvM_a26 (I := I18082) (A := A18082) hV18082), (IvM_s8_0 (I := I18082) (A := A18082) hV18082), (IvM_s8_1 (I := I18082) (A := A18082) hV18082), (IvM_s10_0 (I := I18082) (A := A18082) hV18082), (IvM_s10_1 (I := I18082) (A := A18082) hV18082), (IvM_s17_0 (I := I18082) (A := A18082) hV18082), (IvM_s17_164 (I := I18082) (A := A18082) hV18082), (IvM_lv (I := I18082) (A := A18082) hV18082), (IvM_sd (I := I18082) (A := A18082) hV18082), (IvM_nq (I := I18082) (A := A18082) hV18082), (hr_shift (IvM_hr (I := I18082) (A := A18082) hV18082) (by omega) (by omega)), (IvM_hh (I := I18082) (A := A18082) hV18082), trivial⟩ (by omega) (by omega) (by omega) (by omega))
    have k18152 : (0 : Int32).toInt = 0 := rfl
    obtain ⟨n18153, n18153a, n18153b⟩ : ∃ n : Nat, 6436 - (0 : Int32).toInt < (n : Int) ∧ 0 < n := ⟨((6436 - (0 : Int32).toInt : Int)).toNat + 1, by omega, by omega⟩
    exact lp18126 n18153 0 I A L Md.rf Md.rf hIv (by omega) (by omega) n18153a n18153b
def wo_j150_X12_comes : List Cond := [Cond.fieldLink RX12 70 "WarpDeskModel" "now" "[I", Cond.methodLink RX12 323 yX12_copies, Cond.instanceMethod yX12_copies, Cond.selects RX12 yX12_copies yX12_copies, Cond.initialized RX12, Cond.fieldLink RX12 73 "WarpDeskModel" "row" "[I", Cond.methodLink RX12 326 yX12_records, Cond.instanceMethod yX12_records, Cond.selects RX12 yX12_records yX12_records]
def wz_j150_X12_comes : List Cond := .code yX12_comes cX12_comes 2 (some .int) :: (wo_j150_X12_comes ++ (wsX120 ++ (wz_j151_X12_copies ++ (wz_j152_X12_records ++ ([] : List Cond)))))
theorem zg_j150_X12_comes : ∀ w ∈ wz_j150_X12_comes, goodWord w = true := zg_cons rfl (zg_app (by decide +kernel) (zg_app zgU_wsX120 (zg_app zg_j151_X12_copies (zg_app zg_j152_X12_records zg_nil))))
theorem zi_j150_X12_comes : ∀ w ∈ wz_j150_X12_comes, w ∈ lw_tbl := zi_cons zw_1678 (zi_app (zi_cons zw_1413 (zi_cons zw_1679 (zi_cons zw_1681 (zi_cons zw_70 (zi_cons zw_115 (zi_cons zw_1414 (zi_cons zw_1683 (zi_cons zw_1685 (zi_cons zw_71 zi_nil))))))))) (zi_app inX12 (zi_app zi_j151_X12_copies (zi_app zi_j152_X12_records zi_nil))))
set_option maxHeartbeats 4000000 in
set_option maxRecDepth 100000 in
theorem j150_X12_comes (l : Launch) (D : va_G) (zt : Nat × Nat × Nat × (Nat → Nat) × (Nat → Nat)) (r : Nat → Nat) (g : Nat → ClassId) (I : Nat → Int32) (A : Nat → Nat → Int32) (L : Nat → Nat → Int64) (z1 : Int32) (hIv : IvM I A) : GM l D zt (tyM g) yX12_comes wz_j150_X12_comes ({ frames := 2, cells := 0, slots := 0, locals := 42 } : Room) [.ref (r 0), .int z1] (wM r g I A L) (fun v _ w' => ∃ (I' : Nat → Int32) (A' : Nat → Nat → Int32) (L' : Nat → Nat → Int64), Md [22] I I' ∧ Md [17, 18, 22] A A' ∧ IvM I' A' ∧ ∃ y0 : Int32, ((-1) ≤ y0.toInt) ∧ (y0.toInt ≤ 160) ∧ v = some (.int y0) ∧ w' = wM r g I' A' L') 0 0 := by
  refine GM.of (cc := cX12_comes) (maxL := 2) (ret := (some .int)) (own := RX12) (lv := [(0, .ref (r 0)), (1, .int z1)]) (by decide) rfl rfl (Nat.le_of_ble_eq_true rfl) rfl (fun κ sz hk hR hN => ?_)
  have hin12 : ∀ w ∈ u_ws RX12 TX12 55, w ∈ wz_j150_X12_comes := fun w h => (List.mem_cons_of_mem _ (List.mem_append_right _ (List.mem_append_left _ h)))
  refine g_aload_n hk dX12_comes_0 rfl ?_
  refine gM_r0_35 hk hin12 (List.mem_cons_of_mem _ (List.mem_append_left _ (List.mem_of_getElem? (i := 0) rfl))) dX12_comes_1 ?_
  refine g_iconst (v := 0) hk dX12_comes_4 (by decide) ?_
  refine lM_17 (v := (A 17 0)) hk (vp_in_iff.mpr ⟨by decide, by decide⟩) rfl dX12_comes_5 ?_
  have f18042 := IvM_s17_0 hIv
  refine g_sipush (v := 160) hk dX12_comes_6 (by decide) ?_
  refine g_icmp_ne (tgt := 14) (a := (A 17 0).toInt) (b := 160) hk dX12_comes_9 (by decide) rfl rfl (fun c18043 => ?_) (fun c18043 => ?_)
  · skip
    refine g_aload_n hk dX12_comes_14 rfl ?_
    refine g_callV (n := 0) hk (j151_X12_copies l D zt r g I A L  hIv) (SP.same _) (fun _ h => h) (gi_V (List.mem_cons_of_mem _ (List.mem_append_left _ (List.mem_of_getElem? (i := 1) rfl))) (List.mem_cons_of_mem _ (List.mem_append_left _ (List.mem_of_getElem? (i := 2) rfl))) (List.mem_cons_of_mem _ (List.mem_append_left _ (List.mem_of_getElem? (i := 3) rfl))) (List.mem_cons_of_mem _ (List.mem_append_left _ (List.mem_of_getElem? (i := 4) rfl))) (gi_sub (fun w h => (List.mem_cons_of_mem _ (List.mem_append_right _ (List.mem_append_right _ (List.mem_append_left _ h))))) zg_j151_X12_copies)) rfl rfl rfl (by decide +kernel) ⟨Nat.le_of_ble_eq_true rfl, Nat.le_of_ble_eq_true rfl⟩ 0 rfl rfl rfl rfl (Nat.le_of_ble_eq_true rfl) ⟨Nat.le_of_ble_eq_true rfl, Nat.le_of_ble_eq_true rfl⟩ dX12_comes_15 (fun v ty' w' hp hk' => ?_)
    obtain ⟨I18055, A18055, L18055, hI18055, hA18055, hV18055, r18056, r18057, rfl, rfl⟩ := hp
    have f18058 := IvM_s17_164 hIv
    show GW κ 2 0 0 (wM r g I18055 A18055 L18055) 18 [(0, .ref (r 0)), (1, .int z1)] []
    refine g_aload_n hk dX12_comes_18 rfl ?_
    refine gM_r0_36 hk hin12 (List.mem_cons_of_mem _ (List.mem_append_left _ (List.mem_of_getElem? (i := 5) rfl))) dX12_comes_19 ?_
    refine g_iconst (v := 1) hk dX12_comes_22 (by decide) ?_
    refine g_aload_n hk dX12_comes_23 rfl ?_
    refine gM_r0_36 hk hin12 (List.mem_cons_of_mem _ (List.mem_append_left _ (List.mem_of_getElem? (i := 5) rfl))) dX12_comes_24 ?_
    refine g_iconst (v := 0) hk dX12_comes_27 (by decide) ?_
    refine lM_18 (v := (A18055 18 0)) hk (vp_in_iff.mpr ⟨by decide, by decide⟩) rfl dX12_comes_28 ?_
    refine g_iadd hk dX12_comes_29 ?_
    refine g_topi (fun y18059 ey18059 => ?_)
    have hy18059 : y18059.toInt = 1 + (A18055 18 0).toInt := i32_add ey18059 rfl rfl (by omega) (by omega)
    refine g_iload_n hk dX12_comes_30 rfl ?_
    refine sM_18 (j := y18059.toNatClampNeg) hk (vp_in_iff.mpr ⟨by omega, by omega⟩) rfl dX12_comes_31 ?_
    have hS18060 : (up3 A18055 18 (y18059.toNatClampNeg) z1) 18 0 = (A18055 18 0) := (up3_ne (by have := cl_int (y := y18059) (by omega); omega)).trans (show A18055 18 0 = (A18055 18 0) from rfl)
    have hS18061 : (up3 A18055 18 (y18059.toNatClampNeg) z1) 18 164 = (A18055 18 164) := (up3_ne (by have := cl_int (y := y18059) (by omega); omega)).trans (show A18055 18 164 = (A18055 18 164) from rfl)
    refine g_aload_n hk dX12_comes_32 rfl ?_
    refine gM_r0_36 hk hin12 (List.mem_cons_of_mem _ (List.mem_append_left _ (List.mem_of_getElem? (i := 5) rfl))) dX12_comes_33 ?_
    refine g_iconst (v := 0) hk dX12_comes_36 (by decide) ?_
    refine g_dup2 hk dX12_comes_37 rfl rfl ?_
    refine lM_18 (v := (A18055 18 0)) hk (vp_in_iff.mpr ⟨by decide, by decide⟩) hS18060 dX12_comes_38 ?_
    refine g_iconst (v := 1) hk dX12_comes_39 (by decide) ?_
    refine g_iadd hk dX12_comes_40 ?_
    refine g_topi (fun y18062 ey18062 => ?_)
    have hy18062 : y18062.toInt = (A18055 18 0).toInt + 1 := i32_add ey18062 rfl rfl (by omega) (by omega)
    refine sM_18 (j := 0) hk (vp_in_iff.mpr ⟨by decide, by decide⟩) (by decide) dX12_comes_41 ?_
    refine g_aload_n hk dX12_comes_42 rfl ?_
    refine g_callV (n := 0) hk (j152_X12_records l D zt r g I18055 (up3 (up3 A18055 18 (y18059.toNatClampNeg) z1) 18 0 y18062) L18055  ⟨(IvM_f1 (I := I18055) (A := A18055) hV18055), (IvM_f2 (I := I18055) (A := A18055) hV18055), (IvM_f3 (I := I18055) (A := A18055) hV18055), (IvM_f4 (I := I18055) (A := A18055) hV18055), (IvM_f6 (I := I18055) (A := A18055) hV18055), (IvM_f8 (I := I18055) (A := A18055) hV18055), (IvM_f15 (I := I18055) (A := A18055) hV18055), (IvM_f16 (I := I18055) (A := A18055) hV18055), (IvM_f17 (I := I18055) (A := A18055) hV18055), (IvM_f18 (I := I18055) (A := A18055) hV18055), (IvM_f22 (I := I18055) (A := A18055) hV18055), (IvM_f23 (I := I18055) (A := A18055) hV18055), (IvM_f24 (I := I18055) (A := A18055) hV18055), (IvM_a11 (I := I18055) (A := A18055) hV18055), (IvM_a26 (I := I18055) (A := A18055) hV18055), (IvM_s8_0 (I := I18055) (A := A18055) hV18055), (IvM_s8_1 (I := I18055) (A := A18055) hV18055), (IvM_s10_0 (I := I18055) (A := A18055) hV18055), (IvM_s10_1 (I := I18055) (A := A18055) hV18055), (IvM_s17_0 (I := I18055) (A := A18055) hV18055), (IvM_s17_164 (I := I18055) (A := A18055) hV18055), (IvM_lv (I := I18055) (A := A18055) hV18055), (IvM_sd (I := I18055) (A := A18055) hV18055), (IvM_nq (I := I18055) (A := A18055) hV18055), (IvM_hr (I := I18055) (A := A18055) hV18055), (IvM_hh (I := I18055) (A := A18055) hV18055), trivial⟩ (by first | (rw [show ((up3 (up3 A18055 18 (y18059.toNatClampNeg) z1) 18 0 y18062) 18 0) = y18062 from rfl] <;> omega) | omega) (by first | (rw [show ((up3 (up3 A18055 18 (y18059.toNatClampNeg) z1) 18 0 y18062) 18 0) = y18062 from rfl] <;> omega) | omega) (by first | (rw [show ((up3 (up3 A18055 18 (y18059.toNatClampNeg) z1) 18 0 y18062) 18 164) = (A18055 18 164) from hS18061] <;> omega) | omega)) (SP.same _) (fun _ h => h) (gi_V (List.mem_cons_of_mem _ (List.mem_append_left _ (List.mem_of_getElem? (i := 6) rfl))) (List.mem_cons_of_mem _ (List.mem_append_left _ (List.mem_of_getElem? (i := 7) rfl))) (List.mem_cons_of_mem _ (List.mem_append_left _ (List.mem_of_getElem? (i := 8) rfl))) (List.mem_cons_of_mem _ (List.mem_append_left _ (List.mem_of_getElem? (i := 4) rfl))) (gi_sub (fun w h => (List.mem_cons_of_mem _ (List.mem_append_right _ (List.mem_append_right _ (List.mem_append_right _ (List.mem_append_left _ h)))))) zg_j152_X12_records)) rfl rfl rfl (by decide +kernel) ⟨Nat.le_of_ble_eq_true rfl, Nat.le_of_ble_eq_true rfl⟩ 0 rfl rfl rfl rfl (Nat.le_of_ble_eq_true rfl) ⟨Nat.le_of_ble_eq_true rfl, Nat.le_of_ble_eq_true rfl⟩ dX12_comes_43 (fun v ty' w' hp hk' => ?_)
    obtain ⟨I18155, A18155, L18155, hI18155, hA18155, hV18155, rfl, rfl⟩ := hp
    show GW κ 2 0 0 (wM r g I18155 A18155 L18155) 46 [(0, .ref (r 0)), (1, .int z1)] []
    refine g_aload_n hk dX12_comes_46 rfl ?_
    refine gM_r0_35 hk hin12 (List.mem_cons_of_mem _ (List.mem_append_left _ (List.mem_of_getElem? (i := 0) rfl))) dX12_comes_47 ?_
    refine g_iconst (v := 0) hk dX12_comes_50 (by decide) ?_
    refine lM_17 (v := (A18155 17 0)) hk (vp_in_iff.mpr ⟨by decide, by decide⟩) rfl dX12_comes_51 ?_
    have f18156 := IvM_s17_0 hV18155
    exact g_iret hk hR rfl ⟨I18155, A18155, L18155, (show Md [22] I I18155 from (Md.tr (Md.tr Md.rf hI18055 rfl) hI18155 rfl)), (show Md [17, 18, 22] A A18155 from (Md.tr (Md.up3 (Md.up3 (Md.tr Md.rf hA18055 rfl) rfl) rfl) hA18155 rfl)), hV18155, (A18155 17 0), (by omega), (by omega), rfl, rfl⟩ dX12_comes_52
  · skip
    refine g_iconst (v := (-1)) hk dX12_comes_12 (by decide) ?_
    exact g_iret hk hR rfl ⟨I, A, L, (show Md [22] I I from Md.rf), (show Md [17, 18, 22] A A from Md.rf), hIv, (-1), (by decide), (by decide), rfl, rfl⟩ dX12_comes_13
def wo_j149_X12_push : List Cond := [Cond.methodLink RX12 244 yX12_in, Cond.static yX12_in, Cond.initialized RX12, Cond.methodLink RX12 329 yX12_comes, Cond.instanceMethod yX12_comes, Cond.selects RX12 yX12_comes yX12_comes]
def wz_j149_X12_push : List Cond := .code yX12_push cX12_push 2 (some .int) :: (wo_j149_X12_push ++ (wz_j145_X12_in ++ (wz_j150_X12_comes ++ ([] : List Cond))))
theorem zg_j149_X12_push : ∀ w ∈ wz_j149_X12_push, goodWord w = true := zg_cons rfl (zg_app (by decide +kernel) (zg_app zg_j145_X12_in (zg_app zg_j150_X12_comes zg_nil)))
theorem zi_j149_X12_push : ∀ w ∈ wz_j149_X12_push, w ∈ lw_tbl := zi_cons zw_1674 (zi_app (zi_cons zw_1656 (zi_cons zw_1657 (zi_cons zw_115 (zi_cons zw_1675 (zi_cons zw_1677 (zi_cons zw_69 zi_nil)))))) (zi_app zi_j145_X12_in (zi_app zi_j150_X12_comes zi_nil)))
set_option maxHeartbeats 4000000 in
set_option maxRecDepth 100000 in
theorem j149_X12_push (l : Launch) (D : va_G) (zt : Nat × Nat × Nat × (Nat → Nat) × (Nat → Nat)) (r : Nat → Nat) (g : Nat → ClassId) (I : Nat → Int32) (A : Nat → Nat → Int32) (L : Nat → Nat → Int64) (z1 : Int32) (hIv : IvM I A) : GM l D zt (tyM g) yX12_push wz_j149_X12_push ({ frames := 3, cells := 0, slots := 0, locals := 63 } : Room) [.ref (r 0), .int z1] (wM r g I A L) (fun v _ w' => ∃ (I' : Nat → Int32) (A' : Nat → Nat → Int32) (L' : Nat → Nat → Int64), Md [22] I I' ∧ Md [17, 18, 22] A A' ∧ IvM I' A' ∧ ∃ y0 : Int32, ((-1) ≤ y0.toInt) ∧ (y0.toInt ≤ 160) ∧ v = some (.int y0) ∧ w' = wM r g I' A' L') 0 0 := by
  refine GM.of (cc := cX12_push) (maxL := 2) (ret := (some .int)) (own := RX12) (lv := [(0, .ref (r 0)), (1, .int z1)]) (by decide) rfl rfl (Nat.le_of_ble_eq_true rfl) rfl (fun κ sz hk hR hN => ?_)
  refine g_iload_n hk dX12_push_0 rfl ?_
  refine g_sipush (v := (-999)) hk dX12_push_1 (by decide) ?_
  refine g_sipush (v := 999) hk dX12_push_4 (by decide) ?_
  have k18034 : ((-999) : Int32).toInt = (-999) := rfl
  have k18035 : (999 : Int32).toInt = 999 := rfl
  refine g_callS (n := 3) hk (j145_X12_in l D zt r g I A L z1 (-999) 999 hIv) (SP.same _) (fun _ h => h) (gi_S (List.mem_cons_of_mem _ (List.mem_append_left _ (List.mem_of_getElem? (i := 0) rfl))) (List.mem_cons_of_mem _ (List.mem_append_left _ (List.mem_of_getElem? (i := 1) rfl))) (List.mem_cons_of_mem _ (List.mem_append_left _ (List.mem_of_getElem? (i := 2) rfl))) (gi_sub (fun w h => (List.mem_cons_of_mem _ (List.mem_append_right _ (List.mem_append_left _ h)))) zg_j145_X12_in)) rfl rfl rfl (by decide +kernel) ⟨Nat.le_of_ble_eq_true rfl, Nat.le_of_ble_eq_true rfl⟩ rfl rfl (Nat.le_of_ble_eq_true rfl) ⟨Nat.le_of_ble_eq_true rfl, Nat.le_of_ble_eq_true rfl⟩ dX12_push_7 (fun v ty' w' hp hk' => ?_)
  rcases hp with ⟨c18036, rfl, rfl⟩ | ⟨c18038, c18039, rfl, rfl⟩
  · skip
    have b18041l := Int32.le_toInt z1
    have b18041h := Int32.toInt_lt z1
    show GW κ 2 0 0 (wM r g I A L) 10 [(0, .ref (r 0)), (1, .int z1)] [.int 0]
    refine g_if_eq (tgt := 21) (a := 0) hk dX12_push_10 (by decide) rfl (fun _ => ?_) (fun z9 => absurd (show (0 : Int) = (0 : Int) from by decide) z9)
    refine g_iconst (v := (-1)) hk dX12_push_21 (by decide) ?_
    exact g_iret hk hR rfl ⟨I, A, L, (show Md [22] I I from Md.rf), (show Md [17, 18, 22] A A from Md.rf), hIv, (-1), (by decide), (by decide), rfl, rfl⟩ dX12_push_22
  · skip
    show GW κ 2 0 0 (wM r g I A L) 10 [(0, .ref (r 0)), (1, .int z1)] [.int 1]
    refine g_if_eq (tgt := 21) (a := 1) hk dX12_push_10 (by decide) rfl (fun z9 => absurd z9 (show ¬ ((1 : Int) = (0 : Int)) from by decide)) (fun _ => ?_)
    refine g_aload_n hk dX12_push_13 rfl ?_
    refine g_iload_n hk dX12_push_14 rfl ?_
    refine g_callV (n := 1) hk (j150_X12_comes l D zt r g I A L z1 hIv) (SP.same _) (fun _ h => h) (gi_V (List.mem_cons_of_mem _ (List.mem_append_left _ (List.mem_of_getElem? (i := 3) rfl))) (List.mem_cons_of_mem _ (List.mem_append_left _ (List.mem_of_getElem? (i := 4) rfl))) (List.mem_cons_of_mem _ (List.mem_append_left _ (List.mem_of_getElem? (i := 5) rfl))) (List.mem_cons_of_mem _ (List.mem_append_left _ (List.mem_of_getElem? (i := 2) rfl))) (gi_sub (fun w h => (List.mem_cons_of_mem _ (List.mem_append_right _ (List.mem_append_right _ (List.mem_append_left _ h))))) zg_j150_X12_comes)) rfl rfl rfl (by decide +kernel) ⟨Nat.le_of_ble_eq_true rfl, Nat.le_of_ble_eq_true rfl⟩ 0 rfl rfl rfl rfl (Nat.le_of_ble_eq_true rfl) ⟨Nat.le_of_ble_eq_true rfl, Nat.le_of_ble_eq_true rfl⟩ dX12_push_15 (fun v ty' w' hp hk' => ?_)
    obtain ⟨I18160, A18160, L18160, hI18160, hA18160, hV18160, y18157, c18158, c18159, rfl, rfl⟩ := hp
    show GW κ 2 0 0 (wM r g I18160 A18160 L18160) 18 [(0, .ref (r 0)), (1, .int z1)] [.int y18157]
    refine g_goto (tgt := 22) hk dX12_push_18 (by decide) ?_
    exact g_iret hk hR rfl ⟨I18160, A18160, L18160, (show Md [22] I I18160 from (Md.tr Md.rf hI18160 rfl)), (show Md [17, 18, 22] A A18160 from (Md.tr Md.rf hA18160 rfl)), hV18160, y18157, (by omega), (by omega), rfl, rfl⟩ dX12_push_22
def wo_j153_X12_gap : List Cond := [Cond.constant RX12 239 (100000), Cond.methodLink RX12 329 yX12_comes, Cond.instanceMethod yX12_comes, Cond.selects RX12 yX12_comes yX12_comes, Cond.initialized RX12]
def wz_j153_X12_gap : List Cond := .code yX12_gap cX12_gap 1 (some .int) :: (wo_j153_X12_gap ++ (wz_j150_X12_comes ++ ([] : List Cond)))
theorem zg_j153_X12_gap : ∀ w ∈ wz_j153_X12_gap, goodWord w = true := zg_cons rfl (zg_app (by decide +kernel) (zg_app zg_j150_X12_comes zg_nil))
theorem zi_j153_X12_gap : ∀ w ∈ wz_j153_X12_gap, w ∈ lw_tbl := zi_cons zw_1690 (zi_app (zi_cons zw_1607 (zi_cons zw_1675 (zi_cons zw_1677 (zi_cons zw_69 (zi_cons zw_115 zi_nil))))) (zi_app zi_j150_X12_comes zi_nil))
set_option maxHeartbeats 4000000 in
set_option maxRecDepth 100000 in
theorem j153_X12_gap (l : Launch) (D : va_G) (zt : Nat × Nat × Nat × (Nat → Nat) × (Nat → Nat)) (r : Nat → Nat) (g : Nat → ClassId) (I : Nat → Int32) (A : Nat → Nat → Int32) (L : Nat → Nat → Int64) (hIv : IvM I A) : GM l D zt (tyM g) yX12_gap wz_j153_X12_gap ({ frames := 3, cells := 0, slots := 0, locals := 63 } : Room) [.ref (r 0)] (wM r g I A L) (fun v _ w' => ∃ (I' : Nat → Int32) (A' : Nat → Nat → Int32) (L' : Nat → Nat → Int64), Md [22] I I' ∧ Md [17, 18, 22] A A' ∧ IvM I' A' ∧ ∃ y0 : Int32, ((-1) ≤ y0.toInt) ∧ (y0.toInt ≤ 160) ∧ v = some (.int y0) ∧ w' = wM r g I' A' L') 0 0 := by
  refine GM.of (cc := cX12_gap) (maxL := 1) (ret := (some .int)) (own := RX12) (lv := [(0, .ref (r 0))]) (by decide) rfl rfl (Nat.le_of_ble_eq_true rfl) rfl (fun κ sz hk hR hN => ?_)
  refine g_aload_n hk dX12_gap_0 rfl ?_
  refine g_ldc (v := 100000) hk (List.mem_cons_of_mem _ (List.mem_append_left _ (List.mem_of_getElem? (i := 0) rfl))) dX12_gap_1 ?_
  have k18161 : (100000 : Int32).toInt = 100000 := rfl
  refine g_callV (n := 1) hk (j150_X12_comes l D zt r g I A L 100000 hIv) (SP.same _) (fun _ h => h) (gi_V (List.mem_cons_of_mem _ (List.mem_append_left _ (List.mem_of_getElem? (i := 1) rfl))) (List.mem_cons_of_mem _ (List.mem_append_left _ (List.mem_of_getElem? (i := 2) rfl))) (List.mem_cons_of_mem _ (List.mem_append_left _ (List.mem_of_getElem? (i := 3) rfl))) (List.mem_cons_of_mem _ (List.mem_append_left _ (List.mem_of_getElem? (i := 4) rfl))) (gi_sub (fun w h => (List.mem_cons_of_mem _ (List.mem_append_right _ (List.mem_append_left _ h)))) zg_j150_X12_comes)) rfl rfl rfl (by decide +kernel) ⟨Nat.le_of_ble_eq_true rfl, Nat.le_of_ble_eq_true rfl⟩ 0 rfl rfl rfl rfl (Nat.le_of_ble_eq_true rfl) ⟨Nat.le_of_ble_eq_true rfl, Nat.le_of_ble_eq_true rfl⟩ dX12_gap_3 (fun v ty' w' hp hk' => ?_)
  obtain ⟨I18165, A18165, L18165, hI18165, hA18165, hV18165, y18162, c18163, c18164, rfl, rfl⟩ := hp
  show GW κ 1 0 0 (wM r g I18165 A18165 L18165) 6 [(0, .ref (r 0))] [.int y18162]
  exact g_iret hk hR rfl ⟨I18165, A18165, L18165, (show Md [22] I I18165 from (Md.tr Md.rf hI18165 rfl)), (show Md [17, 18, 22] A A18165 from (Md.tr Md.rf hA18165 rfl)), hV18165, y18162, (by omega), (by omega), rfl, rfl⟩ dX12_gap_6
def wo_j155_X12_downBy : List Cond := []
def wz_j155_X12_downBy : List Cond := .code yX12_downBy cX12_downBy 3 (some .int) :: (wo_j155_X12_downBy ++ ([] : List Cond))
theorem zg_j155_X12_downBy : ∀ w ∈ wz_j155_X12_downBy, goodWord w = true := zg_cons rfl (zg_app (by decide +kernel) zg_nil)
theorem zi_j155_X12_downBy : ∀ w ∈ wz_j155_X12_downBy, w ∈ lw_tbl := zi_cons zw_1697 (zi_app zi_nil zi_nil)
set_option maxHeartbeats 4000000 in
set_option maxRecDepth 100000 in
theorem j155_X12_downBy (l : Launch) (D : va_G) (zt : Nat × Nat × Nat × (Nat → Nat) × (Nat → Nat)) (r : Nat → Nat) (g : Nat → ClassId) (I : Nat → Int32) (A : Nat → Nat → Int32) (L : Nat → Nat → Int64) (z0 : Int32) (z1 : Int32) (hIv : IvM I A) (hp0 : 1 ≤ z1.toInt) : GM l D zt (tyM g) yX12_downBy wz_j155_X12_downBy ({ frames := 0, cells := 0, slots := 0, locals := 0 } : Room) [.int z0, .int z1] (wM r g I A L) (fun v _ w' => ∃ y0 : Int32, v = some (.int y0) ∧ w' = wM r g I A L) 0 0 := by
  refine GM.of (cc := cX12_downBy) (maxL := 3) (ret := (some .int)) (own := RX12) (lv := [(0, .int z0), (1, .int z1)]) (by decide) rfl rfl (Nat.le_of_ble_eq_true rfl) rfl (fun κ sz hk hR hN => ?_)
  refine g_iload_n hk dX12_downBy_0 rfl ?_
  refine g_iload_n hk dX12_downBy_1 rfl ?_
  have b18205l := Int32.le_toInt z1
  have b18205h := Int32.toInt_lt z1
  refine g_idiv hk dX12_downBy_2 (i32_ne0 (by omega)) ?_
  refine g_topi (fun y18206 ey18206 => ?_)
  refine g_istore_n (lv' := [(2, .int y18206), (0, .int z0), (1, .int z1)]) hk dX12_downBy_3 (by decide) rfl ?_
  refine g_iload_n hk dX12_downBy_4 rfl ?_
  refine g_iload_n hk dX12_downBy_5 rfl ?_
  refine g_irem hk dX12_downBy_6 (i32_ne0 (by omega)) ?_
  refine g_topi (fun y18207 ey18207 => ?_)
  have b18208l := Int32.le_toInt y18207
  have b18208h := Int32.toInt_lt y18207
  refine g_if_ge (tgt := 16) (a := y18207.toInt) hk dX12_downBy_7 (by decide) rfl (fun c18209 => ?_) (fun c18209 => ?_)
  · skip
    refine g_iload_n hk dX12_downBy_16 rfl ?_
    have b18210l := Int32.le_toInt y18206
    have b18210h := Int32.toInt_lt y18206
    exact g_iret hk hR rfl ⟨y18206, rfl, rfl⟩ dX12_downBy_17
  · skip
    refine g_iload_n hk dX12_downBy_10 rfl ?_
    refine g_iconst (v := 1) hk dX12_downBy_11 (by decide) ?_
    have b18211l := Int32.le_toInt y18206
    have b18211h := Int32.toInt_lt y18206
    refine g_isub hk dX12_downBy_12 ?_
    refine g_topi (fun y18212 ey18212 => ?_)
    have hy18212 := i32_sub0 ey18212
    refine g_goto (tgt := 17) hk dX12_downBy_13 (by decide) ?_
    have b18213l := Int32.le_toInt y18212
    have b18213h := Int32.toInt_lt y18212
    exact g_iret hk hR rfl ⟨y18212, rfl, rfl⟩ dX12_downBy_17
def wo_j154_X12_mend : List Cond := [Cond.methodLink RX12 248 yX12_isPlace, Cond.instanceMethod yX12_isPlace, Cond.selects RX12 yX12_isPlace yX12_isPlace, Cond.initialized RX12, Cond.methodLink RX12 320 yX12_isThere, Cond.instanceMethod yX12_isThere, Cond.selects RX12 yX12_isThere yX12_isThere, Cond.methodLink RX12 323 yX12_copies, Cond.instanceMethod yX12_copies, Cond.selects RX12 yX12_copies yX12_copies, Cond.fieldLink RX12 73 "WarpDeskModel" "row" "[I", Cond.methodLink RX12 261 yX12_downBy, Cond.static yX12_downBy, Cond.methodLink RX12 326 yX12_records, Cond.instanceMethod yX12_records, Cond.selects RX12 yX12_records yX12_records, Cond.fieldLink RX12 70 "WarpDeskModel" "now" "[I"]
def wz_j154_X12_mend : List Cond := .code yX12_mend cX12_mend 2 (some .int) :: (wo_j154_X12_mend ++ (wsX120 ++ (wz_j144_X12_isPlace ++ (wz_j143_X12_isThere ++ (wz_j151_X12_copies ++ (wz_j155_X12_downBy ++ (wz_j152_X12_records ++ ([] : List Cond))))))))
theorem zg_j154_X12_mend : ∀ w ∈ wz_j154_X12_mend, goodWord w = true := zg_cons rfl (zg_app (by decide +kernel) (zg_app zgU_wsX120 (zg_app zg_j144_X12_isPlace (zg_app zg_j143_X12_isThere (zg_app zg_j151_X12_copies (zg_app zg_j155_X12_downBy (zg_app zg_j152_X12_records zg_nil)))))))
theorem zi_j154_X12_mend : ∀ w ∈ wz_j154_X12_mend, w ∈ lw_tbl := zi_cons zw_1694 (zi_app (zi_cons zw_1652 (zi_cons zw_1654 (zi_cons zw_66 (zi_cons zw_115 (zi_cons zw_1648 (zi_cons zw_1650 (zi_cons zw_65 (zi_cons zw_1679 (zi_cons zw_1681 (zi_cons zw_70 (zi_cons zw_1414 (zi_cons zw_1695 (zi_cons zw_1696 (zi_cons zw_1683 (zi_cons zw_1685 (zi_cons zw_71 (zi_cons zw_1413 zi_nil))))))))))))))))) (zi_app inX12 (zi_app zi_j144_X12_isPlace (zi_app zi_j143_X12_isThere (zi_app zi_j151_X12_copies (zi_app zi_j155_X12_downBy (zi_app zi_j152_X12_records zi_nil)))))))
set_option maxHeartbeats 4000000 in
set_option maxRecDepth 100000 in
theorem j154_X12_mend (l : Launch) (D : va_G) (zt : Nat × Nat × Nat × (Nat → Nat) × (Nat → Nat)) (r : Nat → Nat) (g : Nat → ClassId) (I : Nat → Int32) (A : Nat → Nat → Int32) (L : Nat → Nat → Int64) (z1 : Int32) (hIv : IvM I A) : GM l D zt (tyM g) yX12_mend wz_j154_X12_mend ({ frames := 3, cells := 0, slots := 0, locals := 64 } : Room) [.ref (r 0), .int z1] (wM r g I A L) (fun v _ w' => ∃ (I' : Nat → Int32) (A' : Nat → Nat → Int32) (L' : Nat → Nat → Int64), Md [22] I I' ∧ Md [17, 18, 22] A A' ∧ IvM I' A' ∧ ∃ y0 : Int32, v = some (.int y0) ∧ w' = wM r g I' A' L') 0 0 := by
  refine GM.of (cc := cX12_mend) (maxL := 2) (ret := (some .int)) (own := RX12) (lv := [(0, .ref (r 0)), (1, .int z1)]) (by decide) rfl rfl (Nat.le_of_ble_eq_true rfl) rfl (fun κ sz hk hR hN => ?_)
  have hin12 : ∀ w ∈ u_ws RX12 TX12 55, w ∈ wz_j154_X12_mend := fun w h => (List.mem_cons_of_mem _ (List.mem_append_right _ (List.mem_append_left _ h)))
  refine g_aload_n hk dX12_mend_0 rfl ?_
  refine g_iload_n hk dX12_mend_1 rfl ?_
  refine g_callV (n := 1) hk (j144_X12_isPlace l D zt r g I A L z1 hIv) (SP.same _) (fun _ h => h) (gi_V (List.mem_cons_of_mem _ (List.mem_append_left _ (List.mem_of_getElem? (i := 0) rfl))) (List.mem_cons_of_mem _ (List.mem_append_left _ (List.mem_of_getElem? (i := 1) rfl))) (List.mem_cons_of_mem _ (List.mem_append_left _ (List.mem_of_getElem? (i := 2) rfl))) (List.mem_cons_of_mem _ (List.mem_append_left _ (List.mem_of_getElem? (i := 3) rfl))) (gi_sub (fun w h => (List.mem_cons_of_mem _ (List.mem_append_right _ (List.mem_append_right _ (List.mem_append_left _ h))))) zg_j144_X12_isPlace)) rfl rfl rfl (by decide +kernel) ⟨Nat.le_of_ble_eq_true rfl, Nat.le_of_ble_eq_true rfl⟩ 0 rfl rfl rfl rfl (Nat.le_of_ble_eq_true rfl) ⟨Nat.le_of_ble_eq_true rfl, Nat.le_of_ble_eq_true rfl⟩ dX12_mend_2 (fun v ty' w' hp hk' => ?_)
  rcases hp with ⟨rfl, rfl⟩ | ⟨c18167, c18168, c18169, rfl, rfl⟩
  · skip
    show GW κ 2 0 0 (wM r g I A L) 5 [(0, .ref (r 0)), (1, .int z1)] [.int 0]
    refine g_if_eq (tgt := 36) (a := 0) hk dX12_mend_5 (by decide) rfl (fun _ => ?_) (fun z9 => absurd (show (0 : Int) = (0 : Int) from by decide) z9)
    refine g_sipush (v := (-1000)) hk dX12_mend_36 (by decide) ?_
    exact g_iret hk hR rfl ⟨I, A, L, (show Md [22] I I from Md.rf), (show Md [17, 18, 22] A A from Md.rf), hIv, (-1000), rfl, rfl⟩ dX12_mend_39
  · skip
    show GW κ 2 0 0 (wM r g I A L) 5 [(0, .ref (r 0)), (1, .int z1)] [.int 1]
    refine g_if_eq (tgt := 36) (a := 1) hk dX12_mend_5 (by decide) rfl (fun z9 => absurd z9 (show ¬ ((1 : Int) = (0 : Int)) from by decide)) (fun _ => ?_)
    refine g_aload_n hk dX12_mend_8 rfl ?_
    refine g_iload_n hk dX12_mend_9 rfl ?_
    refine g_callV (n := 1) hk (j143_X12_isThere l D zt r g I A L z1 hIv) (SP.same _) (fun _ h => h) (gi_V (List.mem_cons_of_mem _ (List.mem_append_left _ (List.mem_of_getElem? (i := 4) rfl))) (List.mem_cons_of_mem _ (List.mem_append_left _ (List.mem_of_getElem? (i := 5) rfl))) (List.mem_cons_of_mem _ (List.mem_append_left _ (List.mem_of_getElem? (i := 6) rfl))) (List.mem_cons_of_mem _ (List.mem_append_left _ (List.mem_of_getElem? (i := 3) rfl))) (gi_sub (fun w h => (List.mem_cons_of_mem _ (List.mem_append_right _ (List.mem_append_right _ (List.mem_append_right _ (List.mem_append_left _ h)))))) zg_j143_X12_isThere)) rfl rfl rfl (by decide +kernel) ⟨Nat.le_of_ble_eq_true rfl, Nat.le_of_ble_eq_true rfl⟩ 0 rfl rfl rfl rfl (Nat.le_of_ble_eq_true rfl) ⟨Nat.le_of_ble_eq_true rfl, Nat.le_of_ble_eq_true rfl⟩ dX12_mend_10 (fun v ty' w' hp hk' => ?_)
    rcases hp with ⟨rfl, rfl⟩ | ⟨c18172, c18173, c18174, c18175, c18176, rfl, rfl⟩
    · skip
      show GW κ 2 0 0 (wM r g I A L) 13 [(0, .ref (r 0)), (1, .int z1)] [.int 0]
      refine g_if_ne (tgt := 36) (a := 0) hk dX12_mend_13 (by decide) rfl (fun z9 => absurd z9 (show ¬ ((0 : Int) ≠ (0 : Int)) from by decide)) (fun _ => ?_)
      refine g_aload_n hk dX12_mend_16 rfl ?_
      refine g_iload_n hk dX12_mend_17 rfl ?_
      refine g_iconst (v := 1) hk dX12_mend_18 (by decide) ?_
      refine g_isub hk dX12_mend_19 ?_
      refine g_topi (fun y18178 ey18178 => ?_)
      have hy18178 : y18178.toInt = z1.toInt - 1 := i32_sub ey18178 rfl rfl (by omega) (by omega)
      refine g_callV (n := 1) hk (j143_X12_isThere l D zt r g I A L y18178 hIv) (SP.same _) (fun _ h => h) (gi_V (List.mem_cons_of_mem _ (List.mem_append_left _ (List.mem_of_getElem? (i := 4) rfl))) (List.mem_cons_of_mem _ (List.mem_append_left _ (List.mem_of_getElem? (i := 5) rfl))) (List.mem_cons_of_mem _ (List.mem_append_left _ (List.mem_of_getElem? (i := 6) rfl))) (List.mem_cons_of_mem _ (List.mem_append_left _ (List.mem_of_getElem? (i := 3) rfl))) (gi_sub (fun w h => (List.mem_cons_of_mem _ (List.mem_append_right _ (List.mem_append_right _ (List.mem_append_right _ (List.mem_append_left _ h)))))) zg_j143_X12_isThere)) rfl rfl rfl (by decide +kernel) ⟨Nat.le_of_ble_eq_true rfl, Nat.le_of_ble_eq_true rfl⟩ 0 rfl rfl rfl rfl (Nat.le_of_ble_eq_true rfl) ⟨Nat.le_of_ble_eq_true rfl, Nat.le_of_ble_eq_true rfl⟩ dX12_mend_20 (fun v ty' w' hp hk' => ?_)
      rcases hp with ⟨rfl, rfl⟩ | ⟨c18180, c18181, c18182, c18183, c18184, rfl, rfl⟩
      · skip
        show GW κ 2 0 0 (wM r g I A L) 23 [(0, .ref (r 0)), (1, .int z1)] [.int 0]
        refine g_if_eq (tgt := 36) (a := 0) hk dX12_mend_23 (by decide) rfl (fun _ => ?_) (fun z9 => absurd (show (0 : Int) = (0 : Int) from by decide) z9)
        refine g_sipush (v := (-1000)) hk dX12_mend_36 (by decide) ?_
        exact g_iret hk hR rfl ⟨I, A, L, (show Md [22] I I from Md.rf), (show Md [17, 18, 22] A A from Md.rf), hIv, (-1000), rfl, rfl⟩ dX12_mend_39
      · skip
        show GW κ 2 0 0 (wM r g I A L) 23 [(0, .ref (r 0)), (1, .int z1)] [.int 1]
        refine g_if_eq (tgt := 36) (a := 1) hk dX12_mend_23 (by decide) rfl (fun z9 => absurd z9 (show ¬ ((1 : Int) = (0 : Int)) from by decide)) (fun _ => ?_)
        refine g_aload_n hk dX12_mend_26 rfl ?_
        refine g_iload_n hk dX12_mend_27 rfl ?_
        refine g_iconst (v := 1) hk dX12_mend_28 (by decide) ?_
        refine g_iadd hk dX12_mend_29 ?_
        refine g_topi (fun y18186 ey18186 => ?_)
        have hy18186 : y18186.toInt = z1.toInt + 1 := i32_add ey18186 rfl rfl (by omega) (by omega)
        refine g_callV (n := 1) hk (j143_X12_isThere l D zt r g I A L y18186 hIv) (SP.same _) (fun _ h => h) (gi_V (List.mem_cons_of_mem _ (List.mem_append_left _ (List.mem_of_getElem? (i := 4) rfl))) (List.mem_cons_of_mem _ (List.mem_append_left _ (List.mem_of_getElem? (i := 5) rfl))) (List.mem_cons_of_mem _ (List.mem_append_left _ (List.mem_of_getElem? (i := 6) rfl))) (List.mem_cons_of_mem _ (List.mem_append_left _ (List.mem_of_getElem? (i := 3) rfl))) (gi_sub (fun w h => (List.mem_cons_of_mem _ (List.mem_append_right _ (List.mem_append_right _ (List.mem_append_right _ (List.mem_append_left _ h)))))) zg_j143_X12_isThere)) rfl rfl rfl (by decide +kernel) ⟨Nat.le_of_ble_eq_true rfl, Nat.le_of_ble_eq_true rfl⟩ 0 rfl rfl rfl rfl (Nat.le_of_ble_eq_true rfl) ⟨Nat.le_of_ble_eq_true rfl, Nat.le_of_ble_eq_true rfl⟩ dX12_mend_30 (fun v ty' w' hp hk' => ?_)
        rcases hp with ⟨rfl, rfl⟩ | ⟨c18188, c18189, c18190, c18191, c18192, rfl, rfl⟩
        · skip
          show GW κ 2 0 0 (wM r g I A L) 33 [(0, .ref (r 0)), (1, .int z1)] [.int 0]
          refine g_if_ne (tgt := 40) (a := 0) hk dX12_mend_33 (by decide) rfl (fun z9 => absurd z9 (show ¬ ((0 : Int) ≠ (0 : Int)) from by decide)) (fun _ => ?_)
          refine g_sipush (v := (-1000)) hk dX12_mend_36 (by decide) ?_
          exact g_iret hk hR rfl ⟨I, A, L, (show Md [22] I I from Md.rf), (show Md [17, 18, 22] A A from Md.rf), hIv, (-1000), rfl, rfl⟩ dX12_mend_39
        · skip
          show GW κ 2 0 0 (wM r g I A L) 33 [(0, .ref (r 0)), (1, .int z1)] [.int 1]
          refine g_if_ne (tgt := 40) (a := 1) hk dX12_mend_33 (by decide) rfl (fun _ => ?_) (fun z9 => absurd (show (1 : Int) ≠ (0 : Int) from by decide) z9)
          refine g_aload_n hk dX12_mend_40 rfl ?_
          refine g_callV (n := 0) hk (j151_X12_copies l D zt r g I A L  hIv) (SP.same _) (fun _ h => h) (gi_V (List.mem_cons_of_mem _ (List.mem_append_left _ (List.mem_of_getElem? (i := 7) rfl))) (List.mem_cons_of_mem _ (List.mem_append_left _ (List.mem_of_getElem? (i := 8) rfl))) (List.mem_cons_of_mem _ (List.mem_append_left _ (List.mem_of_getElem? (i := 9) rfl))) (List.mem_cons_of_mem _ (List.mem_append_left _ (List.mem_of_getElem? (i := 3) rfl))) (gi_sub (fun w h => (List.mem_cons_of_mem _ (List.mem_append_right _ (List.mem_append_right _ (List.mem_append_right _ (List.mem_append_right _ (List.mem_append_left _ h))))))) zg_j151_X12_copies)) rfl rfl rfl (by decide +kernel) ⟨Nat.le_of_ble_eq_true rfl, Nat.le_of_ble_eq_true rfl⟩ 0 rfl rfl rfl rfl (Nat.le_of_ble_eq_true rfl) ⟨Nat.le_of_ble_eq_true rfl, Nat.le_of_ble_eq_true rfl⟩ dX12_mend_41 (fun v ty' w' hp hk' => ?_)
          obtain ⟨I18195, A18195, L18195, hI18195, hA18195, hV18195, r18196, r18197, rfl, rfl⟩ := hp
          have f18198 := IvM_s17_0 hIv
          have f18199 := IvM_s17_164 hIv
          show GW κ 2 0 0 (wM r g I18195 A18195 L18195) 44 [(0, .ref (r 0)), (1, .int z1)] []
          refine g_aload_n hk dX12_mend_44 rfl ?_
          refine gM_r0_36 hk hin12 (List.mem_cons_of_mem _ (List.mem_append_left _ (List.mem_of_getElem? (i := 10) rfl))) dX12_mend_45 ?_
          refine g_iconst (v := 1) hk dX12_mend_48 (by decide) ?_
          refine g_iload_n hk dX12_mend_49 rfl ?_
          refine g_iadd hk dX12_mend_50 ?_
          refine g_topi (fun y18200 ey18200 => ?_)
          have hy18200 : y18200.toInt = 1 + z1.toInt := i32_add ey18200 rfl rfl (by omega) (by omega)
          refine g_aload_n hk dX12_mend_51 rfl ?_
          refine gM_r0_36 hk hin12 (List.mem_cons_of_mem _ (List.mem_append_left _ (List.mem_of_getElem? (i := 10) rfl))) dX12_mend_52 ?_
          refine g_iload_n hk dX12_mend_55 rfl ?_
          refine lM_18 (v := (A18195 18 z1.toNatClampNeg)) hk (vp_in_iff.mpr ⟨by omega, by omega⟩) rfl dX12_mend_56 ?_
          refine g_aload_n hk dX12_mend_57 rfl ?_
          refine gM_r0_36 hk hin12 (List.mem_cons_of_mem _ (List.mem_append_left _ (List.mem_of_getElem? (i := 10) rfl))) dX12_mend_58 ?_
          refine g_iconst (v := 2) hk dX12_mend_61 (by decide) ?_
          refine g_iload_n hk dX12_mend_62 rfl ?_
          refine g_iadd hk dX12_mend_63 ?_
          refine g_topi (fun y18201 ey18201 => ?_)
          have hy18201 : y18201.toInt = 2 + z1.toInt := i32_add ey18201 rfl rfl (by omega) (by omega)
          refine lM_18 (v := (A18195 18 y18201.toNatClampNeg)) hk (vp_in_iff.mpr ⟨by omega, by omega⟩) rfl dX12_mend_64 ?_
          have b18202l := Int32.le_toInt (A18195 18 z1.toNatClampNeg)
          have b18202h := Int32.toInt_lt (A18195 18 z1.toNatClampNeg)
          have b18203l := Int32.le_toInt (A18195 18 y18201.toNatClampNeg)
          have b18203h := Int32.toInt_lt (A18195 18 y18201.toNatClampNeg)
          refine g_iadd hk dX12_mend_65 ?_
          refine g_topi (fun y18204 ey18204 => ?_)
          refine g_iconst (v := 2) hk dX12_mend_66 (by decide) ?_
          have k18214 : (2 : Int32).toInt = 2 := rfl
          refine g_callS (n := 2) hk (j155_X12_downBy l D zt r g I18195 A18195 L18195 y18204 2 hV18195 (by decide)) (SP.same _) (fun _ h => h) (gi_S (List.mem_cons_of_mem _ (List.mem_append_left _ (List.mem_of_getElem? (i := 11) rfl))) (List.mem_cons_of_mem _ (List.mem_append_left _ (List.mem_of_getElem? (i := 12) rfl))) (List.mem_cons_of_mem _ (List.mem_append_left _ (List.mem_of_getElem? (i := 3) rfl))) (gi_sub (fun w h => (List.mem_cons_of_mem _ (List.mem_append_right _ (List.mem_append_right _ (List.mem_append_right _ (List.mem_append_right _ (List.mem_append_right _ (List.mem_append_left _ h)))))))) zg_j155_X12_downBy)) rfl rfl rfl (by decide +kernel) ⟨Nat.le_of_ble_eq_true rfl, Nat.le_of_ble_eq_true rfl⟩ rfl rfl (Nat.le_of_ble_eq_true rfl) ⟨Nat.le_of_ble_eq_true rfl, Nat.le_of_ble_eq_true rfl⟩ dX12_mend_67 (fun v ty' w' hp hk' => ?_)
          obtain ⟨y18215, rfl, rfl⟩ := hp
          show GW κ 2 0 0 (wM r g I18195 A18195 L18195) 70 [(0, .ref (r 0)), (1, .int z1)] [.int y18215, .int y18200, .ref (r 19)]
          refine sM_18 (j := y18200.toNatClampNeg) hk (vp_in_iff.mpr ⟨by omega, by omega⟩) rfl dX12_mend_70 ?_
          have hS18216 : (up3 A18195 18 (y18200.toNatClampNeg) y18215) 18 0 = (A18195 18 0) := (up3_ne (by have := cl_int (y := y18200) (by omega); omega)).trans (show A18195 18 0 = (A18195 18 0) from rfl)
          have hS18217 : (up3 A18195 18 (y18200.toNatClampNeg) y18215) 18 164 = (A18195 18 164) := (up3_ne (by have := cl_int (y := y18200) (by omega); omega)).trans (show A18195 18 164 = (A18195 18 164) from rfl)
          refine g_aload_n hk dX12_mend_71 rfl ?_
          refine g_callV (n := 0) hk (j152_X12_records l D zt r g I18195 (up3 A18195 18 (y18200.toNatClampNeg) y18215) L18195  ⟨(IvM_f1 (I := I18195) (A := A18195) hV18195), (IvM_f2 (I := I18195) (A := A18195) hV18195), (IvM_f3 (I := I18195) (A := A18195) hV18195), (IvM_f4 (I := I18195) (A := A18195) hV18195), (IvM_f6 (I := I18195) (A := A18195) hV18195), (IvM_f8 (I := I18195) (A := A18195) hV18195), (IvM_f15 (I := I18195) (A := A18195) hV18195), (IvM_f16 (I := I18195) (A := A18195) hV18195), (IvM_f17 (I := I18195) (A := A18195) hV18195), (IvM_f18 (I := I18195) (A := A18195) hV18195), (IvM_f22 (I := I18195) (A := A18195) hV18195), (IvM_f23 (I := I18195) (A := A18195) hV18195), (IvM_f24 (I := I18195) (A := A18195) hV18195), (IvM_a11 (I := I18195) (A := A18195) hV18195), (IvM_a26 (I := I18195) (A := A18195) hV18195), (IvM_s8_0 (I := I18195) (A := A18195) hV18195), (IvM_s8_1 (I := I18195) (A := A18195) hV18195), (IvM_s10_0 (I := I18195) (A := A18195) hV18195), (IvM_s10_1 (I := I18195) (A := A18195) hV18195), (IvM_s17_0 (I := I18195) (A := A18195) hV18195), (IvM_s17_164 (I := I18195) (A := A18195) hV18195), (IvM_lv (I := I18195) (A := A18195) hV18195), (IvM_sd (I := I18195) (A := A18195) hV18195), (IvM_nq (I := I18195) (A := A18195) hV18195), (IvM_hr (I := I18195) (A := A18195) hV18195), (IvM_hh (I := I18195) (A := A18195) hV18195), trivial⟩ (by first | (rw [show ((up3 A18195 18 (y18200.toNatClampNeg) y18215) 18 0) = (A18195 18 0) from hS18216] <;> omega) | omega) (by first | (rw [show ((up3 A18195 18 (y18200.toNatClampNeg) y18215) 18 0) = (A18195 18 0) from hS18216] <;> omega) | omega) (by first | (rw [show ((up3 A18195 18 (y18200.toNatClampNeg) y18215) 18 164) = (A18195 18 164) from hS18217] <;> omega) | omega)) (SP.same _) (fun _ h => h) (gi_V (List.mem_cons_of_mem _ (List.mem_append_left _ (List.mem_of_getElem? (i := 13) rfl))) (List.mem_cons_of_mem _ (List.mem_append_left _ (List.mem_of_getElem? (i := 14) rfl))) (List.mem_cons_of_mem _ (List.mem_append_left _ (List.mem_of_getElem? (i := 15) rfl))) (List.mem_cons_of_mem _ (List.mem_append_left _ (List.mem_of_getElem? (i := 3) rfl))) (gi_sub (fun w h => (List.mem_cons_of_mem _ (List.mem_append_right _ (List.mem_append_right _ (List.mem_append_right _ (List.mem_append_right _ (List.mem_append_right _ (List.mem_append_right _ (List.mem_append_left _ h))))))))) zg_j152_X12_records)) rfl rfl rfl (by decide +kernel) ⟨Nat.le_of_ble_eq_true rfl, Nat.le_of_ble_eq_true rfl⟩ 0 rfl rfl rfl rfl (Nat.le_of_ble_eq_true rfl) ⟨Nat.le_of_ble_eq_true rfl, Nat.le_of_ble_eq_true rfl⟩ dX12_mend_72 (fun v ty' w' hp hk' => ?_)
          obtain ⟨I18219, A18219, L18219, hI18219, hA18219, hV18219, rfl, rfl⟩ := hp
          show GW κ 2 0 0 (wM r g I18219 A18219 L18219) 75 [(0, .ref (r 0)), (1, .int z1)] []
          refine g_aload_n hk dX12_mend_75 rfl ?_
          refine gM_r0_35 hk hin12 (List.mem_cons_of_mem _ (List.mem_append_left _ (List.mem_of_getElem? (i := 16) rfl))) dX12_mend_76 ?_
          refine g_iconst (v := 1) hk dX12_mend_79 (by decide) ?_
          refine g_iload_n hk dX12_mend_80 rfl ?_
          refine g_iadd hk dX12_mend_81 ?_
          refine g_topi (fun y18220 ey18220 => ?_)
          have hy18220 : y18220.toInt = 1 + z1.toInt := i32_add ey18220 rfl rfl (by omega) (by omega)
          refine lM_17 (v := (A18219 17 y18220.toNatClampNeg)) hk (vp_in_iff.mpr ⟨by omega, by omega⟩) rfl dX12_mend_82 ?_
          have b18221l := Int32.le_toInt (A18219 17 y18220.toNatClampNeg)
          have b18221h := Int32.toInt_lt (A18219 17 y18220.toNatClampNeg)
          exact g_iret hk hR rfl ⟨I18219, A18219, L18219, (show Md [22] I I18219 from (Md.tr (Md.tr Md.rf hI18195 rfl) hI18219 rfl)), (show Md [17, 18, 22] A A18219 from (Md.tr (Md.up3 (Md.tr Md.rf hA18195 rfl) rfl) hA18219 rfl)), hV18219, (A18219 17 y18220.toNatClampNeg), rfl, rfl⟩ dX12_mend_83
    · skip
      show GW κ 2 0 0 (wM r g I A L) 13 [(0, .ref (r 0)), (1, .int z1)] [.int 1]
      refine g_if_ne (tgt := 36) (a := 1) hk dX12_mend_13 (by decide) rfl (fun _ => ?_) (fun z9 => absurd (show (1 : Int) ≠ (0 : Int) from by decide) z9)
      refine g_sipush (v := (-1000)) hk dX12_mend_36 (by decide) ?_
      exact g_iret hk hR rfl ⟨I, A, L, (show Md [22] I I from Md.rf), (show Md [17, 18, 22] A A from Md.rf), hIv, (-1000), rfl, rfl⟩ dX12_mend_39
def wo_j156_X12_drop : List Cond := [Cond.fieldLink RX12 70 "WarpDeskModel" "now" "[I", Cond.methodLink RX12 244 yX12_in, Cond.static yX12_in, Cond.initialized RX12, Cond.methodLink RX12 323 yX12_copies, Cond.instanceMethod yX12_copies, Cond.selects RX12 yX12_copies yX12_copies, Cond.fieldLink RX12 73 "WarpDeskModel" "row" "[I", Cond.methodLink RX12 326 yX12_records, Cond.instanceMethod yX12_records, Cond.selects RX12 yX12_records yX12_records]
def wz_j156_X12_drop : List Cond := .code yX12_drop cX12_drop 3 (some .boolean) :: (wo_j156_X12_drop ++ (wsX120 ++ (wz_j145_X12_in ++ (wz_j151_X12_copies ++ (wz_j152_X12_records ++ ([] : List Cond))))))
theorem zg_j156_X12_drop : ∀ w ∈ wz_j156_X12_drop, goodWord w = true := zg_cons rfl (zg_app (by decide +kernel) (zg_app zgU_wsX120 (zg_app zg_j145_X12_in (zg_app zg_j151_X12_copies (zg_app zg_j152_X12_records zg_nil)))))
theorem zi_j156_X12_drop : ∀ w ∈ wz_j156_X12_drop, w ∈ lw_tbl := zi_cons zw_1701 (zi_app (zi_cons zw_1413 (zi_cons zw_1656 (zi_cons zw_1657 (zi_cons zw_115 (zi_cons zw_1679 (zi_cons zw_1681 (zi_cons zw_70 (zi_cons zw_1414 (zi_cons zw_1683 (zi_cons zw_1685 (zi_cons zw_71 zi_nil))))))))))) (zi_app inX12 (zi_app zi_j145_X12_in (zi_app zi_j151_X12_copies (zi_app zi_j152_X12_records zi_nil)))))
set_option maxHeartbeats 4000000 in
set_option maxRecDepth 100000 in
theorem j156_X12_drop (l : Launch) (D : va_G) (zt : Nat × Nat × Nat × (Nat → Nat) × (Nat → Nat)) (r : Nat → Nat) (g : Nat → ClassId) (I : Nat → Int32) (A : Nat → Nat → Int32) (L : Nat → Nat → Int64) (z1 : Int32) (hIv : IvM I A) : GM l D zt (tyM g) yX12_drop wz_j156_X12_drop ({ frames := 2, cells := 0, slots := 0, locals := 42 } : Room) [.ref (r 0), .int z1] (wM r g I A L) (fun v _ w' => ∃ (I' : Nat → Int32) (A' : Nat → Nat → Int32) (L' : Nat → Nat → Int64), Md [22] I I' ∧ Md [17, 18, 22] A A' ∧ IvM I' A' ∧ ∃ y0 : Int32, (0 ≤ y0.toInt) ∧ (y0.toInt ≤ 1) ∧ v = some (.int y0) ∧ w' = wM r g I' A' L') 0 0 := by
  refine GM.of (cc := cX12_drop) (maxL := 3) (ret := (some .boolean)) (own := RX12) (lv := [(0, .ref (r 0)), (1, .int z1)]) (by decide) rfl rfl (Nat.le_of_ble_eq_true rfl) rfl (fun κ sz hk hR hN => ?_)
  have hin12 : ∀ w ∈ u_ws RX12 TX12 55, w ∈ wz_j156_X12_drop := fun w h => (List.mem_cons_of_mem _ (List.mem_append_right _ (List.mem_append_left _ h)))
  refine g_iload_n hk dX12_drop_0 rfl ?_
  refine g_iconst (v := 1) hk dX12_drop_1 (by decide) ?_
  refine g_aload_n hk dX12_drop_2 rfl ?_
  refine gM_r0_35 hk hin12 (List.mem_cons_of_mem _ (List.mem_append_left _ (List.mem_of_getElem? (i := 0) rfl))) dX12_drop_3 ?_
  refine g_iconst (v := 0) hk dX12_drop_6 (by decide) ?_
  refine lM_17 (v := (A 17 0)) hk (vp_in_iff.mpr ⟨by decide, by decide⟩) rfl dX12_drop_7 ?_
  have f18222 := IvM_s17_0 hIv
  have k18223 : (1 : Int32).toInt = 1 := rfl
  refine g_callS (n := 3) hk (j145_X12_in l D zt r g I A L z1 1 (A 17 0) hIv) (SP.same _) (fun _ h => h) (gi_S (List.mem_cons_of_mem _ (List.mem_append_left _ (List.mem_of_getElem? (i := 1) rfl))) (List.mem_cons_of_mem _ (List.mem_append_left _ (List.mem_of_getElem? (i := 2) rfl))) (List.mem_cons_of_mem _ (List.mem_append_left _ (List.mem_of_getElem? (i := 3) rfl))) (gi_sub (fun w h => (List.mem_cons_of_mem _ (List.mem_append_right _ (List.mem_append_right _ (List.mem_append_left _ h))))) zg_j145_X12_in)) rfl rfl rfl (by decide +kernel) ⟨Nat.le_of_ble_eq_true rfl, Nat.le_of_ble_eq_true rfl⟩ rfl rfl (Nat.le_of_ble_eq_true rfl) ⟨Nat.le_of_ble_eq_true rfl, Nat.le_of_ble_eq_true rfl⟩ dX12_drop_8 (fun v ty' w' hp hk' => ?_)
  rcases hp with ⟨c18224, rfl, rfl⟩ | ⟨c18226, c18227, rfl, rfl⟩
  · skip
    have b18229l := Int32.le_toInt z1
    have b18229h := Int32.toInt_lt z1
    show GW κ 3 0 0 (wM r g I A L) 11 [(0, .ref (r 0)), (1, .int z1)] [.int 0]
    refine g_if_ne (tgt := 16) (a := 0) hk dX12_drop_11 (by decide) rfl (fun z9 => absurd z9 (show ¬ ((0 : Int) ≠ (0 : Int)) from by decide)) (fun _ => ?_)
    refine g_iconst (v := 0) hk dX12_drop_14 (by decide) ?_
    exact g_iret hk hR rfl ⟨I, A, L, (show Md [22] I I from Md.rf), (show Md [17, 18, 22] A A from Md.rf), hIv, 0, (by decide), (by decide), rfl, rfl⟩ dX12_drop_15
  · skip
    show GW κ 3 0 0 (wM r g I A L) 11 [(0, .ref (r 0)), (1, .int z1)] [.int 1]
    refine g_if_ne (tgt := 16) (a := 1) hk dX12_drop_11 (by decide) rfl (fun _ => ?_) (fun z9 => absurd (show (1 : Int) ≠ (0 : Int) from by decide) z9)
    refine g_aload_n hk dX12_drop_16 rfl ?_
    refine g_callV (n := 0) hk (j151_X12_copies l D zt r g I A L  hIv) (SP.same _) (fun _ h => h) (gi_V (List.mem_cons_of_mem _ (List.mem_append_left _ (List.mem_of_getElem? (i := 4) rfl))) (List.mem_cons_of_mem _ (List.mem_append_left _ (List.mem_of_getElem? (i := 5) rfl))) (List.mem_cons_of_mem _ (List.mem_append_left _ (List.mem_of_getElem? (i := 6) rfl))) (List.mem_cons_of_mem _ (List.mem_append_left _ (List.mem_of_getElem? (i := 3) rfl))) (gi_sub (fun w h => (List.mem_cons_of_mem _ (List.mem_append_right _ (List.mem_append_right _ (List.mem_append_right _ (List.mem_append_left _ h)))))) zg_j151_X12_copies)) rfl rfl rfl (by decide +kernel) ⟨Nat.le_of_ble_eq_true rfl, Nat.le_of_ble_eq_true rfl⟩ 0 rfl rfl rfl rfl (Nat.le_of_ble_eq_true rfl) ⟨Nat.le_of_ble_eq_true rfl, Nat.le_of_ble_eq_true rfl⟩ dX12_drop_17 (fun v ty' w' hp hk' => ?_)
    obtain ⟨I18231, A18231, L18231, hI18231, hA18231, hV18231, r18232, r18233, rfl, rfl⟩ := hp
    have f18234 := IvM_s17_164 hIv
    show GW κ 3 0 0 (wM r g I18231 A18231 L18231) 20 [(0, .ref (r 0)), (1, .int z1)] []
    refine g_iconst (v := 0) hk dX12_drop_20 (by decide) ?_
    refine g_istore_n (lv' := [(2, .int 0), (0, .ref (r 0)), (1, .int z1)]) hk dX12_drop_21 (by decide) rfl ?_
    have lp18292 : ∀ (n18293 : Nat) (x18235 : Int32) (I18238 : Nat → Int32) (A18238 : Nat → Nat → Int32) (L18238 : Nat → Nat → Int64), (Md [] I18231 I18238) → (Md [18] A18231 A18238) → (IvM I18238 A18238) → (0 ≤ x18235.toInt) → (x18235.toInt ≤ 160) → ((A18238 18 0).toInt = (A 17 0).toInt) → ((A18238 18 164).toInt = (A 17 164).toInt) → (161 - x18235.toInt < (n18293 : Int)) → (0 < n18293) → GW κ 3 0 0 (wM r g I18238 A18238 L18238) 22 [(2, .int x18235), (0, .ref (r 0)), (1, .int z1)] [] := by
      intro n18293
      induction n18293 with
      | zero =>
        intro x18235 I18238 A18238 L18238 hI18238 hA18238 hV18238 h18288 h18289 h18290 h18291 m18294 m18294z
        exact absurd m18294z (Nat.lt_irrefl 0)
      | succ n18293 ih18295 =>
        intro x18235 I18238 A18238 L18238 hI18238 hA18238 hV18238 h18288 h18289 h18290 h18291 m18294 m18294z
        refine g_iload_n hk dX12_drop_22 rfl ?_
        refine g_sipush (v := 160) hk dX12_drop_23 (by decide) ?_
        refine g_icmp_ge (tgt := 69) (a := x18235.toInt) (b := 160) hk dX12_drop_26 (by decide) rfl rfl (fun c18296 => ?_) (fun c18296 => ?_)
        · skip
          refine g_aload_n hk dX12_drop_69 rfl ?_
          refine gM_r0_36 hk hin12 (List.mem_cons_of_mem _ (List.mem_append_left _ (List.mem_of_getElem? (i := 7) rfl))) dX12_drop_70 ?_
          refine g_iconst (v := 0) hk dX12_drop_73 (by decide) ?_
          refine g_dup2 hk dX12_drop_74 rfl rfl ?_
          refine lM_18 (v := (A18238 18 0)) hk (vp_in_iff.mpr ⟨by decide, by decide⟩) rfl dX12_drop_75 ?_
          refine g_iload_n hk dX12_drop_76 rfl ?_
          refine g_isub hk dX12_drop_77 ?_
          refine g_topi (fun y18297 ey18297 => ?_)
          have hy18297 : y18297.toInt = (A18238 18 0).toInt - z1.toInt := i32_sub ey18297 rfl rfl (by omega) (by omega)
          refine sM_18 (j := 0) hk (vp_in_iff.mpr ⟨by decide, by decide⟩) (by decide) dX12_drop_78 ?_
          refine g_aload_n hk dX12_drop_79 rfl ?_
          refine g_callV (n := 0) hk (j152_X12_records l D zt r g I18238 (up3 A18238 18 0 y18297) L18238  ⟨(IvM_f1 (I := I18238) (A := A18238) hV18238), (IvM_f2 (I := I18238) (A := A18238) hV18238), (IvM_f3 (I := I18238) (A := A18238) hV18238), (IvM_f4 (I := I18238) (A := A18238) hV18238), (IvM_f6 (I := I18238) (A := A18238) hV18238), (IvM_f8 (I := I18238) (A := A18238) hV18238), (IvM_f15 (I := I18238) (A := A18238) hV18238), (IvM_f16 (I := I18238) (A := A18238) hV18238), (IvM_f17 (I := I18238) (A := A18238) hV18238), (IvM_f18 (I := I18238) (A := A18238) hV18238), (IvM_f22 (I := I18238) (A := A18238) hV18238), (IvM_f23 (I := I18238) (A := A18238) hV18238), (IvM_f24 (I := I18238) (A := A18238) hV18238), (IvM_a11 (I := I18238) (A := A18238) hV18238), (IvM_a26 (I := I18238) (A := A18238) hV18238), (IvM_s8_0 (I := I18238) (A := A18238) hV18238), (IvM_s8_1 (I := I18238) (A := A18238) hV18238), (IvM_s10_0 (I := I18238) (A := A18238) hV18238), (IvM_s10_1 (I := I18238) (A := A18238) hV18238), (IvM_s17_0 (I := I18238) (A := A18238) hV18238), (IvM_s17_164 (I := I18238) (A := A18238) hV18238), (IvM_lv (I := I18238) (A := A18238) hV18238), (IvM_sd (I := I18238) (A := A18238) hV18238), (IvM_nq (I := I18238) (A := A18238) hV18238), (IvM_hr (I := I18238) (A := A18238) hV18238), (IvM_hh (I := I18238) (A := A18238) hV18238), trivial⟩ (by first | (rw [show ((up3 A18238 18 0 y18297) 18 0) = y18297 from rfl] <;> omega) | omega) (by first | (rw [show ((up3 A18238 18 0 y18297) 18 0) = y18297 from rfl] <;> omega) | omega) (by first | (rw [show ((up3 A18238 18 0 y18297) 18 164) = (A18238 18 164) from rfl] <;> omega) | omega)) (SP.same _) (fun _ h => h) (gi_V (List.mem_cons_of_mem _ (List.mem_append_left _ (List.mem_of_getElem? (i := 8) rfl))) (List.mem_cons_of_mem _ (List.mem_append_left _ (List.mem_of_getElem? (i := 9) rfl))) (List.mem_cons_of_mem _ (List.mem_append_left _ (List.mem_of_getElem? (i := 10) rfl))) (List.mem_cons_of_mem _ (List.mem_append_left _ (List.mem_of_getElem? (i := 3) rfl))) (gi_sub (fun w h => (List.mem_cons_of_mem _ (List.mem_append_right _ (List.mem_append_right _ (List.mem_append_right _ (List.mem_append_right _ (List.mem_append_left _ h))))))) zg_j152_X12_records)) rfl rfl rfl (by decide +kernel) ⟨Nat.le_of_ble_eq_true rfl, Nat.le_of_ble_eq_true rfl⟩ 0 rfl rfl rfl rfl (Nat.le_of_ble_eq_true rfl) ⟨Nat.le_of_ble_eq_true rfl, Nat.le_of_ble_eq_true rfl⟩ dX12_drop_80 (fun v ty' w' hp hk' => ?_)
          obtain ⟨I18299, A18299, L18299, hI18299, hA18299, hV18299, rfl, rfl⟩ := hp
          show GW κ 3 0 0 (wM r g I18299 A18299 L18299) 83 [(2, .int x18235), (0, .ref (r 0)), (1, .int z1)] []
          refine g_iconst (v := 1) hk dX12_drop_83 (by decide) ?_
          exact g_iret hk hR rfl ⟨I18299, A18299, L18299, (show Md [22] I I18299 from (Md.tr (Md.tr (Md.tr Md.rf hI18231 rfl) hI18238 rfl) hI18299 rfl)), (show Md [17, 18, 22] A A18299 from (Md.tr (Md.up3 (Md.tr (Md.tr Md.rf hA18231 rfl) hA18238 rfl) rfl) hA18299 rfl)), hV18299, 1, (by decide), (by decide), rfl, rfl⟩ dX12_drop_84
        · skip
          refine g_aload_n hk dX12_drop_29 rfl ?_
          refine gM_r0_36 hk hin12 (List.mem_cons_of_mem _ (List.mem_append_left _ (List.mem_of_getElem? (i := 7) rfl))) dX12_drop_30 ?_
          refine g_iconst (v := 1) hk dX12_drop_33 (by decide) ?_
          refine g_iload_n hk dX12_drop_34 rfl ?_
          refine g_iadd hk dX12_drop_35 ?_
          refine g_topi (fun y18300 ey18300 => ?_)
          have hy18300 : y18300.toInt = 1 + x18235.toInt := i32_add ey18300 rfl rfl (by omega) (by omega)
          refine g_iload_n hk dX12_drop_36 rfl ?_
          refine g_iload_n hk dX12_drop_37 rfl ?_
          refine g_iadd hk dX12_drop_38 ?_
          refine g_topi (fun y18301 ey18301 => ?_)
          have hy18301 : y18301.toInt = x18235.toInt + z1.toInt := i32_add ey18301 rfl rfl (by omega) (by omega)
          refine g_aload_n hk dX12_drop_39 rfl ?_
          refine gM_r0_35 hk hin12 (List.mem_cons_of_mem _ (List.mem_append_left _ (List.mem_of_getElem? (i := 0) rfl))) dX12_drop_40 ?_
          refine g_iconst (v := 0) hk dX12_drop_43 (by decide) ?_
          refine lM_17 (v := (A 17 0)) hk (vp_in_iff.mpr ⟨by decide, by decide⟩) ((congrFun (hA18238 17 rfl) _).trans (congrFun (hA18231 17 rfl) _)) dX12_drop_44 ?_
          refine g_icmp_ge (tgt := 61) (a := y18301.toInt) (b := (A 17 0).toInt) hk dX12_drop_45 (by decide) rfl rfl (fun c18302 => ?_) (fun c18302 => ?_)
          · skip
            refine g_iconst (v := 0) hk dX12_drop_61 (by decide) ?_
            have k18303 : (0 : Int32).toInt = 0 := rfl
            refine sM_18 (j := y18300.toNatClampNeg) hk (vp_in_iff.mpr ⟨by omega, by omega⟩) rfl dX12_drop_62 ?_
            have hS18304 : (up3 A18238 18 (y18300.toNatClampNeg) 0) 18 0 = (A18238 18 0) := (up3_ne (by have := cl_int (y := y18300) (by omega); omega)).trans (show A18238 18 0 = (A18238 18 0) from rfl)
            have hS18305 : (up3 A18238 18 (y18300.toNatClampNeg) 0) 18 164 = (A18238 18 164) := (up3_ne (by have := cl_int (y := y18300) (by omega); omega)).trans (show A18238 18 164 = (A18238 18 164) from rfl)
            obtain ⟨y18306, ey18306⟩ : ∃ y : Int32, y = x18235 + Int32.ofInt 1 := ⟨_, rfl⟩
            have hy18306 : y18306.toInt = x18235.toInt + 1 := i32_add ey18306 rfl (by decide) (by omega) (by omega)
            refine g_iinc (v := y18306) (lv' := [(2, .int y18306), (0, .ref (r 0)), (1, .int z1)]) hk 0 dX12_drop_63 rfl ey18306.symm (by decide) rfl ?_
            refine g_goto (tgt := 22) hk dX12_drop_66 (by decide) ?_
            exact g_lv (List.forall_mem_cons.mpr ⟨List.mem_of_getElem? (i := 0) rfl, (List.forall_mem_cons.mpr ⟨List.mem_of_getElem? (i := 1) rfl, (List.forall_mem_cons.mpr ⟨List.mem_of_getElem? (i := 2) rfl, (fun _ h => absurd h List.not_mem_nil)⟩)⟩)⟩) (ih18295 y18306 I18238 (up3 A18238 18 (y18300.toNatClampNeg) 0) L18238 (show Md [] I18231 I18238 from Md.tr hI18238 (show Md [] I18238 I18238 from Md.rf) rfl) (show Md [18] A18231 (up3 A18238 18 (y18300.toNatClampNeg) 0) from Md.tr hA18238 (show Md [18] A18238 (up3 A18238 18 (y18300.toNatClampNeg) 0) from (Md.up3 Md.rf rfl)) rfl) ⟨(IvM_f1 (I := I18238) (A := A18238) hV18238), (IvM_f2 (I := I18238) (A := A18238) hV18238), (IvM_f3 (I := I18238) (A := A18238) hV18238), (IvM_f4 (I := I18238) (A := A18238) hV18238), (IvM_f6 (I := I18238) (A := A18238) hV18238), (IvM_f8 (I := I18238) (A := A18238) hV18238), (IvM_f15 (I := I18238) (A := A18238) hV18238), (IvM_f16 (I := I18238) (A := A18238) hV18238), (IvM_f17 (I := I18238) (A := A18238) hV18238), (IvM_f18 (I := I18238) (A := A18238) hV18238), (IvM_f22 (I := I18238) (A := A18238) hV18238), (IvM_f23 (I := I18238) (A := A18238) hV18238), (IvM_f24 (I := I18238) (A := A18238) hV18238), (IvM_a11 (I := I18238) (A := A18238) hV18238), (IvM_a26 (I := I18238) (A := A18238) hV18238), (IvM_s8_0 (I := I18238) (A := A18238) hV18238), (IvM_s8_1 (I := I18238) (A := A18238) hV18238), (IvM_s10_0 (I := I18238) (A := A18238) hV18238), (IvM_s10_1 (I := I18238) (A := A18238) hV18238), (IvM_s17_0 (I := I18238) (A := A18238) hV18238), (IvM_s17_164 (I := I18238) (A := A18238) hV18238), (IvM_lv (I := I18238) (A := A18238) hV18238), (IvM_sd (I := I18238) (A := A18238) hV18238), (IvM_nq (I := I18238) (A := A18238) hV18238), (IvM_hr (I := I18238) (A := A18238) hV18238), (IvM_hh (I := I18238) (A := A18238) hV18238), trivial⟩ (by omega) (by omega) (by first | (rw [show ((up3 A18238 18 (y18300.toNatClampNeg) 0) 18 0) = (A18238 18 0) from hS18304] <;> omega) | omega) (by first | (rw [show ((up3 A18238 18 (y18300.toNatClampNeg) 0) 18 164) = (A18238 18 164) from hS18305] <;> omega) | omega) (by omega) (by omega))
          · skip
            refine g_aload_n hk dX12_drop_48 rfl ?_
            refine gM_r0_35 hk hin12 (List.mem_cons_of_mem _ (List.mem_append_left _ (List.mem_of_getElem? (i := 0) rfl))) dX12_drop_49 ?_
            refine g_iconst (v := 1) hk dX12_drop_52 (by decide) ?_
            refine g_iload_n hk dX12_drop_53 rfl ?_
            refine g_iadd hk dX12_drop_54 ?_
            refine g_topi (fun y18307 ey18307 => ?_)
            have hy18307 : y18307.toInt = 1 + x18235.toInt := i32_add ey18307 rfl rfl (by omega) (by omega)
            refine g_iload_n hk dX12_drop_55 rfl ?_
            refine g_iadd hk dX12_drop_56 ?_
            refine g_topi (fun y18308 ey18308 => ?_)
            have hy18308 : y18308.toInt = y18307.toInt + z1.toInt := i32_add ey18308 rfl rfl (by omega) (by omega)
            refine lM_17 (v := (A 17 y18308.toNatClampNeg)) hk (vp_in_iff.mpr ⟨by omega, by omega⟩) ((congrFun (hA18238 17 rfl) _).trans (congrFun (hA18231 17 rfl) _)) dX12_drop_57 ?_
            refine g_goto (tgt := 62) hk dX12_drop_58 (by decide) ?_
            refine sM_18 (j := y18300.toNatClampNeg) hk (vp_in_iff.mpr ⟨by omega, by omega⟩) rfl dX12_drop_62 ?_
            have hS18309 : (up3 A18238 18 (y18300.toNatClampNeg) (A 17 y18308.toNatClampNeg)) 18 0 = (A18238 18 0) := (up3_ne (by have := cl_int (y := y18300) (by omega); omega)).trans (show A18238 18 0 = (A18238 18 0) from rfl)
            have hS18310 : (up3 A18238 18 (y18300.toNatClampNeg) (A 17 y18308.toNatClampNeg)) 18 164 = (A18238 18 164) := (up3_ne (by have := cl_int (y := y18300) (by omega); omega)).trans (show A18238 18 164 = (A18238 18 164) from rfl)
            obtain ⟨y18311, ey18311⟩ : ∃ y : Int32, y = x18235 + Int32.ofInt 1 := ⟨_, rfl⟩
            have hy18311 : y18311.toInt = x18235.toInt + 1 := i32_add ey18311 rfl (by decide) (by omega) (by omega)
            refine g_iinc (v := y18311) (lv' := [(2, .int y18311), (0, .ref (r 0)), (1, .int z1)]) hk 0 dX12_drop_63 rfl ey18311.symm (by decide) rfl ?_
            refine g_goto (tgt := 22) hk dX12_drop_66 (by decide) ?_
            exact g_lv (List.forall_mem_cons.mpr ⟨List.mem_of_getElem? (i := 0) rfl, (List.forall_mem_cons.mpr ⟨List.mem_of_getElem? (i := 1) rfl, (List.forall_mem_cons.mpr ⟨List.mem_of_getElem? (i := 2) rfl, (fun _ h => absurd h List.not_mem_nil)⟩)⟩)⟩) (ih18295 y18311 I18238 (up3 A18238 18 (y18300.toNatClampNeg) (A 17 y18308.toNatClampNeg)) L18238 (show Md [] I18231 I18238 from Md.tr hI18238 (show Md [] I18238 I18238 from Md.rf) rfl) (show Md [18] A18231 (up3 A18238 18 (y18300.toNatClampNeg) (A 17 y18308.toNatClampNeg)) from Md.tr hA18238 (show Md [18] A18238 (up3 A18238 18 (y18300.toNatClampNeg) (A 17 y18308.toNatClampNeg)) from (Md.up3 Md.rf rfl)) rfl) ⟨(IvM_f1 (I := I18238) (A := A18238) hV18238), (IvM_f2 (I := I18238) (A := A18238) hV18238), (IvM_f3 (I := I18238) (A := A18238) hV18238), (IvM_f4 (I := I18238) (A := A18238) hV18238), (IvM_f6 (I := I18238) (A := A18238) hV18238), (IvM_f8 (I := I18238) (A := A18238) hV18238), (IvM_f15 (I := I18238) (A := A18238) hV18238), (IvM_f16 (I := I18238) (A := A18238) hV18238), (IvM_f17 (I := I18238) (A := A18238) hV18238), (IvM_f18 (I := I18238) (A := A18238) hV18238), (IvM_f22 (I := I18238) (A := A18238) hV18238), (IvM_f23 (I := I18238) (A := A18238) hV18238), (IvM_f24 (I := I18238) (A := A18238) hV18238), (IvM_a11 (I := I18238) (A := A18238) hV18238), (IvM_a26 (I := I18238) (A := A18238) hV18238), (IvM_s8_0 (I := I18238) (A := A18238) hV18238), (IvM_s8_1 (I := I18238) (A := A18238) hV18238), (IvM_s10_0 (I := I18238) (A := A18238) hV18238), (IvM_s10_1 (I := I18238) (A := A18238) hV18238), (IvM_s17_0 (I := I18238) (A := A18238) hV18238), (IvM_s17_164 (I := I18238) (A := A18238) hV18238), (IvM_lv (I := I18238) (A := A18238) hV18238), (IvM_sd (I := I18238) (A := A18238) hV18238), (IvM_nq (I := I18238) (A := A18238) hV18238), (IvM_hr (I := I18238) (A := A18238) hV18238), (IvM_hh (I := I18238) (A := A18238) hV18238), trivial⟩ (by omega) (by omega) (by first | (rw [show ((up3 A18238 18 (y18300.toNatClampNeg) (A 17 y18308.toNatClampNeg)) 18 0) = (A18238 18 0) from hS18309] <;> omega) | omega) (by first | (rw [show ((up3 A18238 18 (y18300.toNatClampNeg) (A 17 y18308.toNatClampNeg)) 18 164) = (A18238 18 164) from hS18310] <;> omega) | omega) (by omega) (by omega))
    have k18312 : (0 : Int32).toInt = 0 := rfl
    obtain ⟨n18313, n18313a, n18313b⟩ : ∃ n : Nat, 161 - (0 : Int32).toInt < (n : Int) ∧ 0 < n := ⟨((161 - (0 : Int32).toInt : Int)).toNat + 1, by omega, by omega⟩
    exact lp18292 n18313 0 I18231 A18231 L18231 Md.rf Md.rf hV18231 (by omega) (by omega) (by omega) (by omega) n18313a n18313b
