def wo_m121_X12_cut : List Cond := [Cond.fieldLink RX12 139 "WarpDeskModel" "tokens" "I", Cond.methodLink RX12 142 yX12_byteAt, Cond.instanceMethod yX12_byteAt, Cond.selects RX12 yX12_byteAt yX12_byteAt, Cond.initialized RX12, Cond.fieldLink RX12 130 "WarpDeskModel" "size" "I", Cond.methodLink RX12 146 yX12_token, Cond.instanceMethod yX12_token, Cond.selects RX12 yX12_token yX12_token]
def wz_m121_X12_cut : List Cond := .code yX12_cut cX12_cut 8 none :: (wo_m121_X12_cut ++ (wsX120 ++ (wz_m122_X12_byteAt ++ (wz_m123_X12_token ++ ([] : List Cond)))))
theorem zg_m121_X12_cut : ∀ w ∈ wz_m121_X12_cut, goodWord w = true := zg_cons rfl (zg_app (by decide +kernel) (zg_app zgU_wsX120 (zg_app zg_m122_X12_byteAt (zg_app zg_m123_X12_token zg_nil))))
theorem zi_m121_X12_cut : ∀ w ∈ wz_m121_X12_cut, w ∈ lw_tbl := zi_cons zw_1564 (zi_app (zi_cons zw_1389 (zi_cons zw_1565 (zi_cons zw_1567 (zi_cons zw_49 (zi_cons zw_115 (zi_cons zw_1383 (zi_cons zw_1569 (zi_cons zw_1571 (zi_cons zw_50 zi_nil))))))))) (zi_app inX12 (zi_app zi_m122_X12_byteAt (zi_app zi_m123_X12_token zi_nil))))
set_option maxHeartbeats 4000000 in
set_option maxRecDepth 100000 in
theorem m121_X12_cut (l : Launch) (D : va_G) (zt : Nat × Nat × Nat) (g : Nat → ClassId) (r : Nat → Nat) : GM l D zt (tyM g) yX12_cut wz_m121_X12_cut ({ frames := 1, cells := 0, slots := 0, locals := 25 } : Room) [.ref (r 0)] (wM r g iM1 aM1 lM1) (fun v _ w' => v = none ∧ w' = wM r g (upd iM1 3 1) aM1 (up3L lM1 5 0 0)) 0 0 := by
  refine GM.of (cc := cX12_cut) (maxL := 8) (ret := none) (own := RX12) (lv := [(0, .ref (r 0))]) (by decide) rfl rfl (Nat.le_of_ble_eq_true rfl) rfl (fun κ sz hk hR hN => ?_)
  have hin12 : ∀ w ∈ u_ws RX12 TX12 55, w ∈ wz_m121_X12_cut := fun w h => (List.mem_cons_of_mem _ (List.mem_append_right _ (List.mem_append_left _ h)))
  refine g_aload_n hk dX12_cut_0 rfl ?_
  refine g_iconst (v := 0) hk dX12_cut_1 (by decide) ?_
  refine pM_i3 hk hin12 (List.mem_cons_of_mem _ (List.mem_append_left _ (List.mem_of_getElem? (i := 0) rfl))) dX12_cut_2 ?_
  refine gM_sameI rfl ?_
  refine g_iconst (v := 0) hk dX12_cut_5 (by decide) ?_
  refine g_istore_n (lv' := [(1, .int 0), (0, .ref (r 0))]) hk dX12_cut_6 (by decide) rfl ?_
  refine g_aload_n hk dX12_cut_7 rfl ?_
  refine gM_i3 (v := 0) hk hin12 (List.mem_cons_of_mem _ (List.mem_append_left _ (List.mem_of_getElem? (i := 0) rfl))) dX12_cut_8 rfl ?_
  refine g_sipush (v := 400) hk dX12_cut_11 (by decide) ?_
  refine g_icmp_gt (tgt := 294) (a := 0) (b := 400) hk dX12_cut_14 (by decide) rfl rfl (fun z9 => absurd z9 (show ¬ ((400 : Int) < (0 : Int)) from by decide)) (fun _ => ?_)
  refine g_aload_n hk dX12_cut_17 rfl ?_
  refine g_iload_n hk dX12_cut_18 rfl ?_
  refine g_callV (n := 1) hk (m122_X12_byteAt l D zt g r) (SP.same _) (fun _ h => h) (gi_V (List.mem_cons_of_mem _ (List.mem_append_left _ (List.mem_of_getElem? (i := 1) rfl))) (List.mem_cons_of_mem _ (List.mem_append_left _ (List.mem_of_getElem? (i := 2) rfl))) (List.mem_cons_of_mem _ (List.mem_append_left _ (List.mem_of_getElem? (i := 3) rfl))) (List.mem_cons_of_mem _ (List.mem_append_left _ (List.mem_of_getElem? (i := 4) rfl))) (gi_sub (fun w h => (List.mem_cons_of_mem _ (List.mem_append_right _ (List.mem_append_right _ (List.mem_append_left _ h))))) zg_m122_X12_byteAt)) rfl rfl rfl (by decide +kernel) ⟨Nat.le_of_ble_eq_true rfl, Nat.le_of_ble_eq_true rfl⟩ 0 rfl rfl rfl rfl (Nat.le_of_ble_eq_true rfl) ⟨Nat.le_of_ble_eq_true rfl, Nat.le_of_ble_eq_true rfl⟩ dX12_cut_19 (fun v ty' w' hp hk' => ?_)
  obtain ⟨rfl, rfl⟩ := hp
  show GW κ 8 0 0 (wM r g iM1 aM1 lM1) 22 [(1, .int 0), (0, .ref (r 0))] [.int 0]
  refine g_istore_n (lv' := [(2, .int 0), (1, .int 0), (0, .ref (r 0))]) hk dX12_cut_22 (by decide) rfl ?_
  refine g_iload_n hk dX12_cut_23 rfl ?_
  refine g_aload_n hk dX12_cut_24 rfl ?_
  refine gM_i2 (v := 0) hk hin12 (List.mem_cons_of_mem _ (List.mem_append_left _ (List.mem_of_getElem? (i := 5) rfl))) dX12_cut_25 rfl ?_
  refine g_icmp_lt (tgt := 43) (a := 0) (b := 0) hk dX12_cut_28 (by decide) rfl rfl (fun z9 => absurd z9 (show ¬ ((0 : Int) < (0 : Int)) from by decide)) (fun _ => ?_)
  refine g_aload_n hk dX12_cut_31 rfl ?_
  refine g_iconst (v := 0) hk dX12_cut_32 (by decide) ?_
  refine g_aload_n hk dX12_cut_33 rfl ?_
  refine gM_i2 (v := 0) hk hin12 (List.mem_cons_of_mem _ (List.mem_append_left _ (List.mem_of_getElem? (i := 5) rfl))) dX12_cut_34 rfl ?_
  refine g_iconst (v := 0) hk dX12_cut_37 (by decide) ?_
  refine g_lconst (v := 0) hk dX12_cut_38 (by decide) ?_
  refine g_callV (n := 4) hk (m123_X12_token l D zt g r) (SP.same _) (fun _ h => h) (gi_V (List.mem_cons_of_mem _ (List.mem_append_left _ (List.mem_of_getElem? (i := 6) rfl))) (List.mem_cons_of_mem _ (List.mem_append_left _ (List.mem_of_getElem? (i := 7) rfl))) (List.mem_cons_of_mem _ (List.mem_append_left _ (List.mem_of_getElem? (i := 8) rfl))) (List.mem_cons_of_mem _ (List.mem_append_left _ (List.mem_of_getElem? (i := 4) rfl))) (gi_sub (fun w h => (List.mem_cons_of_mem _ (List.mem_append_right _ (List.mem_append_right _ (List.mem_append_right _ (List.mem_append_left _ h)))))) zg_m123_X12_token)) rfl rfl rfl (by decide +kernel) ⟨Nat.le_of_ble_eq_true rfl, Nat.le_of_ble_eq_true rfl⟩ 0 rfl rfl rfl rfl (Nat.le_of_ble_eq_true rfl) ⟨Nat.le_of_ble_eq_true rfl, Nat.le_of_ble_eq_true rfl⟩ dX12_cut_39 (fun v ty' w' hp hk' => ?_)
  obtain ⟨rfl, rfl⟩ := hp
  show GW κ 8 0 0 (wM r g (upd iM1 3 1) aM1 (up3L lM1 5 0 0)) 42 [(2, .int 0), (1, .int 0), (0, .ref (r 0))] []
  exact g_vret hk hR ⟨rfl, rfl⟩ dX12_cut_42
def wo_m124_X12_plain : List Cond := [Cond.fieldLink RX12 43 "WarpDeskModel" "placesTold" "[I", Cond.fieldLink RX12 49 "WarpDeskModel" "queries" "[I", Cond.fieldLink RX12 58 "WarpDeskModel" "bandTold" "[I", Cond.fieldLink RX12 61 "WarpDeskModel" "levelTold" "[I", Cond.fieldLink RX12 64 "WarpDeskModel" "costTold" "[I", Cond.fieldLink RX12 67 "WarpDeskModel" "apartTold" "[I"]
def wz_m124_X12_plain : List Cond := .code yX12_plain cX12_plain 2 none :: (wo_m124_X12_plain ++ (wsX120 ++ ([] : List Cond)))
theorem zg_m124_X12_plain : ∀ w ∈ wz_m124_X12_plain, goodWord w = true := zg_cons rfl (zg_app (by decide +kernel) (zg_app zgU_wsX120 zg_nil))
theorem zi_m124_X12_plain : ∀ w ∈ wz_m124_X12_plain, w ∈ lw_tbl := zi_cons zw_1364 (zi_app (zi_cons zw_1404 (zi_cons zw_1406 (zi_cons zw_1409 (zi_cons zw_1410 (zi_cons zw_1411 (zi_cons zw_1412 zi_nil)))))) (zi_app inX12 zi_nil))
set_option maxHeartbeats 4000000 in
set_option maxRecDepth 100000 in
theorem m124_X12_plain (l : Launch) (D : va_G) (zt : Nat × Nat × Nat) (g : Nat → ClassId) (r : Nat → Nat) : GM l D zt (tyM g) yX12_plain wz_m124_X12_plain ({ frames := 0, cells := 0, slots := 0, locals := 0 } : Room) [.ref (r 0), .int 1] (wM r g (upd (upd (upd iM1 3 1) 11 (-2)) 16 1) aM1 (up3L lM1 5 0 0)) (fun v _ w' => v = none ∧ w' = wM r g (upd (upd (upd iM1 3 1) 11 (-2)) 16 1) aM1 (up3L lM1 5 0 0)) 0 0 := by
  refine GM.of (cc := cX12_plain) (maxL := 2) (ret := none) (own := RX12) (lv := [(0, .ref (r 0)), (1, .int 1)]) (by decide) rfl rfl (Nat.le_of_ble_eq_true rfl) rfl (fun κ sz hk hR hN => ?_)
  have hin12 : ∀ w ∈ u_ws RX12 TX12 55, w ∈ wz_m124_X12_plain := fun w h => (List.mem_cons_of_mem _ (List.mem_append_right _ (List.mem_append_left _ h)))
  refine g_aload_n hk dX12_plain_0 rfl ?_
  refine gM_r0_26 hk hin12 (List.mem_cons_of_mem _ (List.mem_append_left _ (List.mem_of_getElem? (i := 0) rfl))) dX12_plain_1 ?_
  refine g_iload_n hk dX12_plain_4 rfl ?_
  refine g_iconst (v := 0) hk dX12_plain_5 (by decide) ?_
  refine sM_8 (j := 1) hk (vp_in_iff.mpr ⟨by decide, by decide⟩) (by decide) dX12_plain_6 ?_
  refine gM_same rfl ?_
  refine g_aload_n hk dX12_plain_7 rfl ?_
  refine gM_r0_28 hk hin12 (List.mem_cons_of_mem _ (List.mem_append_left _ (List.mem_of_getElem? (i := 1) rfl))) dX12_plain_8 ?_
  refine g_iload_n hk dX12_plain_11 rfl ?_
  refine g_iconst (v := 0) hk dX12_plain_12 (by decide) ?_
  refine sM_10 (j := 1) hk (vp_in_iff.mpr ⟨by decide, by decide⟩) (by decide) dX12_plain_13 ?_
  refine gM_same rfl ?_
  refine g_aload_n hk dX12_plain_14 rfl ?_
  refine gM_r0_31 hk hin12 (List.mem_cons_of_mem _ (List.mem_append_left _ (List.mem_of_getElem? (i := 2) rfl))) dX12_plain_15 ?_
  refine g_iload_n hk dX12_plain_18 rfl ?_
  refine g_iconst (v := 2) hk dX12_plain_19 (by decide) ?_
  refine sM_13 (j := 1) hk (vp_in_iff.mpr ⟨by decide, by decide⟩) (by decide) dX12_plain_20 ?_
  refine gM_same rfl ?_
  refine g_aload_n hk dX12_plain_21 rfl ?_
  refine gM_r0_32 hk hin12 (List.mem_cons_of_mem _ (List.mem_append_left _ (List.mem_of_getElem? (i := 3) rfl))) dX12_plain_22 ?_
  refine g_iload_n hk dX12_plain_25 rfl ?_
  refine g_iconst (v := 0) hk dX12_plain_26 (by decide) ?_
  refine sM_14 (j := 1) hk (vp_in_iff.mpr ⟨by decide, by decide⟩) (by decide) dX12_plain_27 ?_
  refine gM_same rfl ?_
  refine g_aload_n hk dX12_plain_28 rfl ?_
  refine gM_r0_33 hk hin12 (List.mem_cons_of_mem _ (List.mem_append_left _ (List.mem_of_getElem? (i := 4) rfl))) dX12_plain_29 ?_
  refine g_iload_n hk dX12_plain_32 rfl ?_
  refine g_iconst (v := 0) hk dX12_plain_33 (by decide) ?_
  refine sM_15 (j := 1) hk (vp_in_iff.mpr ⟨by decide, by decide⟩) (by decide) dX12_plain_34 ?_
  refine gM_same rfl ?_
  refine g_aload_n hk dX12_plain_35 rfl ?_
  refine gM_r0_34 hk hin12 (List.mem_cons_of_mem _ (List.mem_append_left _ (List.mem_of_getElem? (i := 5) rfl))) dX12_plain_36 ?_
  refine g_iload_n hk dX12_plain_39 rfl ?_
  refine g_bipush (v := 8) hk dX12_plain_40 (by decide) ?_
  refine sM_16 (j := 1) hk (vp_in_iff.mpr ⟨by decide, by decide⟩) (by decide) dX12_plain_42 ?_
  refine gM_same rfl ?_
  exact g_vret hk hR ⟨rfl, rfl⟩ dX12_plain_43
def wo_m125_X12_is : List Cond := [Cond.fieldLink RX12 161 "WarpDeskModel" "fault" "I", Cond.fieldLink RX12 20 "WarpDeskModel" "tKind" "[I", Cond.fieldLink RX12 164 "WarpDeskModel" "t" "I"]
def wz_m125_X12_is : List Cond := .code yX12_is cX12_is 2 (some .boolean) :: (wo_m125_X12_is ++ (wsX120 ++ ([] : List Cond)))
theorem zg_m125_X12_is : ∀ w ∈ wz_m125_X12_is, goodWord w = true := zg_cons rfl (zg_app (by decide +kernel) (zg_app zgU_wsX120 zg_nil))
theorem zi_m125_X12_is : ∀ w ∈ wz_m125_X12_is, w ∈ lw_tbl := zi_cons zw_1586 (zi_app (zi_cons zw_1391 (zi_cons zw_1384 (zi_cons zw_1390 zi_nil))) (zi_app inX12 zi_nil))
set_option maxHeartbeats 4000000 in
set_option maxRecDepth 100000 in
theorem m125_X12_is (l : Launch) (D : va_G) (zt : Nat × Nat × Nat) (g : Nat → ClassId) (r : Nat → Nat) : GM l D zt (tyM g) yX12_is wz_m125_X12_is ({ frames := 0, cells := 0, slots := 0, locals := 0 } : Room) [.ref (r 0), .int 0] (wM r g (upd (upd (upd iM1 3 1) 11 (-2)) 16 1) aM1 (up3L lM1 5 0 0)) (fun v _ w' => v = some (.int 1) ∧ w' = wM r g (upd (upd (upd iM1 3 1) 11 (-2)) 16 1) aM1 (up3L lM1 5 0 0)) 0 0 := by
  refine GM.of (cc := cX12_is) (maxL := 2) (ret := (some .boolean)) (own := RX12) (lv := [(0, .ref (r 0)), (1, .int 0)]) (by decide) rfl rfl (Nat.le_of_ble_eq_true rfl) rfl (fun κ sz hk hR hN => ?_)
  have hin12 : ∀ w ∈ u_ws RX12 TX12 55, w ∈ wz_m125_X12_is := fun w h => (List.mem_cons_of_mem _ (List.mem_append_right _ (List.mem_append_left _ h)))
  refine g_aload_n hk dX12_is_0 rfl ?_
  refine gM_i6 (v := 0) hk hin12 (List.mem_cons_of_mem _ (List.mem_append_left _ (List.mem_of_getElem? (i := 0) rfl))) dX12_is_1 rfl ?_
  refine g_if_ne (tgt := 24) (a := 0) hk dX12_is_4 (by decide) rfl (fun z9 => absurd z9 (show ¬ ((0 : Int) ≠ (0 : Int)) from by decide)) (fun _ => ?_)
  refine g_aload_n hk dX12_is_7 rfl ?_
  refine gM_r0_5 hk hin12 (List.mem_cons_of_mem _ (List.mem_append_left _ (List.mem_of_getElem? (i := 1) rfl))) dX12_is_8 ?_
  refine g_aload_n hk dX12_is_11 rfl ?_
  refine gM_i4 (v := 0) hk hin12 (List.mem_cons_of_mem _ (List.mem_append_left _ (List.mem_of_getElem? (i := 2) rfl))) dX12_is_12 rfl ?_
  refine lM_2 (v := 0) hk (vp_in_iff.mpr ⟨by decide, by decide⟩) rfl dX12_is_15 ?_
  refine g_iload_n hk dX12_is_16 rfl ?_
  refine g_icmp_ne (tgt := 24) (a := 0) (b := 0) hk dX12_is_17 (by decide) rfl rfl (fun z9 => absurd z9 (show ¬ ((0 : Int) ≠ (0 : Int)) from by decide)) (fun _ => ?_)
  refine g_iconst (v := 1) hk dX12_is_20 (by decide) ?_
  refine g_goto (tgt := 25) hk dX12_is_21 (by decide) ?_
  exact g_iret hk hR rfl ⟨rfl, rfl⟩ dX12_is_25
def wo_m126_X12_begins : List Cond := [Cond.fieldLink RX12 73 "WarpDeskModel" "row" "[I", Cond.fieldLink RX12 43 "WarpDeskModel" "placesTold" "[I", Cond.fieldLink RX12 197 "WarpDeskModel" "live" "I", Cond.fieldLink RX12 58 "WarpDeskModel" "bandTold" "[I", Cond.fieldLink RX12 61 "WarpDeskModel" "levelTold" "[I", Cond.fieldLink RX12 64 "WarpDeskModel" "costTold" "[I", Cond.fieldLink RX12 67 "WarpDeskModel" "apartTold" "[I"]
def wz_m126_X12_begins : List Cond := .code yX12_begins cX12_begins 2 none :: (wo_m126_X12_begins ++ (wsX120 ++ ([] : List Cond)))
theorem zg_m126_X12_begins : ∀ w ∈ wz_m126_X12_begins, goodWord w = true := zg_cons rfl (zg_app (by decide +kernel) (zg_app zgU_wsX120 zg_nil))
theorem zi_m126_X12_begins : ∀ w ∈ wz_m126_X12_begins, w ∈ lw_tbl := zi_cons zw_1375 (zi_app (zi_cons zw_1414 (zi_cons zw_1404 (zi_cons zw_1400 (zi_cons zw_1409 (zi_cons zw_1410 (zi_cons zw_1411 (zi_cons zw_1412 zi_nil))))))) (zi_app inX12 zi_nil))
set_option maxHeartbeats 4000000 in
set_option maxRecDepth 100000 in
theorem m126_X12_begins (l : Launch) (D : va_G) (zt : Nat × Nat × Nat) (g : Nat → ClassId) (r : Nat → Nat) : GM l D zt (tyM g) yX12_begins wz_m126_X12_begins ({ frames := 0, cells := 0, slots := 0, locals := 0 } : Room) [.ref (r 0)] (wM r g (upd (upd (upd (upd iM1 3 1) 11 (-2)) 16 1) 15 1) aM1 (up3L lM1 5 0 0)) (fun v _ w' => v = none ∧ w' = wM r g (upd (upd (upd (upd iM1 3 1) 11 (-2)) 16 1) 15 1) (up3 (up3 (up2 aM1 18 (cp (fun _ => 0) (aM1 18) 165)) 18 161 2) 18 164 8) (up3L lM1 5 0 0)) 0 0 := by
  refine GM.of (cc := cX12_begins) (maxL := 2) (ret := none) (own := RX12) (lv := [(0, .ref (r 0))]) (by decide) rfl rfl (Nat.le_of_ble_eq_true rfl) rfl (fun κ sz hk hR hN => ?_)
  have hin12 : ∀ w ∈ u_ws RX12 TX12 55, w ∈ wz_m126_X12_begins := fun w h => (List.mem_cons_of_mem _ (List.mem_append_right _ (List.mem_append_left _ h)))
  refine g_iconst (v := 0) hk dX12_begins_0 (by decide) ?_
  refine g_istore_n (lv' := [(1, .int 0), (0, .ref (r 0))]) hk dX12_begins_1 (by decide) rfl ?_
  have lp340 : ∀ (n342 k341 : Nat), k341 + n342 = 165 → GW κ 2 0 0 (wM r g (upd (upd (upd (upd iM1 3 1) 11 (-2)) 16 1) 15 1) (up2 aM1 18 (cp (fun _ => 0) (aM1 18) k341)) (up3L lM1 5 0 0)) 2 [(1, .int (nI k341)), (0, .ref (r 0))] [] := by
    intro n342
    induction n342 with
    | zero =>
      intro k341 hk341
      obtain rfl : k341 = 165 := by omega
      show GW κ 2 0 0 (wM r g (upd (upd (upd (upd iM1 3 1) 11 (-2)) 16 1) 15 1) (up2 aM1 18 (cp (fun _ => 0) (aM1 18) 165)) (up3L lM1 5 0 0)) 2 [(1, .int 165), (0, .ref (r 0))] []
      refine g_iload_n hk dX12_begins_2 rfl ?_
      refine g_sipush (v := 165) hk dX12_begins_3 (by decide) ?_
      refine g_icmp_ge (tgt := 22) (a := 165) (b := 165) hk dX12_begins_6 (by decide) rfl rfl (fun _ => ?_) (fun z9 => absurd (show (165 : Int) ≤ (165 : Int) from by decide) z9)
      refine g_aload_n hk dX12_begins_22 rfl ?_
      refine gM_r0_36 hk hin12 (List.mem_cons_of_mem _ (List.mem_append_left _ (List.mem_of_getElem? (i := 0) rfl))) dX12_begins_23 ?_
      refine g_iconst (v := 0) hk dX12_begins_26 (by decide) ?_
      refine g_aload_n hk dX12_begins_27 rfl ?_
      refine gM_r0_26 hk hin12 (List.mem_cons_of_mem _ (List.mem_append_left _ (List.mem_of_getElem? (i := 1) rfl))) dX12_begins_28 ?_
      refine g_aload_n hk dX12_begins_31 rfl ?_
      refine gM_i15 (v := 1) hk hin12 (List.mem_cons_of_mem _ (List.mem_append_left _ (List.mem_of_getElem? (i := 2) rfl))) dX12_begins_32 rfl ?_
      refine lM_8 (v := 0) hk (vp_in_iff.mpr ⟨by decide, by decide⟩) rfl dX12_begins_35 ?_
      refine sM_18 (j := 0) hk (vp_in_iff.mpr ⟨by decide, by decide⟩) (by decide) dX12_begins_36 ?_
      refine gM_same rfl ?_
      refine g_iconst (v := 0) hk dX12_begins_37 (by decide) ?_
      refine g_istore_n (lv' := [(1, .int 0), (0, .ref (r 0))]) hk dX12_begins_38 (by decide) rfl ?_
      refine g_iload_n hk dX12_begins_39 rfl ?_
      refine g_aload_n hk dX12_begins_40 rfl ?_
      refine gM_r0_36 hk hin12 (List.mem_cons_of_mem _ (List.mem_append_left _ (List.mem_of_getElem? (i := 0) rfl))) dX12_begins_41 ?_
      refine g_iconst (v := 0) hk dX12_begins_44 (by decide) ?_
      refine lM_18 (v := 0) hk (vp_in_iff.mpr ⟨by decide, by decide⟩) rfl dX12_begins_45 ?_
      refine g_icmp_ge (tgt := 78) (a := 0) (b := 0) hk dX12_begins_46 (by decide) rfl rfl (fun _ => ?_) (fun z9 => absurd (show (0 : Int) ≤ (0 : Int) from by decide) z9)
      refine g_aload_n hk dX12_begins_78 rfl ?_
      refine gM_r0_36 hk hin12 (List.mem_cons_of_mem _ (List.mem_append_left _ (List.mem_of_getElem? (i := 0) rfl))) dX12_begins_79 ?_
      refine g_sipush (v := 161) hk dX12_begins_82 (by decide) ?_
      refine g_aload_n hk dX12_begins_85 rfl ?_
      refine gM_r0_31 hk hin12 (List.mem_cons_of_mem _ (List.mem_append_left _ (List.mem_of_getElem? (i := 3) rfl))) dX12_begins_86 ?_
      refine g_aload_n hk dX12_begins_89 rfl ?_
      refine gM_i15 (v := 1) hk hin12 (List.mem_cons_of_mem _ (List.mem_append_left _ (List.mem_of_getElem? (i := 2) rfl))) dX12_begins_90 rfl ?_
      refine lM_13 (v := 2) hk (vp_in_iff.mpr ⟨by decide, by decide⟩) rfl dX12_begins_93 ?_
      refine sM_18 (j := 161) hk (vp_in_iff.mpr ⟨by decide, by decide⟩) (by decide) dX12_begins_94 ?_
      refine g_aload_n hk dX12_begins_95 rfl ?_
      refine gM_r0_36 hk hin12 (List.mem_cons_of_mem _ (List.mem_append_left _ (List.mem_of_getElem? (i := 0) rfl))) dX12_begins_96 ?_
      refine g_sipush (v := 162) hk dX12_begins_99 (by decide) ?_
      refine g_aload_n hk dX12_begins_102 rfl ?_
      refine gM_r0_32 hk hin12 (List.mem_cons_of_mem _ (List.mem_append_left _ (List.mem_of_getElem? (i := 4) rfl))) dX12_begins_103 ?_
      refine g_aload_n hk dX12_begins_106 rfl ?_
      refine gM_i15 (v := 1) hk hin12 (List.mem_cons_of_mem _ (List.mem_append_left _ (List.mem_of_getElem? (i := 2) rfl))) dX12_begins_107 rfl ?_
      refine lM_14 (v := 0) hk (vp_in_iff.mpr ⟨by decide, by decide⟩) rfl dX12_begins_110 ?_
      refine sM_18 (j := 162) hk (vp_in_iff.mpr ⟨by decide, by decide⟩) (by decide) dX12_begins_111 ?_
      refine gM_same rfl ?_
      refine g_aload_n hk dX12_begins_112 rfl ?_
      refine gM_r0_36 hk hin12 (List.mem_cons_of_mem _ (List.mem_append_left _ (List.mem_of_getElem? (i := 0) rfl))) dX12_begins_113 ?_
      refine g_sipush (v := 163) hk dX12_begins_116 (by decide) ?_
      refine g_aload_n hk dX12_begins_119 rfl ?_
      refine gM_r0_33 hk hin12 (List.mem_cons_of_mem _ (List.mem_append_left _ (List.mem_of_getElem? (i := 5) rfl))) dX12_begins_120 ?_
      refine g_aload_n hk dX12_begins_123 rfl ?_
      refine gM_i15 (v := 1) hk hin12 (List.mem_cons_of_mem _ (List.mem_append_left _ (List.mem_of_getElem? (i := 2) rfl))) dX12_begins_124 rfl ?_
      refine lM_15 (v := 0) hk (vp_in_iff.mpr ⟨by decide, by decide⟩) rfl dX12_begins_127 ?_
      refine sM_18 (j := 163) hk (vp_in_iff.mpr ⟨by decide, by decide⟩) (by decide) dX12_begins_128 ?_
      refine gM_same rfl ?_
      refine g_aload_n hk dX12_begins_129 rfl ?_
      refine gM_r0_36 hk hin12 (List.mem_cons_of_mem _ (List.mem_append_left _ (List.mem_of_getElem? (i := 0) rfl))) dX12_begins_130 ?_
      refine g_sipush (v := 164) hk dX12_begins_133 (by decide) ?_
      refine g_aload_n hk dX12_begins_136 rfl ?_
      refine gM_r0_34 hk hin12 (List.mem_cons_of_mem _ (List.mem_append_left _ (List.mem_of_getElem? (i := 6) rfl))) dX12_begins_137 ?_
      refine g_aload_n hk dX12_begins_140 rfl ?_
      refine gM_i15 (v := 1) hk hin12 (List.mem_cons_of_mem _ (List.mem_append_left _ (List.mem_of_getElem? (i := 2) rfl))) dX12_begins_141 rfl ?_
      refine lM_16 (v := 8) hk (vp_in_iff.mpr ⟨by decide, by decide⟩) rfl dX12_begins_144 ?_
      refine sM_18 (j := 164) hk (vp_in_iff.mpr ⟨by decide, by decide⟩) (by decide) dX12_begins_145 ?_
      exact g_vret hk hR ⟨rfl, rfl⟩ dX12_begins_146
    | succ n342 ih =>
      intro k341 hk341
      obtain ⟨x343, ex343⟩ : ∃ x : Int32, x = nI k341 := ⟨_, rfl⟩
      have hx343 : x343.toInt = (k341 : Int) := by rw [ex343]; exact nI_toInt (by omega)
      rw [← ex343]
      refine g_iload_n hk dX12_begins_2 rfl ?_
      refine g_sipush (v := 165) hk dX12_begins_3 (by decide) ?_
      refine g_icmp_ge (tgt := 22) (a := x343.toInt) (b := 165) hk dX12_begins_6 (by decide) rfl rfl (fun z9 => absurd z9 (show ¬ (165 ≤ x343.toInt) from by omega)) (fun _ => ?_)
      refine g_aload_n hk dX12_begins_9 rfl ?_
      refine gM_r0_36 hk hin12 (List.mem_cons_of_mem _ (List.mem_append_left _ (List.mem_of_getElem? (i := 0) rfl))) dX12_begins_10 ?_
      refine g_iload_n hk dX12_begins_13 rfl ?_
      refine g_iconst (v := 0) hk dX12_begins_14 (by decide) ?_
      refine sM_18 (j := k341) hk (vp_in_iff.mpr ⟨by omega, by omega⟩) (by rw [ex343]; exact nI_clamp (by omega)) dX12_begins_15 ?_
      obtain ⟨y344, ey344⟩ : ∃ y : Int32, y = x343 + Int32.ofInt 1 := ⟨_, rfl⟩
      refine g_iinc (v := y344) (lv' := [(1, .int y344), (0, .ref (r 0))]) hk 0 dX12_begins_16 rfl ey344.symm (by decide) rfl ?_
      have fy344 : y344 = nI (k341 + 1) := by rw [ey344, ex343]; exact nI_1 (k341)
      refine g_goto (tgt := 2) hk dX12_begins_19 (by decide) ?_
      rw [fy344]
      have eW : wM r g (upd (upd (upd (upd iM1 3 1) 11 (-2)) 16 1) 15 1) (up3 (up2 aM1 18 (cp (fun _ => 0) (aM1 18) k341)) 18 (k341) 0) (up3L lM1 5 0 0) = wM r g (upd (upd (upd (upd iM1 3 1) 11 (-2)) 16 1) 15 1) (up2 aM1 18 (cp (fun _ => 0) (aM1 18) (k341 + 1))) (up3L lM1 5 0 0) := by rw [← cp_s (fun _ => 0) (aM1 18) (k341)]; rfl
      rw [eW]
      exact g_lv (List.forall_mem_cons.mpr ⟨List.mem_of_getElem? (i := 0) rfl, (List.forall_mem_cons.mpr ⟨List.mem_of_getElem? (i := 1) rfl, (fun _ h => absurd h List.not_mem_nil)⟩)⟩) (ih (k341 + 1) (by omega))
  exact lp340 165 0 (by omega)
def wo_m127_X12_keepsRow : List Cond := [Cond.fieldLink RX12 70 "WarpDeskModel" "now" "[I", Cond.fieldLink RX12 73 "WarpDeskModel" "row" "[I"]
def wz_m127_X12_keepsRow : List Cond := .code yX12_keepsRow cX12_keepsRow 2 none :: (wo_m127_X12_keepsRow ++ (wsX120 ++ ([] : List Cond)))
theorem zg_m127_X12_keepsRow : ∀ w ∈ wz_m127_X12_keepsRow, goodWord w = true := zg_cons rfl (zg_app (by decide +kernel) (zg_app zgU_wsX120 zg_nil))
theorem zi_m127_X12_keepsRow : ∀ w ∈ wz_m127_X12_keepsRow, w ∈ lw_tbl := zi_cons zw_1379 (zi_app (zi_cons zw_1413 (zi_cons zw_1414 zi_nil)) (zi_app inX12 zi_nil))
set_option maxHeartbeats 4000000 in
set_option maxRecDepth 100000 in
theorem m127_X12_keepsRow (l : Launch) (D : va_G) (zt : Nat × Nat × Nat) (g : Nat → ClassId) (r : Nat → Nat) : GM l D zt (tyM g) yX12_keepsRow wz_m127_X12_keepsRow ({ frames := 0, cells := 0, slots := 0, locals := 0 } : Room) [.ref (r 0)] (wM r g (upd (upd (upd (upd iM1 3 1) 11 (-2)) 16 1) 15 1) (up3 (up3 (up2 aM1 18 (cp (fun _ => 0) (aM1 18) 165)) 18 161 2) 18 164 8) (up3L lM1 5 0 0)) (fun v _ w' => v = none ∧ w' = wM r g (upd (upd (upd (upd iM1 3 1) 11 (-2)) 16 1) 15 1) (up2 (up3 (up3 (up2 aM1 18 (cp (fun _ => 0) (aM1 18) 165)) 18 161 2) 18 164 8) 17 (cp ((up3 (up3 (up2 aM1 18 (cp (fun _ => 0) (aM1 18) 165)) 18 161 2) 18 164 8) 18) ((up3 (up3 (up2 aM1 18 (cp (fun _ => 0) (aM1 18) 165)) 18 161 2) 18 164 8) 17) 165)) (up3L lM1 5 0 0)) 0 0 := by
  refine GM.of (cc := cX12_keepsRow) (maxL := 2) (ret := none) (own := RX12) (lv := [(0, .ref (r 0))]) (by decide) rfl rfl (Nat.le_of_ble_eq_true rfl) rfl (fun κ sz hk hR hN => ?_)
  have hin12 : ∀ w ∈ u_ws RX12 TX12 55, w ∈ wz_m127_X12_keepsRow := fun w h => (List.mem_cons_of_mem _ (List.mem_append_right _ (List.mem_append_left _ h)))
  refine g_iconst (v := 0) hk dX12_keepsRow_0 (by decide) ?_
  refine g_istore_n (lv' := [(1, .int 0), (0, .ref (r 0))]) hk dX12_keepsRow_1 (by decide) rfl ?_
  have lp345 : ∀ (n347 k346 : Nat), k346 + n347 = 165 → GW κ 2 0 0 (wM r g (upd (upd (upd (upd iM1 3 1) 11 (-2)) 16 1) 15 1) (up2 (up3 (up3 (up2 aM1 18 (cp (fun _ => 0) (aM1 18) 165)) 18 161 2) 18 164 8) 17 (cp ((up3 (up3 (up2 aM1 18 (cp (fun _ => 0) (aM1 18) 165)) 18 161 2) 18 164 8) 18) ((up3 (up3 (up2 aM1 18 (cp (fun _ => 0) (aM1 18) 165)) 18 161 2) 18 164 8) 17) k346)) (up3L lM1 5 0 0)) 2 [(1, .int (nI k346)), (0, .ref (r 0))] [] := by
    intro n347
    induction n347 with
    | zero =>
      intro k346 hk346
      obtain rfl : k346 = 165 := by omega
      show GW κ 2 0 0 (wM r g (upd (upd (upd (upd iM1 3 1) 11 (-2)) 16 1) 15 1) (up2 (up3 (up3 (up2 aM1 18 (cp (fun _ => 0) (aM1 18) 165)) 18 161 2) 18 164 8) 17 (cp ((up3 (up3 (up2 aM1 18 (cp (fun _ => 0) (aM1 18) 165)) 18 161 2) 18 164 8) 18) ((up3 (up3 (up2 aM1 18 (cp (fun _ => 0) (aM1 18) 165)) 18 161 2) 18 164 8) 17) 165)) (up3L lM1 5 0 0)) 2 [(1, .int 165), (0, .ref (r 0))] []
      refine g_iload_n hk dX12_keepsRow_2 rfl ?_
      refine g_sipush (v := 165) hk dX12_keepsRow_3 (by decide) ?_
      refine g_icmp_ge (tgt := 27) (a := 165) (b := 165) hk dX12_keepsRow_6 (by decide) rfl rfl (fun _ => ?_) (fun z9 => absurd (show (165 : Int) ≤ (165 : Int) from by decide) z9)
      exact g_vret hk hR ⟨rfl, rfl⟩ dX12_keepsRow_27
    | succ n347 ih =>
      intro k346 hk346
      obtain ⟨x348, ex348⟩ : ∃ x : Int32, x = nI k346 := ⟨_, rfl⟩
      have hx348 : x348.toInt = (k346 : Int) := by rw [ex348]; exact nI_toInt (by omega)
      rw [← ex348]
      refine g_iload_n hk dX12_keepsRow_2 rfl ?_
      refine g_sipush (v := 165) hk dX12_keepsRow_3 (by decide) ?_
      refine g_icmp_ge (tgt := 27) (a := x348.toInt) (b := 165) hk dX12_keepsRow_6 (by decide) rfl rfl (fun z9 => absurd z9 (show ¬ (165 ≤ x348.toInt) from by omega)) (fun _ => ?_)
      refine g_aload_n hk dX12_keepsRow_9 rfl ?_
      refine gM_r0_35 hk hin12 (List.mem_cons_of_mem _ (List.mem_append_left _ (List.mem_of_getElem? (i := 0) rfl))) dX12_keepsRow_10 ?_
      refine g_iload_n hk dX12_keepsRow_13 rfl ?_
      refine g_aload_n hk dX12_keepsRow_14 rfl ?_
      refine gM_r0_36 hk hin12 (List.mem_cons_of_mem _ (List.mem_append_left _ (List.mem_of_getElem? (i := 1) rfl))) dX12_keepsRow_15 ?_
      refine g_iload_n hk dX12_keepsRow_18 rfl ?_
      refine lM_18 (v := ((up2 (up3 (up3 (up2 aM1 18 (cp (fun _ => 0) (aM1 18) 165)) 18 161 2) 18 164 8) 17 (cp ((up3 (up3 (up2 aM1 18 (cp (fun _ => 0) (aM1 18) 165)) 18 161 2) 18 164 8) 18) ((up3 (up3 (up2 aM1 18 (cp (fun _ => 0) (aM1 18) 165)) 18 161 2) 18 164 8) 17) k346)) 18 (k346))) hk (vp_in_iff.mpr ⟨by omega, by omega⟩) (by rw [ex348, nI_clamp (by omega)]) dX12_keepsRow_19 ?_
      refine sM_17 (j := k346) hk (vp_in_iff.mpr ⟨by omega, by omega⟩) (by rw [ex348]; exact nI_clamp (by omega)) dX12_keepsRow_20 ?_
      obtain ⟨y349, ey349⟩ : ∃ y : Int32, y = x348 + Int32.ofInt 1 := ⟨_, rfl⟩
      refine g_iinc (v := y349) (lv' := [(1, .int y349), (0, .ref (r 0))]) hk 0 dX12_keepsRow_21 rfl ey349.symm (by decide) rfl ?_
      have fy349 : y349 = nI (k346 + 1) := by rw [ey349, ex348]; exact nI_1 (k346)
      refine g_goto (tgt := 2) hk dX12_keepsRow_24 (by decide) ?_
      rw [fy349]
      have eW : wM r g (upd (upd (upd (upd iM1 3 1) 11 (-2)) 16 1) 15 1) (up3 (up2 (up3 (up3 (up2 aM1 18 (cp (fun _ => 0) (aM1 18) 165)) 18 161 2) 18 164 8) 17 (cp ((up3 (up3 (up2 aM1 18 (cp (fun _ => 0) (aM1 18) 165)) 18 161 2) 18 164 8) 18) ((up3 (up3 (up2 aM1 18 (cp (fun _ => 0) (aM1 18) 165)) 18 161 2) 18 164 8) 17) k346)) 17 (k346) ((up2 (up3 (up3 (up2 aM1 18 (cp (fun _ => 0) (aM1 18) 165)) 18 161 2) 18 164 8) 17 (cp ((up3 (up3 (up2 aM1 18 (cp (fun _ => 0) (aM1 18) 165)) 18 161 2) 18 164 8) 18) ((up3 (up3 (up2 aM1 18 (cp (fun _ => 0) (aM1 18) 165)) 18 161 2) 18 164 8) 17) k346)) 18 (k346))) (up3L lM1 5 0 0) = wM r g (upd (upd (upd (upd iM1 3 1) 11 (-2)) 16 1) 15 1) (up2 (up3 (up3 (up2 aM1 18 (cp (fun _ => 0) (aM1 18) 165)) 18 161 2) 18 164 8) 17 (cp ((up3 (up3 (up2 aM1 18 (cp (fun _ => 0) (aM1 18) 165)) 18 161 2) 18 164 8) 18) ((up3 (up3 (up2 aM1 18 (cp (fun _ => 0) (aM1 18) 165)) 18 161 2) 18 164 8) 17) (k346 + 1))) (up3L lM1 5 0 0) := by rw [← cp_s ((up3 (up3 (up2 aM1 18 (cp (fun _ => 0) (aM1 18) 165)) 18 161 2) 18 164 8) 18) ((up3 (up3 (up2 aM1 18 (cp (fun _ => 0) (aM1 18) 165)) 18 161 2) 18 164 8) 17) (k346)]; rfl
      rw [eW]
      exact g_lv (List.forall_mem_cons.mpr ⟨List.mem_of_getElem? (i := 0) rfl, (List.forall_mem_cons.mpr ⟨List.mem_of_getElem? (i := 1) rfl, (fun _ h => absurd h List.not_mem_nil)⟩)⟩) (ih (k346 + 1) (by omega))
  exact lp345 165 0 (by omega)
def wo_m120_X12_read : List Cond := [Cond.fieldLink RX12 124 "WarpDeskModel" "taped" "I", Cond.fieldLink RX12 130 "WarpDeskModel" "size" "I", Cond.methodLink RX12 194 yX12_cut, Cond.instanceMethod yX12_cut, Cond.selects RX12 yX12_cut yX12_cut, Cond.initialized RX12, Cond.fieldLink RX12 164 "WarpDeskModel" "t" "I", Cond.fieldLink RX12 161 "WarpDeskModel" "fault" "I", Cond.fieldLink RX12 176 "WarpDeskModel" "worst" "I", Cond.fieldLink RX12 170 "WarpDeskModel" "here" "I", Cond.fieldLink RX12 197 "WarpDeskModel" "live" "I", Cond.fieldLink RX12 200 "WarpDeskModel" "side" "I", Cond.fieldLink RX12 203 "WarpDeskModel" "names" "I", Cond.methodLink RX12 107 yX12_plain, Cond.instanceMethod yX12_plain, Cond.selects RX12 yX12_plain yX12_plain, Cond.methodLink RX12 188 yX12_is, Cond.instanceMethod yX12_is, Cond.selects RX12 yX12_is yX12_is, Cond.fieldLink RX12 37 "WarpDeskModel" "place" "I", Cond.fieldLink RX12 111 "WarpDeskModel" "cause" "I", Cond.methodLink RX12 118 yX12_begins, Cond.instanceMethod yX12_begins, Cond.selects RX12 yX12_begins yX12_begins, Cond.methodLink RX12 121 yX12_keepsRow, Cond.instanceMethod yX12_keepsRow, Cond.selects RX12 yX12_keepsRow yX12_keepsRow, Cond.fieldLink RX12 209 "WarpDeskModel" "undos" "I", Cond.fieldLink RX12 100 "WarpDeskModel" "isHeld" "[Z"]
def wz_m120_X12_read : List Cond := .code yX12_read cX12_read 2 (some .int) :: (wo_m120_X12_read ++ (wsX120 ++ (wz_m121_X12_cut ++ (wz_m124_X12_plain ++ (wz_m125_X12_is ++ (wz_m126_X12_begins ++ (wz_m127_X12_keepsRow ++ ([] : List Cond))))))))
theorem zg_m120_X12_read : ∀ w ∈ wz_m120_X12_read, goodWord w = true := zg_cons rfl (zg_app (by decide +kernel) (zg_app zgU_wsX120 (zg_app zg_m121_X12_cut (zg_app zg_m124_X12_plain (zg_app zg_m125_X12_is (zg_app zg_m126_X12_begins (zg_app zg_m127_X12_keepsRow zg_nil)))))))
theorem zi_m120_X12_read : ∀ w ∈ wz_m120_X12_read, w ∈ lw_tbl := zi_cons zw_1560 (zi_app (zi_cons zw_1381 (zi_cons zw_1383 (zi_cons zw_1561 (zi_cons zw_1563 (zi_cons zw_48 (zi_cons zw_115 (zi_cons zw_1390 (zi_cons zw_1391 (zi_cons zw_1393 (zi_cons zw_1396 (zi_cons zw_1400 (zi_cons zw_1401 (zi_cons zw_1402 (zi_cons zw_1361 (zi_cons zw_1363 (zi_cons zw_44 (zi_cons zw_1583 (zi_cons zw_1585 (zi_cons zw_52 (zi_cons zw_1395 (zi_cons zw_1399 (zi_cons zw_1372 (zi_cons zw_1374 (zi_cons zw_45 (zi_cons zw_1376 (zi_cons zw_1378 (zi_cons zw_46 (zi_cons zw_1422 (zi_cons zw_1431 zi_nil))))))))))))))))))))))))))))) (zi_app inX12 (zi_app zi_m121_X12_cut (zi_app zi_m124_X12_plain (zi_app zi_m125_X12_is (zi_app zi_m126_X12_begins (zi_app zi_m127_X12_keepsRow zi_nil)))))))
set_option maxHeartbeats 4000000 in
set_option maxRecDepth 100000 in
theorem m120_X12_read (l : Launch) (D : va_G) (zt : Nat × Nat × Nat) (g : Nat → ClassId) (r : Nat → Nat) : GM l D zt (tyM g) yX12_read wz_m120_X12_read ({ frames := 2, cells := 0, slots := 0, locals := 52 } : Room) [.ref (r 0)] (wM r g iM1 aM1 lM1) (fun v _ w' => v = some (.int 0) ∧ w' = wM r g (upd (upd (upd (upd iM1 3 1) 11 (-2)) 16 1) 15 1) (up2 (up3 (up3 (up2 aM1 18 (cp (fun _ => 0) (aM1 18) 165)) 18 161 2) 18 164 8) 17 (cp ((up3 (up3 (up2 aM1 18 (cp (fun _ => 0) (aM1 18) 165)) 18 161 2) 18 164 8) 18) ((up3 (up3 (up2 aM1 18 (cp (fun _ => 0) (aM1 18) 165)) 18 161 2) 18 164 8) 17) 165)) (up3L lM1 5 0 0)) 0 0 := by
  refine GM.of (cc := cX12_read) (maxL := 2) (ret := (some .int)) (own := RX12) (lv := [(0, .ref (r 0))]) (by decide) rfl rfl (Nat.le_of_ble_eq_true rfl) rfl (fun κ sz hk hR hN => ?_)
  have hin12 : ∀ w ∈ u_ws RX12 TX12 55, w ∈ wz_m120_X12_read := fun w h => (List.mem_cons_of_mem _ (List.mem_append_right _ (List.mem_append_left _ h)))
  refine g_aload_n hk dX12_read_0 rfl ?_
  refine g_aload_n hk dX12_read_1 rfl ?_
  refine gM_i1 (v := 0) hk hin12 (List.mem_cons_of_mem _ (List.mem_append_left _ (List.mem_of_getElem? (i := 0) rfl))) dX12_read_2 rfl ?_
  refine pM_i2 hk hin12 (List.mem_cons_of_mem _ (List.mem_append_left _ (List.mem_of_getElem? (i := 1) rfl))) dX12_read_5 ?_
  refine gM_sameI rfl ?_
  refine g_iconst (v := 0) hk dX12_read_8 (by decide) ?_
  refine g_istore_n (lv' := [(1, .int 0), (0, .ref (r 0))]) hk dX12_read_9 (by decide) rfl ?_
  refine g_iload_n hk dX12_read_10 rfl ?_
  refine g_aload_n hk dX12_read_11 rfl ?_
  refine gM_i2 (v := 0) hk hin12 (List.mem_cons_of_mem _ (List.mem_append_left _ (List.mem_of_getElem? (i := 1) rfl))) dX12_read_12 rfl ?_
  refine g_icmp_ge (tgt := 36) (a := 0) (b := 0) hk dX12_read_15 (by decide) rfl rfl (fun _ => ?_) (fun z9 => absurd (show (0 : Int) ≤ (0 : Int) from by decide) z9)
  refine g_aload_n hk dX12_read_36 rfl ?_
  refine g_iconst (v := 0) hk dX12_read_37 (by decide) ?_
  refine pM_i1 hk hin12 (List.mem_cons_of_mem _ (List.mem_append_left _ (List.mem_of_getElem? (i := 0) rfl))) dX12_read_38 ?_
  refine gM_sameI rfl ?_
  refine g_aload_n hk dX12_read_41 rfl ?_
  refine g_callV (n := 0) hk (m121_X12_cut l D zt g r) (SP.same _) (fun _ h => h) (gi_V (List.mem_cons_of_mem _ (List.mem_append_left _ (List.mem_of_getElem? (i := 2) rfl))) (List.mem_cons_of_mem _ (List.mem_append_left _ (List.mem_of_getElem? (i := 3) rfl))) (List.mem_cons_of_mem _ (List.mem_append_left _ (List.mem_of_getElem? (i := 4) rfl))) (List.mem_cons_of_mem _ (List.mem_append_left _ (List.mem_of_getElem? (i := 5) rfl))) (gi_sub (fun w h => (List.mem_cons_of_mem _ (List.mem_append_right _ (List.mem_append_right _ (List.mem_append_left _ h))))) zg_m121_X12_cut)) rfl rfl rfl (by decide +kernel) ⟨Nat.le_of_ble_eq_true rfl, Nat.le_of_ble_eq_true rfl⟩ 0 rfl rfl rfl rfl (Nat.le_of_ble_eq_true rfl) ⟨Nat.le_of_ble_eq_true rfl, Nat.le_of_ble_eq_true rfl⟩ dX12_read_42 (fun v ty' w' hp hk' => ?_)
  obtain ⟨rfl, rfl⟩ := hp
  show GW κ 2 0 0 (wM r g (upd iM1 3 1) aM1 (up3L lM1 5 0 0)) 45 [(1, .int 0), (0, .ref (r 0))] []
  refine g_aload_n hk dX12_read_45 rfl ?_
  refine g_iconst (v := 0) hk dX12_read_46 (by decide) ?_
  refine pM_i4 hk hin12 (List.mem_cons_of_mem _ (List.mem_append_left _ (List.mem_of_getElem? (i := 6) rfl))) dX12_read_47 ?_
  refine gM_sameI rfl ?_
  refine g_aload_n hk dX12_read_50 rfl ?_
  refine g_iconst (v := 0) hk dX12_read_51 (by decide) ?_
  refine pM_i6 hk hin12 (List.mem_cons_of_mem _ (List.mem_append_left _ (List.mem_of_getElem? (i := 7) rfl))) dX12_read_52 ?_
  refine gM_sameI rfl ?_
  refine g_aload_n hk dX12_read_55 rfl ?_
  refine g_iconst (v := 0) hk dX12_read_56 (by decide) ?_
  refine pM_i8 hk hin12 (List.mem_cons_of_mem _ (List.mem_append_left _ (List.mem_of_getElem? (i := 8) rfl))) dX12_read_57 ?_
  refine gM_sameI rfl ?_
  refine g_aload_n hk dX12_read_60 rfl ?_
  refine g_bipush (v := (-2)) hk dX12_read_61 (by decide) ?_
  refine pM_i11 hk hin12 (List.mem_cons_of_mem _ (List.mem_append_left _ (List.mem_of_getElem? (i := 9) rfl))) dX12_read_63 ?_
  refine g_aload_n hk dX12_read_66 rfl ?_
  refine g_iconst (v := 1) hk dX12_read_67 (by decide) ?_
  refine g_aload_n hk dX12_read_68 rfl ?_
  refine gM_i15 (v := 0) hk hin12 (List.mem_cons_of_mem _ (List.mem_append_left _ (List.mem_of_getElem? (i := 10) rfl))) dX12_read_69 rfl ?_
  refine g_isub hk dX12_read_72 ?_
  refine g_norm (v := 1) (by decide) ?_
  refine pM_i16 hk hin12 (List.mem_cons_of_mem _ (List.mem_append_left _ (List.mem_of_getElem? (i := 11) rfl))) dX12_read_73 ?_
  refine g_aload_n hk dX12_read_76 rfl ?_
  refine g_iconst (v := 0) hk dX12_read_77 (by decide) ?_
  refine pM_i17 hk hin12 (List.mem_cons_of_mem _ (List.mem_append_left _ (List.mem_of_getElem? (i := 12) rfl))) dX12_read_78 ?_
  refine gM_sameI rfl ?_
  refine g_aload_n hk dX12_read_81 rfl ?_
  refine g_aload_n hk dX12_read_82 rfl ?_
  refine gM_i16 (v := 1) hk hin12 (List.mem_cons_of_mem _ (List.mem_append_left _ (List.mem_of_getElem? (i := 11) rfl))) dX12_read_83 rfl ?_
  refine g_callV (n := 1) hk (m124_X12_plain l D zt g r) (SP.same _) (fun _ h => h) (gi_V (List.mem_cons_of_mem _ (List.mem_append_left _ (List.mem_of_getElem? (i := 13) rfl))) (List.mem_cons_of_mem _ (List.mem_append_left _ (List.mem_of_getElem? (i := 14) rfl))) (List.mem_cons_of_mem _ (List.mem_append_left _ (List.mem_of_getElem? (i := 15) rfl))) (List.mem_cons_of_mem _ (List.mem_append_left _ (List.mem_of_getElem? (i := 5) rfl))) (gi_sub (fun w h => (List.mem_cons_of_mem _ (List.mem_append_right _ (List.mem_append_right _ (List.mem_append_right _ (List.mem_append_left _ h)))))) zg_m124_X12_plain)) rfl rfl rfl (by decide +kernel) ⟨Nat.le_of_ble_eq_true rfl, Nat.le_of_ble_eq_true rfl⟩ 0 rfl rfl rfl rfl (Nat.le_of_ble_eq_true rfl) ⟨Nat.le_of_ble_eq_true rfl, Nat.le_of_ble_eq_true rfl⟩ dX12_read_86 (fun v ty' w' hp hk' => ?_)
  obtain ⟨rfl, rfl⟩ := hp
  show GW κ 2 0 0 (wM r g (upd (upd (upd iM1 3 1) 11 (-2)) 16 1) aM1 (up3L lM1 5 0 0)) 89 [(1, .int 0), (0, .ref (r 0))] []
  refine g_aload_n hk dX12_read_89 rfl ?_
  refine gM_i6 (v := 0) hk hin12 (List.mem_cons_of_mem _ (List.mem_append_left _ (List.mem_of_getElem? (i := 7) rfl))) dX12_read_90 rfl ?_
  refine g_if_ne (tgt := 111) (a := 0) hk dX12_read_93 (by decide) rfl (fun z9 => absurd z9 (show ¬ ((0 : Int) ≠ (0 : Int)) from by decide)) (fun _ => ?_)
  refine g_aload_n hk dX12_read_96 rfl ?_
  refine g_iconst (v := 0) hk dX12_read_97 (by decide) ?_
  refine g_callV (n := 1) hk (m125_X12_is l D zt g r) (SP.same _) (fun _ h => h) (gi_V (List.mem_cons_of_mem _ (List.mem_append_left _ (List.mem_of_getElem? (i := 16) rfl))) (List.mem_cons_of_mem _ (List.mem_append_left _ (List.mem_of_getElem? (i := 17) rfl))) (List.mem_cons_of_mem _ (List.mem_append_left _ (List.mem_of_getElem? (i := 18) rfl))) (List.mem_cons_of_mem _ (List.mem_append_left _ (List.mem_of_getElem? (i := 5) rfl))) (gi_sub (fun w h => (List.mem_cons_of_mem _ (List.mem_append_right _ (List.mem_append_right _ (List.mem_append_right _ (List.mem_append_right _ (List.mem_append_left _ h))))))) zg_m125_X12_is)) rfl rfl rfl (by decide +kernel) ⟨Nat.le_of_ble_eq_true rfl, Nat.le_of_ble_eq_true rfl⟩ 0 rfl rfl rfl rfl (Nat.le_of_ble_eq_true rfl) ⟨Nat.le_of_ble_eq_true rfl, Nat.le_of_ble_eq_true rfl⟩ dX12_read_98 (fun v ty' w' hp hk' => ?_)
  obtain ⟨rfl, rfl⟩ := hp
  show GW κ 2 0 0 (wM r g (upd (upd (upd iM1 3 1) 11 (-2)) 16 1) aM1 (up3L lM1 5 0 0)) 101 [(1, .int 0), (0, .ref (r 0))] [.int 1]
  refine g_if_ne (tgt := 111) (a := 1) hk dX12_read_101 (by decide) rfl (fun _ => ?_) (fun z9 => absurd (show (1 : Int) ≠ (0 : Int) from by decide) z9)
  refine g_aload_n hk dX12_read_111 rfl ?_
  refine g_aload_n hk dX12_read_112 rfl ?_
  refine gM_i6 (v := 0) hk hin12 (List.mem_cons_of_mem _ (List.mem_append_left _ (List.mem_of_getElem? (i := 7) rfl))) dX12_read_113 rfl ?_
  refine g_if_le (tgt := 126) (a := 0) hk dX12_read_116 (by decide) rfl (fun _ => ?_) (fun z9 => absurd (show (0 : Int) ≤ (0 : Int) from by decide) z9)
  refine g_aload_n hk dX12_read_126 rfl ?_
  refine gM_i8 (v := 0) hk hin12 (List.mem_cons_of_mem _ (List.mem_append_left _ (List.mem_of_getElem? (i := 8) rfl))) dX12_read_127 rfl ?_
  refine g_if_le (tgt := 140) (a := 0) hk dX12_read_130 (by decide) rfl (fun _ => ?_) (fun z9 => absurd (show (0 : Int) ≤ (0 : Int) from by decide) z9)
  refine g_iconst (v := (-1)) hk dX12_read_140 (by decide) ?_
  refine pM_i10 hk hin12 (List.mem_cons_of_mem _ (List.mem_append_left _ (List.mem_of_getElem? (i := 19) rfl))) dX12_read_141 ?_
  refine gM_sameI rfl ?_
  refine g_aload_n hk dX12_read_144 rfl ?_
  refine g_aload_n hk dX12_read_145 rfl ?_
  refine gM_i6 (v := 0) hk hin12 (List.mem_cons_of_mem _ (List.mem_append_left _ (List.mem_of_getElem? (i := 7) rfl))) dX12_read_146 rfl ?_
  refine g_if_le (tgt := 159) (a := 0) hk dX12_read_149 (by decide) rfl (fun _ => ?_) (fun z9 => absurd (show (0 : Int) ≤ (0 : Int) from by decide) z9)
  refine g_aload_n hk dX12_read_159 rfl ?_
  refine gM_i8 (v := 0) hk hin12 (List.mem_cons_of_mem _ (List.mem_append_left _ (List.mem_of_getElem? (i := 8) rfl))) dX12_read_160 rfl ?_
  refine g_if_le (tgt := 173) (a := 0) hk dX12_read_163 (by decide) rfl (fun _ => ?_) (fun z9 => absurd (show (0 : Int) ≤ (0 : Int) from by decide) z9)
  refine g_iconst (v := (-1)) hk dX12_read_173 (by decide) ?_
  refine pM_i14 hk hin12 (List.mem_cons_of_mem _ (List.mem_append_left _ (List.mem_of_getElem? (i := 20) rfl))) dX12_read_174 ?_
  refine gM_sameI rfl ?_
  refine g_aload_n hk dX12_read_177 rfl ?_
  refine gM_i6 (v := 0) hk hin12 (List.mem_cons_of_mem _ (List.mem_append_left _ (List.mem_of_getElem? (i := 7) rfl))) dX12_read_178 rfl ?_
  refine g_if_le (tgt := 189) (a := 0) hk dX12_read_181 (by decide) rfl (fun _ => ?_) (fun z9 => absurd (show (0 : Int) ≤ (0 : Int) from by decide) z9)
  refine g_aload_n hk dX12_read_189 rfl ?_
  refine gM_i8 (v := 0) hk hin12 (List.mem_cons_of_mem _ (List.mem_append_left _ (List.mem_of_getElem? (i := 8) rfl))) dX12_read_190 rfl ?_
  refine g_if_le (tgt := 201) (a := 0) hk dX12_read_193 (by decide) rfl (fun _ => ?_) (fun z9 => absurd (show (0 : Int) ≤ (0 : Int) from by decide) z9)
  refine g_aload_n hk dX12_read_201 rfl ?_
  refine g_aload_n hk dX12_read_202 rfl ?_
  refine gM_i16 (v := 1) hk hin12 (List.mem_cons_of_mem _ (List.mem_append_left _ (List.mem_of_getElem? (i := 11) rfl))) dX12_read_203 rfl ?_
  refine pM_i15 hk hin12 (List.mem_cons_of_mem _ (List.mem_append_left _ (List.mem_of_getElem? (i := 10) rfl))) dX12_read_206 ?_
  refine g_aload_n hk dX12_read_209 rfl ?_
  refine g_callV (n := 0) hk (m126_X12_begins l D zt g r) (SP.same _) (fun _ h => h) (gi_V (List.mem_cons_of_mem _ (List.mem_append_left _ (List.mem_of_getElem? (i := 21) rfl))) (List.mem_cons_of_mem _ (List.mem_append_left _ (List.mem_of_getElem? (i := 22) rfl))) (List.mem_cons_of_mem _ (List.mem_append_left _ (List.mem_of_getElem? (i := 23) rfl))) (List.mem_cons_of_mem _ (List.mem_append_left _ (List.mem_of_getElem? (i := 5) rfl))) (gi_sub (fun w h => (List.mem_cons_of_mem _ (List.mem_append_right _ (List.mem_append_right _ (List.mem_append_right _ (List.mem_append_right _ (List.mem_append_right _ (List.mem_append_left _ h)))))))) zg_m126_X12_begins)) rfl rfl rfl (by decide +kernel) ⟨Nat.le_of_ble_eq_true rfl, Nat.le_of_ble_eq_true rfl⟩ 0 rfl rfl rfl rfl (Nat.le_of_ble_eq_true rfl) ⟨Nat.le_of_ble_eq_true rfl, Nat.le_of_ble_eq_true rfl⟩ dX12_read_210 (fun v ty' w' hp hk' => ?_)
  obtain ⟨rfl, rfl⟩ := hp
  show GW κ 2 0 0 (wM r g (upd (upd (upd (upd iM1 3 1) 11 (-2)) 16 1) 15 1) (up3 (up3 (up2 aM1 18 (cp (fun _ => 0) (aM1 18) 165)) 18 161 2) 18 164 8) (up3L lM1 5 0 0)) 213 [(1, .int 0), (0, .ref (r 0))] []
  refine g_aload_n hk dX12_read_213 rfl ?_
  refine g_callV (n := 0) hk (m127_X12_keepsRow l D zt g r) (SP.same _) (fun _ h => h) (gi_V (List.mem_cons_of_mem _ (List.mem_append_left _ (List.mem_of_getElem? (i := 24) rfl))) (List.mem_cons_of_mem _ (List.mem_append_left _ (List.mem_of_getElem? (i := 25) rfl))) (List.mem_cons_of_mem _ (List.mem_append_left _ (List.mem_of_getElem? (i := 26) rfl))) (List.mem_cons_of_mem _ (List.mem_append_left _ (List.mem_of_getElem? (i := 5) rfl))) (gi_sub (fun w h => (List.mem_cons_of_mem _ (List.mem_append_right _ (List.mem_append_right _ (List.mem_append_right _ (List.mem_append_right _ (List.mem_append_right _ (List.mem_append_right _ (List.mem_append_left _ h))))))))) zg_m127_X12_keepsRow)) rfl rfl rfl (by decide +kernel) ⟨Nat.le_of_ble_eq_true rfl, Nat.le_of_ble_eq_true rfl⟩ 0 rfl rfl rfl rfl (Nat.le_of_ble_eq_true rfl) ⟨Nat.le_of_ble_eq_true rfl, Nat.le_of_ble_eq_true rfl⟩ dX12_read_214 (fun v ty' w' hp hk' => ?_)
  obtain ⟨rfl, rfl⟩ := hp
  show GW κ 2 0 0 (wM r g (upd (upd (upd (upd iM1 3 1) 11 (-2)) 16 1) 15 1) (up2 (up3 (up3 (up2 aM1 18 (cp (fun _ => 0) (aM1 18) 165)) 18 161 2) 18 164 8) 17 (cp ((up3 (up3 (up2 aM1 18 (cp (fun _ => 0) (aM1 18) 165)) 18 161 2) 18 164 8) 18) ((up3 (up3 (up2 aM1 18 (cp (fun _ => 0) (aM1 18) 165)) 18 161 2) 18 164 8) 17) 165)) (up3L lM1 5 0 0)) 217 [(1, .int 0), (0, .ref (r 0))] []
  refine g_aload_n hk dX12_read_217 rfl ?_
  refine g_iconst (v := 0) hk dX12_read_218 (by decide) ?_
  refine pM_i22 hk hin12 (List.mem_cons_of_mem _ (List.mem_append_left _ (List.mem_of_getElem? (i := 27) rfl))) dX12_read_219 ?_
  refine gM_sameI rfl ?_
  refine g_iconst (v := 0) hk dX12_read_222 (by decide) ?_
  refine g_istore_n (lv' := [(1, .int 0), (0, .ref (r 0))]) hk dX12_read_223 (by decide) rfl ?_
  refine g_iload_n hk dX12_read_224 rfl ?_
  refine g_iconst (v := 3) hk dX12_read_225 (by decide) ?_
  refine g_icmp_ge (tgt := 242) (a := 0) (b := 3) hk dX12_read_226 (by decide) rfl rfl (fun z9 => absurd z9 (show ¬ ((3 : Int) ≤ (0 : Int)) from by decide)) (fun _ => ?_)
  refine g_aload_n hk dX12_read_229 rfl ?_
  refine gM_r0_53 hk hin12 (List.mem_cons_of_mem _ (List.mem_append_left _ (List.mem_of_getElem? (i := 28) rfl))) dX12_read_230 ?_
  refine g_iload_n hk dX12_read_233 rfl ?_
  refine g_iconst (v := 0) hk dX12_read_234 (by decide) ?_
  refine sM_27 (y := 0) (j := 0) hk (vp_in_iff.mpr ⟨by decide, by decide⟩) (by decide) rfl dX12_read_235 ?_
  refine gM_same rfl ?_
  refine g_iinc (v := 1) (lv' := [(1, .int 1), (0, .ref (r 0))]) hk 0 dX12_read_236 rfl (by decide) (by decide) rfl ?_
  refine g_goto (tgt := 224) hk dX12_read_239 (by decide) ?_
  refine g_iload_n hk dX12_read_224 rfl ?_
  refine g_iconst (v := 3) hk dX12_read_225 (by decide) ?_
  refine g_icmp_ge (tgt := 242) (a := 1) (b := 3) hk dX12_read_226 (by decide) rfl rfl (fun z9 => absurd z9 (show ¬ ((3 : Int) ≤ (1 : Int)) from by decide)) (fun _ => ?_)
  refine g_aload_n hk dX12_read_229 rfl ?_
  refine gM_r0_53 hk hin12 (List.mem_cons_of_mem _ (List.mem_append_left _ (List.mem_of_getElem? (i := 28) rfl))) dX12_read_230 ?_
  refine g_iload_n hk dX12_read_233 rfl ?_
  refine g_iconst (v := 0) hk dX12_read_234 (by decide) ?_
  refine sM_27 (y := 0) (j := 1) hk (vp_in_iff.mpr ⟨by decide, by decide⟩) (by decide) rfl dX12_read_235 ?_
  refine gM_same rfl ?_
  refine g_iinc (v := 2) (lv' := [(1, .int 2), (0, .ref (r 0))]) hk 0 dX12_read_236 rfl (by decide) (by decide) rfl ?_
  refine g_goto (tgt := 224) hk dX12_read_239 (by decide) ?_
  refine g_iload_n hk dX12_read_224 rfl ?_
  refine g_iconst (v := 3) hk dX12_read_225 (by decide) ?_
  refine g_icmp_ge (tgt := 242) (a := 2) (b := 3) hk dX12_read_226 (by decide) rfl rfl (fun z9 => absurd z9 (show ¬ ((3 : Int) ≤ (2 : Int)) from by decide)) (fun _ => ?_)
  refine g_aload_n hk dX12_read_229 rfl ?_
  refine gM_r0_53 hk hin12 (List.mem_cons_of_mem _ (List.mem_append_left _ (List.mem_of_getElem? (i := 28) rfl))) dX12_read_230 ?_
  refine g_iload_n hk dX12_read_233 rfl ?_
  refine g_iconst (v := 0) hk dX12_read_234 (by decide) ?_
  refine sM_27 (y := 0) (j := 2) hk (vp_in_iff.mpr ⟨by decide, by decide⟩) (by decide) rfl dX12_read_235 ?_
  refine gM_same rfl ?_
  refine g_iinc (v := 3) (lv' := [(1, .int 3), (0, .ref (r 0))]) hk 0 dX12_read_236 rfl (by decide) (by decide) rfl ?_
  refine g_goto (tgt := 224) hk dX12_read_239 (by decide) ?_
  refine g_iload_n hk dX12_read_224 rfl ?_
  refine g_iconst (v := 3) hk dX12_read_225 (by decide) ?_
  refine g_icmp_ge (tgt := 242) (a := 3) (b := 3) hk dX12_read_226 (by decide) rfl rfl (fun _ => ?_) (fun z9 => absurd (show (3 : Int) ≤ (3 : Int) from by decide) z9)
  refine g_iconst (v := 0) hk dX12_read_242 (by decide) ?_
  exact g_iret hk hR rfl ⟨rfl, rfl⟩ dX12_read_243
def wo_m128_X12_place : List Cond := [Cond.fieldLink RX12 37 "WarpDeskModel" "place" "I"]
def wz_m128_X12_place : List Cond := .code yX12_place cX12_place 1 (some .int) :: (wo_m128_X12_place ++ (wsX120 ++ ([] : List Cond)))
theorem zg_m128_X12_place : ∀ w ∈ wz_m128_X12_place, goodWord w = true := zg_cons rfl (zg_app (by decide +kernel) (zg_app zgU_wsX120 zg_nil))
theorem zi_m128_X12_place : ∀ w ∈ wz_m128_X12_place, w ∈ lw_tbl := zi_cons zw_1639 (zi_app (zi_cons zw_1395 zi_nil) (zi_app inX12 zi_nil))
set_option maxHeartbeats 4000000 in
set_option maxRecDepth 100000 in
theorem m128_X12_place (l : Launch) (D : va_G) (zt : Nat × Nat × Nat) (g : Nat → ClassId) (r : Nat → Nat) : GM l D zt (tyM g) yX12_place wz_m128_X12_place ({ frames := 0, cells := 0, slots := 0, locals := 0 } : Room) [.ref (r 0)] (wM r g iM1 aM1 lM1) (fun v _ w' => v = some (.int (-1)) ∧ w' = wM r g iM1 aM1 lM1) 0 0 := by
  refine GM.of (cc := cX12_place) (maxL := 1) (ret := (some .int)) (own := RX12) (lv := [(0, .ref (r 0))]) (by decide) rfl rfl (Nat.le_of_ble_eq_true rfl) rfl (fun κ sz hk hR hN => ?_)
  have hin12 : ∀ w ∈ u_ws RX12 TX12 55, w ∈ wz_m128_X12_place := fun w h => (List.mem_cons_of_mem _ (List.mem_append_right _ (List.mem_append_left _ h)))
  refine g_aload_n hk dX12_place_0 rfl ?_
  refine gM_i10 (v := (-1)) hk hin12 (List.mem_cons_of_mem _ (List.mem_append_left _ (List.mem_of_getElem? (i := 0) rfl))) dX12_place_1 rfl ?_
  exact g_iret hk hR rfl ⟨rfl, rfl⟩ dX12_place_4
def wo_m129_X12_cause : List Cond := [Cond.fieldLink RX12 111 "WarpDeskModel" "cause" "I"]
def wz_m129_X12_cause : List Cond := .code yX12_cause cX12_cause 1 (some .int) :: (wo_m129_X12_cause ++ (wsX120 ++ ([] : List Cond)))
theorem zg_m129_X12_cause : ∀ w ∈ wz_m129_X12_cause, goodWord w = true := zg_cons rfl (zg_app (by decide +kernel) (zg_app zgU_wsX120 zg_nil))
theorem zi_m129_X12_cause : ∀ w ∈ wz_m129_X12_cause, w ∈ lw_tbl := zi_cons zw_1643 (zi_app (zi_cons zw_1399 zi_nil) (zi_app inX12 zi_nil))
set_option maxHeartbeats 4000000 in
set_option maxRecDepth 100000 in
theorem m129_X12_cause (l : Launch) (D : va_G) (zt : Nat × Nat × Nat) (g : Nat → ClassId) (r : Nat → Nat) : GM l D zt (tyM g) yX12_cause wz_m129_X12_cause ({ frames := 0, cells := 0, slots := 0, locals := 0 } : Room) [.ref (r 0)] (wM r g iM1 aM1 lM1) (fun v _ w' => v = some (.int (-1)) ∧ w' = wM r g iM1 aM1 lM1) 0 0 := by
  refine GM.of (cc := cX12_cause) (maxL := 1) (ret := (some .int)) (own := RX12) (lv := [(0, .ref (r 0))]) (by decide) rfl rfl (Nat.le_of_ble_eq_true rfl) rfl (fun κ sz hk hR hN => ?_)
  have hin12 : ∀ w ∈ u_ws RX12 TX12 55, w ∈ wz_m129_X12_cause := fun w h => (List.mem_cons_of_mem _ (List.mem_append_right _ (List.mem_append_left _ h)))
  refine g_aload_n hk dX12_cause_0 rfl ?_
  refine gM_i14 (v := (-1)) hk hin12 (List.mem_cons_of_mem _ (List.mem_append_left _ (List.mem_of_getElem? (i := 0) rfl))) dX12_cause_1 rfl ?_
  exact g_iret hk hR rfl ⟨rfl, rfl⟩ dX12_cause_4
def wo_m133_X12_in : List Cond := []
def wz_m133_X12_in : List Cond := .code yX12_in cX12_in 3 (some .boolean) :: (wo_m133_X12_in ++ ([] : List Cond))
theorem zg_m133_X12_in : ∀ w ∈ wz_m133_X12_in, goodWord w = true := zg_cons rfl (zg_app (by decide +kernel) zg_nil)
theorem zi_m133_X12_in : ∀ w ∈ wz_m133_X12_in, w ∈ lw_tbl := zi_cons zw_1658 (zi_app zi_nil zi_nil)
set_option maxHeartbeats 4000000 in
set_option maxRecDepth 100000 in
theorem m133_X12_in (l : Launch) (D : va_G) (zt : Nat × Nat × Nat) (g : Nat → ClassId) (r : Nat → Nat) (a353 : Int32) : GM l D zt (tyM g) yX12_in wz_m133_X12_in ({ frames := 0, cells := 0, slots := 0, locals := 0 } : Room) [.int a353, .int 0, .int (-1)] (wM r g iM1 aM1 lM1) (fun v _ w' => v = some (.int 0) ∧ w' = wM r g iM1 aM1 lM1) 0 0 := by
  refine GM.of (cc := cX12_in) (maxL := 3) (ret := (some .boolean)) (own := RX12) (lv := [(0, .int a353), (1, .int 0), (2, .int (-1))]) (by decide) rfl rfl (Nat.le_of_ble_eq_true rfl) rfl (fun κ sz hk hR hN => ?_)
  refine g_iload_n hk dX12_in_0 rfl ?_
  refine g_iload_n hk dX12_in_1 rfl ?_
  refine g_icmp_lt (tgt := 14) (a := a353.toInt) (b := 0) hk dX12_in_2 (by decide) rfl rfl (fun c354 => ?_) (fun c354 => ?_)
  · skip
    refine g_iconst (v := 0) hk dX12_in_14 (by decide) ?_
    exact g_iret hk hR rfl ⟨rfl, rfl⟩ dX12_in_15
  · skip
    refine g_iload_n hk dX12_in_5 rfl ?_
    refine g_iload_n hk dX12_in_6 rfl ?_
    refine g_icmp_gt (tgt := 14) (a := a353.toInt) (b := (-1)) hk dX12_in_7 (by decide) rfl rfl (fun _ => ?_) (fun z9 => absurd (show (-1) < a353.toInt from by omega) z9)
    refine g_iconst (v := 0) hk dX12_in_14 (by decide) ?_
    exact g_iret hk hR rfl ⟨rfl, rfl⟩ dX12_in_15
def wo_m132_X12_isPlace : List Cond := [Cond.fieldLink RX12 70 "WarpDeskModel" "now" "[I", Cond.methodLink RX12 244 yX12_in, Cond.static yX12_in, Cond.initialized RX12]
def wz_m132_X12_isPlace : List Cond := .code yX12_isPlace cX12_isPlace 2 (some .boolean) :: (wo_m132_X12_isPlace ++ (wsX120 ++ (wz_m133_X12_in ++ ([] : List Cond))))
theorem zg_m132_X12_isPlace : ∀ w ∈ wz_m132_X12_isPlace, goodWord w = true := zg_cons rfl (zg_app (by decide +kernel) (zg_app zgU_wsX120 (zg_app zg_m133_X12_in zg_nil)))
theorem zi_m132_X12_isPlace : ∀ w ∈ wz_m132_X12_isPlace, w ∈ lw_tbl := zi_cons zw_1655 (zi_app (zi_cons zw_1413 (zi_cons zw_1656 (zi_cons zw_1657 (zi_cons zw_115 zi_nil)))) (zi_app inX12 (zi_app zi_m133_X12_in zi_nil)))
set_option maxHeartbeats 4000000 in
set_option maxRecDepth 100000 in
theorem m132_X12_isPlace (l : Launch) (D : va_G) (zt : Nat × Nat × Nat) (g : Nat → ClassId) (r : Nat → Nat) (a352 : Int32) : GM l D zt (tyM g) yX12_isPlace wz_m132_X12_isPlace ({ frames := 1, cells := 0, slots := 0, locals := 22 } : Room) [.ref (r 0), .int a352] (wM r g iM1 aM1 lM1) (fun v _ w' => v = some (.int 0) ∧ w' = wM r g iM1 aM1 lM1) 0 0 := by
  refine GM.of (cc := cX12_isPlace) (maxL := 2) (ret := (some .boolean)) (own := RX12) (lv := [(0, .ref (r 0)), (1, .int a352)]) (by decide) rfl rfl (Nat.le_of_ble_eq_true rfl) rfl (fun κ sz hk hR hN => ?_)
  have hin12 : ∀ w ∈ u_ws RX12 TX12 55, w ∈ wz_m132_X12_isPlace := fun w h => (List.mem_cons_of_mem _ (List.mem_append_right _ (List.mem_append_left _ h)))
  refine g_iload_n hk dX12_isPlace_0 rfl ?_
  refine g_iconst (v := 0) hk dX12_isPlace_1 (by decide) ?_
  refine g_aload_n hk dX12_isPlace_2 rfl ?_
  refine gM_r0_35 hk hin12 (List.mem_cons_of_mem _ (List.mem_append_left _ (List.mem_of_getElem? (i := 0) rfl))) dX12_isPlace_3 ?_
  refine g_iconst (v := 0) hk dX12_isPlace_6 (by decide) ?_
  refine lM_17 (v := 0) hk (vp_in_iff.mpr ⟨by decide, by decide⟩) rfl dX12_isPlace_7 ?_
  refine g_iconst (v := 1) hk dX12_isPlace_8 (by decide) ?_
  refine g_isub hk dX12_isPlace_9 ?_
  refine g_norm (v := (-1)) (by decide) ?_
  refine g_callS (n := 3) hk (m133_X12_in l D zt g r a352) (SP.same _) (fun _ h => h) (gi_S (List.mem_cons_of_mem _ (List.mem_append_left _ (List.mem_of_getElem? (i := 1) rfl))) (List.mem_cons_of_mem _ (List.mem_append_left _ (List.mem_of_getElem? (i := 2) rfl))) (List.mem_cons_of_mem _ (List.mem_append_left _ (List.mem_of_getElem? (i := 3) rfl))) (gi_sub (fun w h => (List.mem_cons_of_mem _ (List.mem_append_right _ (List.mem_append_right _ (List.mem_append_left _ h))))) zg_m133_X12_in)) rfl rfl rfl (by decide +kernel) ⟨Nat.le_of_ble_eq_true rfl, Nat.le_of_ble_eq_true rfl⟩ rfl rfl (Nat.le_of_ble_eq_true rfl) ⟨Nat.le_of_ble_eq_true rfl, Nat.le_of_ble_eq_true rfl⟩ dX12_isPlace_10 (fun v ty' w' hp hk' => ?_)
  obtain ⟨rfl, rfl⟩ := hp
  show GW κ 2 0 0 (wM r g iM1 aM1 lM1) 13 [(0, .ref (r 0)), (1, .int a352)] [.int 0]
  exact g_iret hk hR rfl ⟨rfl, rfl⟩ dX12_isPlace_13
def wo_m131_X12_isThere : List Cond := [Cond.methodLink RX12 248 yX12_isPlace, Cond.instanceMethod yX12_isPlace, Cond.selects RX12 yX12_isPlace yX12_isPlace, Cond.initialized RX12]
def wz_m131_X12_isThere : List Cond := .code yX12_isThere cX12_isThere 2 (some .boolean) :: (wo_m131_X12_isThere ++ (wz_m132_X12_isPlace ++ ([] : List Cond)))
theorem zg_m131_X12_isThere : ∀ w ∈ wz_m131_X12_isThere, goodWord w = true := zg_cons rfl (zg_app (by decide +kernel) (zg_app zg_m132_X12_isPlace zg_nil))
theorem zi_m131_X12_isThere : ∀ w ∈ wz_m131_X12_isThere, w ∈ lw_tbl := zi_cons zw_1651 (zi_app (zi_cons zw_1652 (zi_cons zw_1654 (zi_cons zw_66 (zi_cons zw_115 zi_nil)))) (zi_app zi_m132_X12_isPlace zi_nil))
set_option maxHeartbeats 4000000 in
set_option maxRecDepth 100000 in
theorem m131_X12_isThere (l : Launch) (D : va_G) (zt : Nat × Nat × Nat) (g : Nat → ClassId) (r : Nat → Nat) (a351 : Int32) : GM l D zt (tyM g) yX12_isThere wz_m131_X12_isThere ({ frames := 2, cells := 0, slots := 0, locals := 43 } : Room) [.ref (r 0), .int a351] (wM r g iM1 aM1 lM1) (fun v _ w' => v = some (.int 0) ∧ w' = wM r g iM1 aM1 lM1) 0 0 := by
  refine GM.of (cc := cX12_isThere) (maxL := 2) (ret := (some .boolean)) (own := RX12) (lv := [(0, .ref (r 0)), (1, .int a351)]) (by decide) rfl rfl (Nat.le_of_ble_eq_true rfl) rfl (fun κ sz hk hR hN => ?_)
  refine g_aload_n hk dX12_isThere_0 rfl ?_
  refine g_iload_n hk dX12_isThere_1 rfl ?_
  refine g_callV (n := 1) hk (m132_X12_isPlace l D zt g r a351) (SP.same _) (fun _ h => h) (gi_V (List.mem_cons_of_mem _ (List.mem_append_left _ (List.mem_of_getElem? (i := 0) rfl))) (List.mem_cons_of_mem _ (List.mem_append_left _ (List.mem_of_getElem? (i := 1) rfl))) (List.mem_cons_of_mem _ (List.mem_append_left _ (List.mem_of_getElem? (i := 2) rfl))) (List.mem_cons_of_mem _ (List.mem_append_left _ (List.mem_of_getElem? (i := 3) rfl))) (gi_sub (fun w h => (List.mem_cons_of_mem _ (List.mem_append_right _ (List.mem_append_left _ h)))) zg_m132_X12_isPlace)) rfl rfl rfl (by decide +kernel) ⟨Nat.le_of_ble_eq_true rfl, Nat.le_of_ble_eq_true rfl⟩ 0 rfl rfl rfl rfl (Nat.le_of_ble_eq_true rfl) ⟨Nat.le_of_ble_eq_true rfl, Nat.le_of_ble_eq_true rfl⟩ dX12_isThere_2 (fun v ty' w' hp hk' => ?_)
  obtain ⟨rfl, rfl⟩ := hp
  show GW κ 2 0 0 (wM r g iM1 aM1 lM1) 5 [(0, .ref (r 0)), (1, .int a351)] [.int 0]
  refine g_if_eq (tgt := 25) (a := 0) hk dX12_isThere_5 (by decide) rfl (fun _ => ?_) (fun z9 => absurd (show (0 : Int) = (0 : Int) from by decide) z9)
  refine g_iconst (v := 0) hk dX12_isThere_25 (by decide) ?_
  exact g_iret hk hR rfl ⟨rfl, rfl⟩ dX12_isThere_26
def wo_m130_X12_at : List Cond := [Cond.methodLink RX12 320 yX12_isThere, Cond.instanceMethod yX12_isThere, Cond.selects RX12 yX12_isThere yX12_isThere, Cond.initialized RX12]
def wz_m130_X12_at : List Cond := .code yX12_at cX12_at 2 (some .int) :: (wo_m130_X12_at ++ (wz_m131_X12_isThere ++ ([] : List Cond)))
theorem zg_m130_X12_at : ∀ w ∈ wz_m130_X12_at, goodWord w = true := zg_cons rfl (zg_app (by decide +kernel) (zg_app zg_m131_X12_isThere zg_nil))
theorem zi_m130_X12_at : ∀ w ∈ wz_m130_X12_at, w ∈ lw_tbl := zi_cons zw_1647 (zi_app (zi_cons zw_1648 (zi_cons zw_1650 (zi_cons zw_65 (zi_cons zw_115 zi_nil)))) (zi_app zi_m131_X12_isThere zi_nil))
set_option maxHeartbeats 4000000 in
set_option maxRecDepth 100000 in
theorem m130_X12_at (l : Launch) (D : va_G) (zt : Nat × Nat × Nat) (g : Nat → ClassId) (r : Nat → Nat) (a350 : Int32) : GM l D zt (tyM g) yX12_at wz_m130_X12_at ({ frames := 3, cells := 0, slots := 0, locals := 64 } : Room) [.ref (r 0), .int a350] (wM r g iM1 aM1 lM1) (fun v _ w' => v = some (.int (-1000)) ∧ w' = wM r g iM1 aM1 lM1) 0 0 := by
  refine GM.of (cc := cX12_at) (maxL := 2) (ret := (some .int)) (own := RX12) (lv := [(0, .ref (r 0)), (1, .int a350)]) (by decide) rfl rfl (Nat.le_of_ble_eq_true rfl) rfl (fun κ sz hk hR hN => ?_)
  refine g_aload_n hk dX12_at_0 rfl ?_
  refine g_iload_n hk dX12_at_1 rfl ?_
  refine g_callV (n := 1) hk (m131_X12_isThere l D zt g r a350) (SP.same _) (fun _ h => h) (gi_V (List.mem_cons_of_mem _ (List.mem_append_left _ (List.mem_of_getElem? (i := 0) rfl))) (List.mem_cons_of_mem _ (List.mem_append_left _ (List.mem_of_getElem? (i := 1) rfl))) (List.mem_cons_of_mem _ (List.mem_append_left _ (List.mem_of_getElem? (i := 2) rfl))) (List.mem_cons_of_mem _ (List.mem_append_left _ (List.mem_of_getElem? (i := 3) rfl))) (gi_sub (fun w h => (List.mem_cons_of_mem _ (List.mem_append_right _ (List.mem_append_left _ h)))) zg_m131_X12_isThere)) rfl rfl rfl (by decide +kernel) ⟨Nat.le_of_ble_eq_true rfl, Nat.le_of_ble_eq_true rfl⟩ 0 rfl rfl rfl rfl (Nat.le_of_ble_eq_true rfl) ⟨Nat.le_of_ble_eq_true rfl, Nat.le_of_ble_eq_true rfl⟩ dX12_at_2 (fun v ty' w' hp hk' => ?_)
  obtain ⟨rfl, rfl⟩ := hp
  show GW κ 2 0 0 (wM r g iM1 aM1 lM1) 5 [(0, .ref (r 0)), (1, .int a350)] [.int 0]
  refine g_if_eq (tgt := 19) (a := 0) hk dX12_at_5 (by decide) rfl (fun _ => ?_) (fun z9 => absurd (show (0 : Int) = (0 : Int) from by decide) z9)
  refine g_sipush (v := (-1000)) hk dX12_at_19 (by decide) ?_
  exact g_iret hk hR rfl ⟨rfl, rfl⟩ dX12_at_22
def wo_m135_X12_isQuery : List Cond := [Cond.fieldLink RX12 49 "WarpDeskModel" "queries" "[I", Cond.fieldLink RX12 197 "WarpDeskModel" "live" "I", Cond.methodLink RX12 244 yX12_in, Cond.static yX12_in, Cond.initialized RX12]
def wz_m135_X12_isQuery : List Cond := .code yX12_isQuery cX12_isQuery 2 (some .boolean) :: (wo_m135_X12_isQuery ++ (wsX120 ++ (wz_m133_X12_in ++ ([] : List Cond))))
theorem zg_m135_X12_isQuery : ∀ w ∈ wz_m135_X12_isQuery, goodWord w = true := zg_cons rfl (zg_app (by decide +kernel) (zg_app zgU_wsX120 (zg_app zg_m133_X12_in zg_nil)))
theorem zi_m135_X12_isQuery : ∀ w ∈ wz_m135_X12_isQuery, w ∈ lw_tbl := zi_cons zw_1666 (zi_app (zi_cons zw_1406 (zi_cons zw_1400 (zi_cons zw_1656 (zi_cons zw_1657 (zi_cons zw_115 zi_nil))))) (zi_app inX12 (zi_app zi_m133_X12_in zi_nil)))
set_option maxHeartbeats 4000000 in
set_option maxRecDepth 100000 in
theorem m135_X12_isQuery (l : Launch) (D : va_G) (zt : Nat × Nat × Nat) (g : Nat → ClassId) (r : Nat → Nat) (a357 : Int32) : GM l D zt (tyM g) yX12_isQuery wz_m135_X12_isQuery ({ frames := 1, cells := 0, slots := 0, locals := 22 } : Room) [.ref (r 0), .int a357] (wM r g iM1 aM1 lM1) (fun v _ w' => v = some (.int 0) ∧ w' = wM r g iM1 aM1 lM1) 0 0 := by
  refine GM.of (cc := cX12_isQuery) (maxL := 2) (ret := (some .boolean)) (own := RX12) (lv := [(0, .ref (r 0)), (1, .int a357)]) (by decide) rfl rfl (Nat.le_of_ble_eq_true rfl) rfl (fun κ sz hk hR hN => ?_)
  have hin12 : ∀ w ∈ u_ws RX12 TX12 55, w ∈ wz_m135_X12_isQuery := fun w h => (List.mem_cons_of_mem _ (List.mem_append_right _ (List.mem_append_left _ h)))
  refine g_iload_n hk dX12_isQuery_0 rfl ?_
  refine g_iconst (v := 0) hk dX12_isQuery_1 (by decide) ?_
  refine g_aload_n hk dX12_isQuery_2 rfl ?_
  refine gM_r0_28 hk hin12 (List.mem_cons_of_mem _ (List.mem_append_left _ (List.mem_of_getElem? (i := 0) rfl))) dX12_isQuery_3 ?_
  refine g_aload_n hk dX12_isQuery_6 rfl ?_
  refine gM_i15 (v := 0) hk hin12 (List.mem_cons_of_mem _ (List.mem_append_left _ (List.mem_of_getElem? (i := 1) rfl))) dX12_isQuery_7 rfl ?_
  refine lM_10 (v := 0) hk (vp_in_iff.mpr ⟨by decide, by decide⟩) rfl dX12_isQuery_10 ?_
  refine g_iconst (v := 1) hk dX12_isQuery_11 (by decide) ?_
  refine g_isub hk dX12_isQuery_12 ?_
  refine g_norm (v := (-1)) (by decide) ?_
  refine g_callS (n := 3) hk (m133_X12_in l D zt g r a357) (SP.same _) (fun _ h => h) (gi_S (List.mem_cons_of_mem _ (List.mem_append_left _ (List.mem_of_getElem? (i := 2) rfl))) (List.mem_cons_of_mem _ (List.mem_append_left _ (List.mem_of_getElem? (i := 3) rfl))) (List.mem_cons_of_mem _ (List.mem_append_left _ (List.mem_of_getElem? (i := 4) rfl))) (gi_sub (fun w h => (List.mem_cons_of_mem _ (List.mem_append_right _ (List.mem_append_right _ (List.mem_append_left _ h))))) zg_m133_X12_in)) rfl rfl rfl (by decide +kernel) ⟨Nat.le_of_ble_eq_true rfl, Nat.le_of_ble_eq_true rfl⟩ rfl rfl (Nat.le_of_ble_eq_true rfl) ⟨Nat.le_of_ble_eq_true rfl, Nat.le_of_ble_eq_true rfl⟩ dX12_isQuery_13 (fun v ty' w' hp hk' => ?_)
  obtain ⟨rfl, rfl⟩ := hp
  show GW κ 2 0 0 (wM r g iM1 aM1 lM1) 16 [(0, .ref (r 0)), (1, .int a357)] [.int 0]
  exact g_iret hk hR rfl ⟨rfl, rfl⟩ dX12_isQuery_16
def wo_m134_X12_query : List Cond := [Cond.methodLink RX12 251 yX12_isQuery, Cond.instanceMethod yX12_isQuery, Cond.selects RX12 yX12_isQuery yX12_isQuery, Cond.initialized RX12]
def wz_m134_X12_query : List Cond := .code yX12_query cX12_query 3 (some .int) :: (wo_m134_X12_query ++ (wz_m135_X12_isQuery ++ ([] : List Cond)))
theorem zg_m134_X12_query : ∀ w ∈ wz_m134_X12_query, goodWord w = true := zg_cons rfl (zg_app (by decide +kernel) (zg_app zg_m135_X12_isQuery zg_nil))
theorem zi_m134_X12_query : ∀ w ∈ wz_m134_X12_query, w ∈ lw_tbl := zi_cons zw_1662 (zi_app (zi_cons zw_1663 (zi_cons zw_1665 (zi_cons zw_67 (zi_cons zw_115 zi_nil)))) (zi_app zi_m135_X12_isQuery zi_nil))
set_option maxHeartbeats 4000000 in
set_option maxRecDepth 100000 in
theorem m134_X12_query (l : Launch) (D : va_G) (zt : Nat × Nat × Nat) (g : Nat → ClassId) (r : Nat → Nat) (a355 : Int32) (a356 : Int32) : GM l D zt (tyM g) yX12_query wz_m134_X12_query ({ frames := 2, cells := 0, slots := 0, locals := 43 } : Room) [.ref (r 0), .int a355, .int a356] (wM r g iM1 aM1 lM1) (fun v _ w' => v = some (.int (-1000)) ∧ w' = wM r g iM1 aM1 lM1) 0 0 := by
  refine GM.of (cc := cX12_query) (maxL := 3) (ret := (some .int)) (own := RX12) (lv := [(0, .ref (r 0)), (1, .int a355), (2, .int a356)]) (by decide) rfl rfl (Nat.le_of_ble_eq_true rfl) rfl (fun κ sz hk hR hN => ?_)
  refine g_aload_n hk dX12_query_0 rfl ?_
  refine g_iload_n hk dX12_query_1 rfl ?_
  refine g_callV (n := 1) hk (m135_X12_isQuery l D zt g r a355) (SP.same _) (fun _ h => h) (gi_V (List.mem_cons_of_mem _ (List.mem_append_left _ (List.mem_of_getElem? (i := 0) rfl))) (List.mem_cons_of_mem _ (List.mem_append_left _ (List.mem_of_getElem? (i := 1) rfl))) (List.mem_cons_of_mem _ (List.mem_append_left _ (List.mem_of_getElem? (i := 2) rfl))) (List.mem_cons_of_mem _ (List.mem_append_left _ (List.mem_of_getElem? (i := 3) rfl))) (gi_sub (fun w h => (List.mem_cons_of_mem _ (List.mem_append_right _ (List.mem_append_left _ h)))) zg_m135_X12_isQuery)) rfl rfl rfl (by decide +kernel) ⟨Nat.le_of_ble_eq_true rfl, Nat.le_of_ble_eq_true rfl⟩ 0 rfl rfl rfl rfl (Nat.le_of_ble_eq_true rfl) ⟨Nat.le_of_ble_eq_true rfl, Nat.le_of_ble_eq_true rfl⟩ dX12_query_2 (fun v ty' w' hp hk' => ?_)
  obtain ⟨rfl, rfl⟩ := hp
  show GW κ 3 0 0 (wM r g iM1 aM1 lM1) 5 [(0, .ref (r 0)), (1, .int a355), (2, .int a356)] [.int 0]
  refine g_if_eq (tgt := 44) (a := 0) hk dX12_query_5 (by decide) rfl (fun _ => ?_) (fun z9 => absurd (show (0 : Int) = (0 : Int) from by decide) z9)
  refine g_sipush (v := (-1000)) hk dX12_query_44 (by decide) ?_
  exact g_iret hk hR rfl ⟨rfl, rfl⟩ dX12_query_47
def wo_m137_X12_in : List Cond := []
def wz_m137_X12_in : List Cond := .code yX12_in cX12_in 3 (some .boolean) :: (wo_m137_X12_in ++ ([] : List Cond))
theorem zg_m137_X12_in : ∀ w ∈ wz_m137_X12_in, goodWord w = true := zg_cons rfl (zg_app (by decide +kernel) zg_nil)
theorem zi_m137_X12_in : ∀ w ∈ wz_m137_X12_in, w ∈ lw_tbl := zi_cons zw_1658 (zi_app zi_nil zi_nil)
set_option maxHeartbeats 4000000 in
set_option maxRecDepth 100000 in
theorem m137_X12_in (l : Launch) (D : va_G) (zt : Nat × Nat × Nat) (g : Nat → ClassId) (r : Nat → Nat) (a359 : Int32) : GM l D zt (tyM g) yX12_in wz_m137_X12_in ({ frames := 0, cells := 0, slots := 0, locals := 0 } : Room) [.int a359, .int (-999), .int 999] (wM r g iM1 aM1 lM1) (fun v _ w' => ((a359.toInt < (-999)) ∧ v = some (.int 0) ∧ w' = wM r g iM1 aM1 lM1) ∨ ((¬ (a359.toInt < (-999))) ∧ (999 < a359.toInt) ∧ v = some (.int 0) ∧ w' = wM r g iM1 aM1 lM1) ∨ ((¬ (a359.toInt < (-999))) ∧ (¬ (999 < a359.toInt)) ∧ v = some (.int 1) ∧ w' = wM r g iM1 aM1 lM1)) 0 0 := by
  refine GM.of (cc := cX12_in) (maxL := 3) (ret := (some .boolean)) (own := RX12) (lv := [(0, .int a359), (1, .int (-999)), (2, .int 999)]) (by decide) rfl rfl (Nat.le_of_ble_eq_true rfl) rfl (fun κ sz hk hR hN => ?_)
  refine g_iload_n hk dX12_in_0 rfl ?_
  refine g_iload_n hk dX12_in_1 rfl ?_
  refine g_icmp_lt (tgt := 14) (a := a359.toInt) (b := (-999)) hk dX12_in_2 (by decide) rfl rfl (fun c360 => ?_) (fun c360 => ?_)
  · skip
    refine g_iconst (v := 0) hk dX12_in_14 (by decide) ?_
    exact g_iret hk hR rfl (Or.inl ⟨c360, rfl, rfl⟩) dX12_in_15
  · skip
    refine g_iload_n hk dX12_in_5 rfl ?_
    refine g_iload_n hk dX12_in_6 rfl ?_
    refine g_icmp_gt (tgt := 14) (a := a359.toInt) (b := 999) hk dX12_in_7 (by decide) rfl rfl (fun c361 => ?_) (fun c361 => ?_)
    · skip
      refine g_iconst (v := 0) hk dX12_in_14 (by decide) ?_
      exact g_iret hk hR rfl (Or.inr (Or.inl ⟨c360, c361, rfl, rfl⟩)) dX12_in_15
    · skip
      refine g_iconst (v := 1) hk dX12_in_10 (by decide) ?_
      refine g_goto (tgt := 15) hk dX12_in_11 (by decide) ?_
      exact g_iret hk hR rfl (Or.inr (Or.inr (⟨c360, c361, rfl, rfl⟩))) dX12_in_15
def wo_m139_X12_copies : List Cond := [Cond.fieldLink RX12 73 "WarpDeskModel" "row" "[I", Cond.fieldLink RX12 70 "WarpDeskModel" "now" "[I"]
def wz_m139_X12_copies : List Cond := .code yX12_copies cX12_copies 2 none :: (wo_m139_X12_copies ++ (wsX120 ++ ([] : List Cond)))
theorem zg_m139_X12_copies : ∀ w ∈ wz_m139_X12_copies, goodWord w = true := zg_cons rfl (zg_app (by decide +kernel) (zg_app zgU_wsX120 zg_nil))
theorem zi_m139_X12_copies : ∀ w ∈ wz_m139_X12_copies, w ∈ lw_tbl := zi_cons zw_1682 (zi_app (zi_cons zw_1414 (zi_cons zw_1413 zi_nil)) (zi_app inX12 zi_nil))
set_option maxHeartbeats 4000000 in
set_option maxRecDepth 100000 in
theorem m139_X12_copies (l : Launch) (D : va_G) (zt : Nat × Nat × Nat) (g : Nat → ClassId) (r : Nat → Nat) : GM l D zt (tyM g) yX12_copies wz_m139_X12_copies ({ frames := 0, cells := 0, slots := 0, locals := 0 } : Room) [.ref (r 0)] (wM r g iM1 aM1 lM1) (fun v _ w' => v = none ∧ w' = wM r g iM1 (up2 aM1 18 (cp (aM1 17) (aM1 18) 165)) lM1) 0 0 := by
  refine GM.of (cc := cX12_copies) (maxL := 2) (ret := none) (own := RX12) (lv := [(0, .ref (r 0))]) (by decide) rfl rfl (Nat.le_of_ble_eq_true rfl) rfl (fun κ sz hk hR hN => ?_)
  have hin12 : ∀ w ∈ u_ws RX12 TX12 55, w ∈ wz_m139_X12_copies := fun w h => (List.mem_cons_of_mem _ (List.mem_append_right _ (List.mem_append_left _ h)))
  refine g_iconst (v := 0) hk dX12_copies_0 (by decide) ?_
  refine g_istore_n (lv' := [(1, .int 0), (0, .ref (r 0))]) hk dX12_copies_1 (by decide) rfl ?_
  have lp368 : ∀ (n370 k369 : Nat), k369 + n370 = 165 → GW κ 2 0 0 (wM r g iM1 (up2 aM1 18 (cp (aM1 17) (aM1 18) k369)) lM1) 2 [(1, .int (nI k369)), (0, .ref (r 0))] [] := by
    intro n370
    induction n370 with
    | zero =>
      intro k369 hk369
      obtain rfl : k369 = 165 := by omega
      show GW κ 2 0 0 (wM r g iM1 (up2 aM1 18 (cp (aM1 17) (aM1 18) 165)) lM1) 2 [(1, .int 165), (0, .ref (r 0))] []
      refine g_iload_n hk dX12_copies_2 rfl ?_
      refine g_sipush (v := 165) hk dX12_copies_3 (by decide) ?_
      refine g_icmp_ge (tgt := 27) (a := 165) (b := 165) hk dX12_copies_6 (by decide) rfl rfl (fun _ => ?_) (fun z9 => absurd (show (165 : Int) ≤ (165 : Int) from by decide) z9)
      exact g_vret hk hR ⟨rfl, rfl⟩ dX12_copies_27
    | succ n370 ih =>
      intro k369 hk369
      obtain ⟨x371, ex371⟩ : ∃ x : Int32, x = nI k369 := ⟨_, rfl⟩
      have hx371 : x371.toInt = (k369 : Int) := by rw [ex371]; exact nI_toInt (by omega)
      rw [← ex371]
      refine g_iload_n hk dX12_copies_2 rfl ?_
      refine g_sipush (v := 165) hk dX12_copies_3 (by decide) ?_
      refine g_icmp_ge (tgt := 27) (a := x371.toInt) (b := 165) hk dX12_copies_6 (by decide) rfl rfl (fun z9 => absurd z9 (show ¬ (165 ≤ x371.toInt) from by omega)) (fun _ => ?_)
      refine g_aload_n hk dX12_copies_9 rfl ?_
      refine gM_r0_36 hk hin12 (List.mem_cons_of_mem _ (List.mem_append_left _ (List.mem_of_getElem? (i := 0) rfl))) dX12_copies_10 ?_
      refine g_iload_n hk dX12_copies_13 rfl ?_
      refine g_aload_n hk dX12_copies_14 rfl ?_
      refine gM_r0_35 hk hin12 (List.mem_cons_of_mem _ (List.mem_append_left _ (List.mem_of_getElem? (i := 1) rfl))) dX12_copies_15 ?_
      refine g_iload_n hk dX12_copies_18 rfl ?_
      refine lM_17 (v := ((up2 aM1 18 (cp (aM1 17) (aM1 18) k369)) 17 (k369))) hk (vp_in_iff.mpr ⟨by omega, by omega⟩) (by rw [ex371, nI_clamp (by omega)]) dX12_copies_19 ?_
      refine sM_18 (j := k369) hk (vp_in_iff.mpr ⟨by omega, by omega⟩) (by rw [ex371]; exact nI_clamp (by omega)) dX12_copies_20 ?_
      obtain ⟨y372, ey372⟩ : ∃ y : Int32, y = x371 + Int32.ofInt 1 := ⟨_, rfl⟩
      refine g_iinc (v := y372) (lv' := [(1, .int y372), (0, .ref (r 0))]) hk 0 dX12_copies_21 rfl ey372.symm (by decide) rfl ?_
      have fy372 : y372 = nI (k369 + 1) := by rw [ey372, ex371]; exact nI_1 (k369)
      refine g_goto (tgt := 2) hk dX12_copies_24 (by decide) ?_
      rw [fy372]
      have eW : wM r g iM1 (up3 (up2 aM1 18 (cp (aM1 17) (aM1 18) k369)) 18 (k369) ((up2 aM1 18 (cp (aM1 17) (aM1 18) k369)) 17 (k369))) lM1 = wM r g iM1 (up2 aM1 18 (cp (aM1 17) (aM1 18) (k369 + 1))) lM1 := by rw [← cp_s (aM1 17) (aM1 18) (k369)]; rfl
      rw [eW]
      exact g_lv (List.forall_mem_cons.mpr ⟨List.mem_of_getElem? (i := 0) rfl, (List.forall_mem_cons.mpr ⟨List.mem_of_getElem? (i := 1) rfl, (fun _ h => absurd h List.not_mem_nil)⟩)⟩) (ih (k369 + 1) (by omega))
  exact lp368 165 0 (by omega)
def wo_m141_X12_keepsRow : List Cond := [Cond.fieldLink RX12 70 "WarpDeskModel" "now" "[I", Cond.fieldLink RX12 73 "WarpDeskModel" "row" "[I"]
def wz_m141_X12_keepsRow : List Cond := .code yX12_keepsRow cX12_keepsRow 2 none :: (wo_m141_X12_keepsRow ++ (wsX120 ++ ([] : List Cond)))
theorem zg_m141_X12_keepsRow : ∀ w ∈ wz_m141_X12_keepsRow, goodWord w = true := zg_cons rfl (zg_app (by decide +kernel) (zg_app zgU_wsX120 zg_nil))
theorem zi_m141_X12_keepsRow : ∀ w ∈ wz_m141_X12_keepsRow, w ∈ lw_tbl := zi_cons zw_1379 (zi_app (zi_cons zw_1413 (zi_cons zw_1414 zi_nil)) (zi_app inX12 zi_nil))
set_option maxHeartbeats 4000000 in
set_option maxRecDepth 100000 in
theorem m141_X12_keepsRow (l : Launch) (D : va_G) (zt : Nat × Nat × Nat) (F377 : Nat → Int32) (a367 : Int32) (g : Nat → ClassId) (r : Nat → Nat) : GM l D zt (tyM g) yX12_keepsRow wz_m141_X12_keepsRow ({ frames := 0, cells := 0, slots := 0, locals := 0 } : Room) [.ref (r 0)] (wM r g (upd iM1 22 1) (up2 (up3 (up3 (up2 aM1 18 (cp (aM1 17) (aM1 18) 165)) 18 1 a367) 18 0 1) 22 F377) lM1) (fun v _ w' => v = none ∧ w' = wM r g (upd iM1 22 1) (up2 (up2 (up3 (up3 (up2 aM1 18 (cp (aM1 17) (aM1 18) 165)) 18 1 a367) 18 0 1) 22 F377) 17 (cp ((up2 (up3 (up3 (up2 aM1 18 (cp (aM1 17) (aM1 18) 165)) 18 1 a367) 18 0 1) 22 F377) 18) ((up2 (up3 (up3 (up2 aM1 18 (cp (aM1 17) (aM1 18) 165)) 18 1 a367) 18 0 1) 22 F377) 17) 165)) lM1) 0 0 := by
  refine GM.of (cc := cX12_keepsRow) (maxL := 2) (ret := none) (own := RX12) (lv := [(0, .ref (r 0))]) (by decide) rfl rfl (Nat.le_of_ble_eq_true rfl) rfl (fun κ sz hk hR hN => ?_)
  have hin12 : ∀ w ∈ u_ws RX12 TX12 55, w ∈ wz_m141_X12_keepsRow := fun w h => (List.mem_cons_of_mem _ (List.mem_append_right _ (List.mem_append_left _ h)))
  refine g_iconst (v := 0) hk dX12_keepsRow_0 (by decide) ?_
  refine g_istore_n (lv' := [(1, .int 0), (0, .ref (r 0))]) hk dX12_keepsRow_1 (by decide) rfl ?_
  have lp378 : ∀ (n380 k379 : Nat), k379 + n380 = 165 → GW κ 2 0 0 (wM r g (upd iM1 22 1) (up2 (up2 (up3 (up3 (up2 aM1 18 (cp (aM1 17) (aM1 18) 165)) 18 1 a367) 18 0 1) 22 F377) 17 (cp ((up2 (up3 (up3 (up2 aM1 18 (cp (aM1 17) (aM1 18) 165)) 18 1 a367) 18 0 1) 22 F377) 18) ((up2 (up3 (up3 (up2 aM1 18 (cp (aM1 17) (aM1 18) 165)) 18 1 a367) 18 0 1) 22 F377) 17) k379)) lM1) 2 [(1, .int (nI k379)), (0, .ref (r 0))] [] := by
    intro n380
    induction n380 with
    | zero =>
      intro k379 hk379
      obtain rfl : k379 = 165 := by omega
      show GW κ 2 0 0 (wM r g (upd iM1 22 1) (up2 (up2 (up3 (up3 (up2 aM1 18 (cp (aM1 17) (aM1 18) 165)) 18 1 a367) 18 0 1) 22 F377) 17 (cp ((up2 (up3 (up3 (up2 aM1 18 (cp (aM1 17) (aM1 18) 165)) 18 1 a367) 18 0 1) 22 F377) 18) ((up2 (up3 (up3 (up2 aM1 18 (cp (aM1 17) (aM1 18) 165)) 18 1 a367) 18 0 1) 22 F377) 17) 165)) lM1) 2 [(1, .int 165), (0, .ref (r 0))] []
      refine g_iload_n hk dX12_keepsRow_2 rfl ?_
      refine g_sipush (v := 165) hk dX12_keepsRow_3 (by decide) ?_
      refine g_icmp_ge (tgt := 27) (a := 165) (b := 165) hk dX12_keepsRow_6 (by decide) rfl rfl (fun _ => ?_) (fun z9 => absurd (show (165 : Int) ≤ (165 : Int) from by decide) z9)
      exact g_vret hk hR ⟨rfl, rfl⟩ dX12_keepsRow_27
    | succ n380 ih =>
      intro k379 hk379
      obtain ⟨x381, ex381⟩ : ∃ x : Int32, x = nI k379 := ⟨_, rfl⟩
      have hx381 : x381.toInt = (k379 : Int) := by rw [ex381]; exact nI_toInt (by omega)
      rw [← ex381]
      refine g_iload_n hk dX12_keepsRow_2 rfl ?_
      refine g_sipush (v := 165) hk dX12_keepsRow_3 (by decide) ?_
      refine g_icmp_ge (tgt := 27) (a := x381.toInt) (b := 165) hk dX12_keepsRow_6 (by decide) rfl rfl (fun z9 => absurd z9 (show ¬ (165 ≤ x381.toInt) from by omega)) (fun _ => ?_)
      refine g_aload_n hk dX12_keepsRow_9 rfl ?_
      refine gM_r0_35 hk hin12 (List.mem_cons_of_mem _ (List.mem_append_left _ (List.mem_of_getElem? (i := 0) rfl))) dX12_keepsRow_10 ?_
      refine g_iload_n hk dX12_keepsRow_13 rfl ?_
      refine g_aload_n hk dX12_keepsRow_14 rfl ?_
      refine gM_r0_36 hk hin12 (List.mem_cons_of_mem _ (List.mem_append_left _ (List.mem_of_getElem? (i := 1) rfl))) dX12_keepsRow_15 ?_
      refine g_iload_n hk dX12_keepsRow_18 rfl ?_
      refine lM_18 (v := ((up2 (up2 (up3 (up3 (up2 aM1 18 (cp (aM1 17) (aM1 18) 165)) 18 1 a367) 18 0 1) 22 F377) 17 (cp ((up2 (up3 (up3 (up2 aM1 18 (cp (aM1 17) (aM1 18) 165)) 18 1 a367) 18 0 1) 22 F377) 18) ((up2 (up3 (up3 (up2 aM1 18 (cp (aM1 17) (aM1 18) 165)) 18 1 a367) 18 0 1) 22 F377) 17) k379)) 18 (k379))) hk (vp_in_iff.mpr ⟨by omega, by omega⟩) (by rw [ex381, nI_clamp (by omega)]) dX12_keepsRow_19 ?_
      refine sM_17 (j := k379) hk (vp_in_iff.mpr ⟨by omega, by omega⟩) (by rw [ex381]; exact nI_clamp (by omega)) dX12_keepsRow_20 ?_
      obtain ⟨y382, ey382⟩ : ∃ y : Int32, y = x381 + Int32.ofInt 1 := ⟨_, rfl⟩
      refine g_iinc (v := y382) (lv' := [(1, .int y382), (0, .ref (r 0))]) hk 0 dX12_keepsRow_21 rfl ey382.symm (by decide) rfl ?_
      have fy382 : y382 = nI (k379 + 1) := by rw [ey382, ex381]; exact nI_1 (k379)
      refine g_goto (tgt := 2) hk dX12_keepsRow_24 (by decide) ?_
      rw [fy382]
      have eW : wM r g (upd iM1 22 1) (up3 (up2 (up2 (up3 (up3 (up2 aM1 18 (cp (aM1 17) (aM1 18) 165)) 18 1 a367) 18 0 1) 22 F377) 17 (cp ((up2 (up3 (up3 (up2 aM1 18 (cp (aM1 17) (aM1 18) 165)) 18 1 a367) 18 0 1) 22 F377) 18) ((up2 (up3 (up3 (up2 aM1 18 (cp (aM1 17) (aM1 18) 165)) 18 1 a367) 18 0 1) 22 F377) 17) k379)) 17 (k379) ((up2 (up2 (up3 (up3 (up2 aM1 18 (cp (aM1 17) (aM1 18) 165)) 18 1 a367) 18 0 1) 22 F377) 17 (cp ((up2 (up3 (up3 (up2 aM1 18 (cp (aM1 17) (aM1 18) 165)) 18 1 a367) 18 0 1) 22 F377) 18) ((up2 (up3 (up3 (up2 aM1 18 (cp (aM1 17) (aM1 18) 165)) 18 1 a367) 18 0 1) 22 F377) 17) k379)) 18 (k379))) lM1 = wM r g (upd iM1 22 1) (up2 (up2 (up3 (up3 (up2 aM1 18 (cp (aM1 17) (aM1 18) 165)) 18 1 a367) 18 0 1) 22 F377) 17 (cp ((up2 (up3 (up3 (up2 aM1 18 (cp (aM1 17) (aM1 18) 165)) 18 1 a367) 18 0 1) 22 F377) 18) ((up2 (up3 (up3 (up2 aM1 18 (cp (aM1 17) (aM1 18) 165)) 18 1 a367) 18 0 1) 22 F377) 17) (k379 + 1))) lM1 := by rw [← cp_s ((up2 (up3 (up3 (up2 aM1 18 (cp (aM1 17) (aM1 18) 165)) 18 1 a367) 18 0 1) 22 F377) 18) ((up2 (up3 (up3 (up2 aM1 18 (cp (aM1 17) (aM1 18) 165)) 18 1 a367) 18 0 1) 22 F377) 17) (k379)]; rfl
      rw [eW]
      exact g_lv (List.forall_mem_cons.mpr ⟨List.mem_of_getElem? (i := 0) rfl, (List.forall_mem_cons.mpr ⟨List.mem_of_getElem? (i := 1) rfl, (fun _ h => absurd h List.not_mem_nil)⟩)⟩) (ih (k379 + 1) (by omega))
  exact lp378 165 0 (by omega)
def wo_m140_X12_records : List Cond := [Cond.fieldLink RX12 209 "WarpDeskModel" "undos" "I", Cond.methodLink RX12 121 yX12_keepsRow, Cond.instanceMethod yX12_keepsRow, Cond.selects RX12 yX12_keepsRow yX12_keepsRow, Cond.initialized RX12, Cond.fieldLink RX12 85 "WarpDeskModel" "history" "[I", Cond.fieldLink RX12 70 "WarpDeskModel" "now" "[I"]
def wz_m140_X12_records : List Cond := .code yX12_records cX12_records 2 none :: (wo_m140_X12_records ++ (wsX120 ++ (wz_m141_X12_keepsRow ++ ([] : List Cond))))
theorem zg_m140_X12_records : ∀ w ∈ wz_m140_X12_records, goodWord w = true := zg_cons rfl (zg_app (by decide +kernel) (zg_app zgU_wsX120 (zg_app zg_m141_X12_keepsRow zg_nil)))
theorem zi_m140_X12_records : ∀ w ∈ wz_m140_X12_records, w ∈ lw_tbl := zi_cons zw_1686 (zi_app (zi_cons zw_1422 (zi_cons zw_1376 (zi_cons zw_1378 (zi_cons zw_46 (zi_cons zw_115 (zi_cons zw_1423 (zi_cons zw_1413 zi_nil))))))) (zi_app inX12 (zi_app zi_m141_X12_keepsRow zi_nil)))
set_option maxHeartbeats 4000000 in
set_option maxRecDepth 100000 in
theorem m140_X12_records (l : Launch) (D : va_G) (zt : Nat × Nat × Nat) (a367 : Int32) (g : Nat → ClassId) (r : Nat → Nat) : GM l D zt (tyM g) yX12_records wz_m140_X12_records ({ frames := 1, cells := 0, slots := 0, locals := 21 } : Room) [.ref (r 0)] (wM r g iM1 (up3 (up3 (up2 aM1 18 (cp (aM1 17) (aM1 18) 165)) 18 1 a367) 18 0 1) lM1) (fun v _ w' => ∃ (F377 : Nat → Int32), v = none ∧ w' = wM r g (upd iM1 22 1) (up2 (up2 (up3 (up3 (up2 aM1 18 (cp (aM1 17) (aM1 18) 165)) 18 1 a367) 18 0 1) 22 F377) 17 (cp ((up2 (up3 (up3 (up2 aM1 18 (cp (aM1 17) (aM1 18) 165)) 18 1 a367) 18 0 1) 22 F377) 18) ((up2 (up3 (up3 (up2 aM1 18 (cp (aM1 17) (aM1 18) 165)) 18 1 a367) 18 0 1) 22 F377) 17) 165)) lM1) 0 0 := by
  refine GM.of (cc := cX12_records) (maxL := 2) (ret := none) (own := RX12) (lv := [(0, .ref (r 0))]) (by decide) rfl rfl (Nat.le_of_ble_eq_true rfl) rfl (fun κ sz hk hR hN => ?_)
  have hin12 : ∀ w ∈ u_ws RX12 TX12 55, w ∈ wz_m140_X12_records := fun w h => (List.mem_cons_of_mem _ (List.mem_append_right _ (List.mem_append_left _ h)))
  refine g_aload_n hk dX12_records_0 rfl ?_
  refine gM_i22 (v := 0) hk hin12 (List.mem_cons_of_mem _ (List.mem_append_left _ (List.mem_of_getElem? (i := 0) rfl))) dX12_records_1 rfl ?_
  refine g_bipush (v := 40) hk dX12_records_4 (by decide) ?_
  refine g_icmp_ne (tgt := 50) (a := 0) (b := 40) hk dX12_records_6 (by decide) rfl rfl (fun _ => ?_) (fun z9 => absurd (show (0 : Int) ≠ (40 : Int) from by decide) z9)
  refine g_iconst (v := 0) hk dX12_records_50 (by decide) ?_
  refine g_istore_n (lv' := [(1, .int 0), (0, .ref (r 0))]) hk dX12_records_51 (by decide) rfl ?_
  have lp373 : ∀ (n375 k374 : Nat) (F377 : Nat → Int32), k374 + n375 = 165 → GW κ 2 0 0 (wM r g iM1 (up2 (up3 (up3 (up2 aM1 18 (cp (aM1 17) (aM1 18) 165)) 18 1 a367) 18 0 1) 22 F377) lM1) 52 [(1, .int (nI k374)), (0, .ref (r 0))] [] := by
    intro n375
    induction n375 with
    | zero =>
      intro k374 F377 hk374
      obtain rfl : k374 = 165 := by omega
      show GW κ 2 0 0 (wM r g iM1 (up2 (up3 (up3 (up2 aM1 18 (cp (aM1 17) (aM1 18) 165)) 18 1 a367) 18 0 1) 22 F377) lM1) 52 [(1, .int 165), (0, .ref (r 0))] []
      refine g_iload_n hk dX12_records_52 rfl ?_
      refine g_sipush (v := 165) hk dX12_records_53 (by decide) ?_
      refine g_icmp_ge (tgt := 86) (a := 165) (b := 165) hk dX12_records_56 (by decide) rfl rfl (fun _ => ?_) (fun z9 => absurd (show (165 : Int) ≤ (165 : Int) from by decide) z9)
      refine g_aload_n hk dX12_records_86 rfl ?_
      refine g_dup hk dX12_records_87 rfl ?_
      refine gM_i22 (v := 0) hk hin12 (List.mem_cons_of_mem _ (List.mem_append_left _ (List.mem_of_getElem? (i := 0) rfl))) dX12_records_88 rfl ?_
      refine g_iconst (v := 1) hk dX12_records_91 (by decide) ?_
      refine g_iadd hk dX12_records_92 ?_
      refine g_norm (v := 1) (by decide) ?_
      refine pM_i22 hk hin12 (List.mem_cons_of_mem _ (List.mem_append_left _ (List.mem_of_getElem? (i := 0) rfl))) dX12_records_93 ?_
      refine g_aload_n hk dX12_records_96 rfl ?_
      refine g_callV (n := 0) hk (m141_X12_keepsRow l D zt F377 a367 g r) (SP.same _) (fun _ h => h) (gi_V (List.mem_cons_of_mem _ (List.mem_append_left _ (List.mem_of_getElem? (i := 1) rfl))) (List.mem_cons_of_mem _ (List.mem_append_left _ (List.mem_of_getElem? (i := 2) rfl))) (List.mem_cons_of_mem _ (List.mem_append_left _ (List.mem_of_getElem? (i := 3) rfl))) (List.mem_cons_of_mem _ (List.mem_append_left _ (List.mem_of_getElem? (i := 4) rfl))) (gi_sub (fun w h => (List.mem_cons_of_mem _ (List.mem_append_right _ (List.mem_append_right _ (List.mem_append_left _ h))))) zg_m141_X12_keepsRow)) rfl rfl rfl (by decide +kernel) ⟨Nat.le_of_ble_eq_true rfl, Nat.le_of_ble_eq_true rfl⟩ 0 rfl rfl rfl rfl (Nat.le_of_ble_eq_true rfl) ⟨Nat.le_of_ble_eq_true rfl, Nat.le_of_ble_eq_true rfl⟩ dX12_records_97 (fun v ty' w' hp hk' => ?_)
      obtain ⟨rfl, rfl⟩ := hp
      show GW κ 2 0 0 (wM r g (upd iM1 22 1) (up2 (up2 (up3 (up3 (up2 aM1 18 (cp (aM1 17) (aM1 18) 165)) 18 1 a367) 18 0 1) 22 F377) 17 (cp ((up2 (up3 (up3 (up2 aM1 18 (cp (aM1 17) (aM1 18) 165)) 18 1 a367) 18 0 1) 22 F377) 18) ((up2 (up3 (up3 (up2 aM1 18 (cp (aM1 17) (aM1 18) 165)) 18 1 a367) 18 0 1) 22 F377) 17) 165)) lM1) 100 [(1, .int 165), (0, .ref (r 0))] []
      exact g_vret hk hR ⟨F377, rfl, rfl⟩ dX12_records_100
    | succ n375 ih =>
      intro k374 F377 hk374
      obtain ⟨x376, ex376⟩ : ∃ x : Int32, x = nI k374 := ⟨_, rfl⟩
      have hx376 : x376.toInt = (k374 : Int) := by rw [ex376]; exact nI_toInt (by omega)
      rw [← ex376]
      refine g_iload_n hk dX12_records_52 rfl ?_
      refine g_sipush (v := 165) hk dX12_records_53 (by decide) ?_
      refine g_icmp_ge (tgt := 86) (a := x376.toInt) (b := 165) hk dX12_records_56 (by decide) rfl rfl (fun z9 => absurd z9 (show ¬ (165 ≤ x376.toInt) from by omega)) (fun _ => ?_)
      refine g_aload_n hk dX12_records_59 rfl ?_
      refine gM_r0_45 hk hin12 (List.mem_cons_of_mem _ (List.mem_append_left _ (List.mem_of_getElem? (i := 5) rfl))) dX12_records_60 ?_
      refine g_sipush (v := 165) hk dX12_records_63 (by decide) ?_
      refine g_aload_n hk dX12_records_66 rfl ?_
      refine gM_i22 (v := 0) hk hin12 (List.mem_cons_of_mem _ (List.mem_append_left _ (List.mem_of_getElem? (i := 0) rfl))) dX12_records_67 rfl ?_
      refine g_imul hk dX12_records_70 ?_
      refine g_norm (v := 0) (by decide) ?_
      refine g_iload_n hk dX12_records_71 rfl ?_
      refine g_iadd hk dX12_records_72 ?_
      refine g_topi (fun y383 ey383 => ?_)
      have fy383 : y383 = nI (0 + k374) := by rw [ey383, ex376]; exact nI_add 0 (k374)
      have hy383 : y383.toInt = ((0 + k374 : Nat) : Int) := by rw [fy383]; exact nI_toInt (by omega)
      refine g_aload_n hk dX12_records_73 rfl ?_
      refine gM_r0_35 hk hin12 (List.mem_cons_of_mem _ (List.mem_append_left _ (List.mem_of_getElem? (i := 6) rfl))) dX12_records_74 ?_
      refine g_iload_n hk dX12_records_77 rfl ?_
      refine lM_17 (v := ((up2 (up3 (up3 (up2 aM1 18 (cp (aM1 17) (aM1 18) 165)) 18 1 a367) 18 0 1) 22 F377) 17 (k374))) hk (vp_in_iff.mpr ⟨by omega, by omega⟩) (by rw [ex376, nI_clamp (by omega)]) dX12_records_78 ?_
      refine sM_22 (j := 0 + k374) hk (vp_in_iff.mpr ⟨by omega, by omega⟩) (by rw [fy383]; exact nI_clamp (by omega)) dX12_records_79 ?_
      obtain ⟨y384, ey384⟩ : ∃ y : Int32, y = x376 + Int32.ofInt 1 := ⟨_, rfl⟩
      refine g_iinc (v := y384) (lv' := [(1, .int y384), (0, .ref (r 0))]) hk 0 dX12_records_80 rfl ey384.symm (by decide) rfl ?_
      have fy384 : y384 = nI (k374 + 1) := by rw [ey384, ex376]; exact nI_1 (k374)
      refine g_goto (tgt := 52) hk dX12_records_83 (by decide) ?_
      rw [fy384]
      exact g_lv (List.forall_mem_cons.mpr ⟨List.mem_of_getElem? (i := 0) rfl, (List.forall_mem_cons.mpr ⟨List.mem_of_getElem? (i := 1) rfl, (fun _ h => absurd h List.not_mem_nil)⟩)⟩) (ih (k374 + 1) (upd F377 (0 + k374) ((up2 (up3 (up3 (up2 aM1 18 (cp (aM1 17) (aM1 18) 165)) 18 1 a367) 18 0 1) 22 F377) 17 (k374))) (by omega))
  exact lp373 165 0 ((up3 (up3 (up2 aM1 18 (cp (aM1 17) (aM1 18) 165)) 18 1 a367) 18 0 1) 22) (by omega)
def wo_m138_X12_comes : List Cond := [Cond.fieldLink RX12 70 "WarpDeskModel" "now" "[I", Cond.methodLink RX12 323 yX12_copies, Cond.instanceMethod yX12_copies, Cond.selects RX12 yX12_copies yX12_copies, Cond.initialized RX12, Cond.fieldLink RX12 73 "WarpDeskModel" "row" "[I", Cond.methodLink RX12 326 yX12_records, Cond.instanceMethod yX12_records, Cond.selects RX12 yX12_records yX12_records]
def wz_m138_X12_comes : List Cond := .code yX12_comes cX12_comes 2 (some .int) :: (wo_m138_X12_comes ++ (wsX120 ++ (wz_m139_X12_copies ++ (wz_m140_X12_records ++ ([] : List Cond)))))
theorem zg_m138_X12_comes : ∀ w ∈ wz_m138_X12_comes, goodWord w = true := zg_cons rfl (zg_app (by decide +kernel) (zg_app zgU_wsX120 (zg_app zg_m139_X12_copies (zg_app zg_m140_X12_records zg_nil))))
theorem zi_m138_X12_comes : ∀ w ∈ wz_m138_X12_comes, w ∈ lw_tbl := zi_cons zw_1678 (zi_app (zi_cons zw_1413 (zi_cons zw_1679 (zi_cons zw_1681 (zi_cons zw_70 (zi_cons zw_115 (zi_cons zw_1414 (zi_cons zw_1683 (zi_cons zw_1685 (zi_cons zw_71 zi_nil))))))))) (zi_app inX12 (zi_app zi_m139_X12_copies (zi_app zi_m140_X12_records zi_nil))))
set_option maxHeartbeats 4000000 in
set_option maxRecDepth 100000 in
theorem m138_X12_comes (l : Launch) (D : va_G) (zt : Nat × Nat × Nat) (g : Nat → ClassId) (r : Nat → Nat) (a367 : Int32) (h0 : (-999) ≤ a367.toInt) (h1 : a367.toInt ≤ 999) : GM l D zt (tyM g) yX12_comes wz_m138_X12_comes ({ frames := 2, cells := 0, slots := 0, locals := 42 } : Room) [.ref (r 0), .int a367] (wM r g iM1 aM1 lM1) (fun v _ w' => ∃ (y385 : Nat → Int32), v = some (.int 1) ∧ w' = wM r g (upd iM1 22 1) (up2 (up2 (up3 (up3 (up2 aM1 18 (cp (aM1 17) (aM1 18) 165)) 18 1 a367) 18 0 1) 22 y385) 17 (cp ((up2 (up3 (up3 (up2 aM1 18 (cp (aM1 17) (aM1 18) 165)) 18 1 a367) 18 0 1) 22 y385) 18) ((up2 (up3 (up3 (up2 aM1 18 (cp (aM1 17) (aM1 18) 165)) 18 1 a367) 18 0 1) 22 y385) 17) 165)) lM1) 0 0 := by
  refine GM.of (cc := cX12_comes) (maxL := 2) (ret := (some .int)) (own := RX12) (lv := [(0, .ref (r 0)), (1, .int a367)]) (by decide) rfl rfl (Nat.le_of_ble_eq_true rfl) rfl (fun κ sz hk hR hN => ?_)
  have hin12 : ∀ w ∈ u_ws RX12 TX12 55, w ∈ wz_m138_X12_comes := fun w h => (List.mem_cons_of_mem _ (List.mem_append_right _ (List.mem_append_left _ h)))
  refine g_aload_n hk dX12_comes_0 rfl ?_
  refine gM_r0_35 hk hin12 (List.mem_cons_of_mem _ (List.mem_append_left _ (List.mem_of_getElem? (i := 0) rfl))) dX12_comes_1 ?_
  refine g_iconst (v := 0) hk dX12_comes_4 (by decide) ?_
  refine lM_17 (v := 0) hk (vp_in_iff.mpr ⟨by decide, by decide⟩) rfl dX12_comes_5 ?_
  refine g_sipush (v := 160) hk dX12_comes_6 (by decide) ?_
  refine g_icmp_ne (tgt := 14) (a := 0) (b := 160) hk dX12_comes_9 (by decide) rfl rfl (fun _ => ?_) (fun z9 => absurd (show (0 : Int) ≠ (160 : Int) from by decide) z9)
  refine g_aload_n hk dX12_comes_14 rfl ?_
  refine g_callV (n := 0) hk (m139_X12_copies l D zt g r) (SP.same _) (fun _ h => h) (gi_V (List.mem_cons_of_mem _ (List.mem_append_left _ (List.mem_of_getElem? (i := 1) rfl))) (List.mem_cons_of_mem _ (List.mem_append_left _ (List.mem_of_getElem? (i := 2) rfl))) (List.mem_cons_of_mem _ (List.mem_append_left _ (List.mem_of_getElem? (i := 3) rfl))) (List.mem_cons_of_mem _ (List.mem_append_left _ (List.mem_of_getElem? (i := 4) rfl))) (gi_sub (fun w h => (List.mem_cons_of_mem _ (List.mem_append_right _ (List.mem_append_right _ (List.mem_append_left _ h))))) zg_m139_X12_copies)) rfl rfl rfl (by decide +kernel) ⟨Nat.le_of_ble_eq_true rfl, Nat.le_of_ble_eq_true rfl⟩ 0 rfl rfl rfl rfl (Nat.le_of_ble_eq_true rfl) ⟨Nat.le_of_ble_eq_true rfl, Nat.le_of_ble_eq_true rfl⟩ dX12_comes_15 (fun v ty' w' hp hk' => ?_)
  obtain ⟨rfl, rfl⟩ := hp
  show GW κ 2 0 0 (wM r g iM1 (up2 aM1 18 (cp (aM1 17) (aM1 18) 165)) lM1) 18 [(0, .ref (r 0)), (1, .int a367)] []
  refine g_aload_n hk dX12_comes_18 rfl ?_
  refine gM_r0_36 hk hin12 (List.mem_cons_of_mem _ (List.mem_append_left _ (List.mem_of_getElem? (i := 5) rfl))) dX12_comes_19 ?_
  refine g_iconst (v := 1) hk dX12_comes_22 (by decide) ?_
  refine g_aload_n hk dX12_comes_23 rfl ?_
  refine gM_r0_36 hk hin12 (List.mem_cons_of_mem _ (List.mem_append_left _ (List.mem_of_getElem? (i := 5) rfl))) dX12_comes_24 ?_
  refine g_iconst (v := 0) hk dX12_comes_27 (by decide) ?_
  refine lM_18 (v := 0) hk (vp_in_iff.mpr ⟨by decide, by decide⟩) rfl dX12_comes_28 ?_
  refine g_iadd hk dX12_comes_29 ?_
  refine g_norm (v := 1) (by decide) ?_
  refine g_iload_n hk dX12_comes_30 rfl ?_
  refine sM_18 (j := 1) hk (vp_in_iff.mpr ⟨by decide, by decide⟩) (by decide) dX12_comes_31 ?_
  refine g_aload_n hk dX12_comes_32 rfl ?_
  refine gM_r0_36 hk hin12 (List.mem_cons_of_mem _ (List.mem_append_left _ (List.mem_of_getElem? (i := 5) rfl))) dX12_comes_33 ?_
  refine g_iconst (v := 0) hk dX12_comes_36 (by decide) ?_
  refine g_dup2 hk dX12_comes_37 rfl rfl ?_
  refine lM_18 (v := 0) hk (vp_in_iff.mpr ⟨by decide, by decide⟩) rfl dX12_comes_38 ?_
  refine g_iconst (v := 1) hk dX12_comes_39 (by decide) ?_
  refine g_iadd hk dX12_comes_40 ?_
  refine g_norm (v := 1) (by decide) ?_
  refine sM_18 (j := 0) hk (vp_in_iff.mpr ⟨by decide, by decide⟩) (by decide) dX12_comes_41 ?_
  refine g_aload_n hk dX12_comes_42 rfl ?_
  refine g_callV (n := 0) hk (m140_X12_records l D zt a367 g r) (SP.same _) (fun _ h => h) (gi_V (List.mem_cons_of_mem _ (List.mem_append_left _ (List.mem_of_getElem? (i := 6) rfl))) (List.mem_cons_of_mem _ (List.mem_append_left _ (List.mem_of_getElem? (i := 7) rfl))) (List.mem_cons_of_mem _ (List.mem_append_left _ (List.mem_of_getElem? (i := 8) rfl))) (List.mem_cons_of_mem _ (List.mem_append_left _ (List.mem_of_getElem? (i := 4) rfl))) (gi_sub (fun w h => (List.mem_cons_of_mem _ (List.mem_append_right _ (List.mem_append_right _ (List.mem_append_right _ (List.mem_append_left _ h)))))) zg_m140_X12_records)) rfl rfl rfl (by decide +kernel) ⟨Nat.le_of_ble_eq_true rfl, Nat.le_of_ble_eq_true rfl⟩ 0 rfl rfl rfl rfl (Nat.le_of_ble_eq_true rfl) ⟨Nat.le_of_ble_eq_true rfl, Nat.le_of_ble_eq_true rfl⟩ dX12_comes_43 (fun v ty' w' hp hk' => ?_)
  obtain ⟨y385, rfl, rfl⟩ := hp
  show GW κ 2 0 0 (wM r g (upd iM1 22 1) (up2 (up2 (up3 (up3 (up2 aM1 18 (cp (aM1 17) (aM1 18) 165)) 18 1 a367) 18 0 1) 22 y385) 17 (cp ((up2 (up3 (up3 (up2 aM1 18 (cp (aM1 17) (aM1 18) 165)) 18 1 a367) 18 0 1) 22 y385) 18) ((up2 (up3 (up3 (up2 aM1 18 (cp (aM1 17) (aM1 18) 165)) 18 1 a367) 18 0 1) 22 y385) 17) 165)) lM1) 46 [(0, .ref (r 0)), (1, .int a367)] []
  refine g_aload_n hk dX12_comes_46 rfl ?_
  refine gM_r0_35 hk hin12 (List.mem_cons_of_mem _ (List.mem_append_left _ (List.mem_of_getElem? (i := 0) rfl))) dX12_comes_47 ?_
  refine g_iconst (v := 0) hk dX12_comes_50 (by decide) ?_
  refine lM_17 (v := 1) hk (vp_in_iff.mpr ⟨by decide, by decide⟩) rfl dX12_comes_51 ?_
  exact g_iret hk hR rfl ⟨y385, rfl, rfl⟩ dX12_comes_52
def wo_m136_X12_push : List Cond := [Cond.methodLink RX12 244 yX12_in, Cond.static yX12_in, Cond.initialized RX12, Cond.methodLink RX12 329 yX12_comes, Cond.instanceMethod yX12_comes, Cond.selects RX12 yX12_comes yX12_comes]
def wz_m136_X12_push : List Cond := .code yX12_push cX12_push 2 (some .int) :: (wo_m136_X12_push ++ (wz_m137_X12_in ++ (wz_m138_X12_comes ++ ([] : List Cond))))
theorem zg_m136_X12_push : ∀ w ∈ wz_m136_X12_push, goodWord w = true := zg_cons rfl (zg_app (by decide +kernel) (zg_app zg_m137_X12_in (zg_app zg_m138_X12_comes zg_nil)))
theorem zi_m136_X12_push : ∀ w ∈ wz_m136_X12_push, w ∈ lw_tbl := zi_cons zw_1674 (zi_app (zi_cons zw_1656 (zi_cons zw_1657 (zi_cons zw_115 (zi_cons zw_1675 (zi_cons zw_1677 (zi_cons zw_69 zi_nil)))))) (zi_app zi_m137_X12_in (zi_app zi_m138_X12_comes zi_nil)))
set_option maxHeartbeats 4000000 in
set_option maxRecDepth 100000 in
theorem m136_X12_push (l : Launch) (D : va_G) (zt : Nat × Nat × Nat) (g : Nat → ClassId) (r : Nat → Nat) (a358 : Int32) : GM l D zt (tyM g) yX12_push wz_m136_X12_push ({ frames := 3, cells := 0, slots := 0, locals := 63 } : Room) [.ref (r 0), .int a358] (wM r g iM1 aM1 lM1) (fun v _ w' => ((a358.toInt < (-999)) ∧ v = some (.int (-1)) ∧ w' = wM r g iM1 aM1 lM1) ∨ ((¬ (a358.toInt < (-999))) ∧ (999 < a358.toInt) ∧ v = some (.int (-1)) ∧ w' = wM r g iM1 aM1 lM1) ∨ (∃ (y386 : Nat → Int32), (¬ (a358.toInt < (-999))) ∧ (¬ (999 < a358.toInt)) ∧ v = some (.int 1) ∧ w' = wM r g (upd iM1 22 1) (up2 (up2 (up3 (up3 (up2 aM1 18 (cp (aM1 17) (aM1 18) 165)) 18 1 a358) 18 0 1) 22 y386) 17 (cp ((up2 (up3 (up3 (up2 aM1 18 (cp (aM1 17) (aM1 18) 165)) 18 1 a358) 18 0 1) 22 y386) 18) ((up2 (up3 (up3 (up2 aM1 18 (cp (aM1 17) (aM1 18) 165)) 18 1 a358) 18 0 1) 22 y386) 17) 165)) lM1)) 0 0 := by
  refine GM.of (cc := cX12_push) (maxL := 2) (ret := (some .int)) (own := RX12) (lv := [(0, .ref (r 0)), (1, .int a358)]) (by decide) rfl rfl (Nat.le_of_ble_eq_true rfl) rfl (fun κ sz hk hR hN => ?_)
  refine g_iload_n hk dX12_push_0 rfl ?_
  refine g_sipush (v := (-999)) hk dX12_push_1 (by decide) ?_
  refine g_sipush (v := 999) hk dX12_push_4 (by decide) ?_
  refine g_callS (n := 3) hk (m137_X12_in l D zt g r a358) (SP.same _) (fun _ h => h) (gi_S (List.mem_cons_of_mem _ (List.mem_append_left _ (List.mem_of_getElem? (i := 0) rfl))) (List.mem_cons_of_mem _ (List.mem_append_left _ (List.mem_of_getElem? (i := 1) rfl))) (List.mem_cons_of_mem _ (List.mem_append_left _ (List.mem_of_getElem? (i := 2) rfl))) (gi_sub (fun w h => (List.mem_cons_of_mem _ (List.mem_append_right _ (List.mem_append_left _ h)))) zg_m137_X12_in)) rfl rfl rfl (by decide +kernel) ⟨Nat.le_of_ble_eq_true rfl, Nat.le_of_ble_eq_true rfl⟩ rfl rfl (Nat.le_of_ble_eq_true rfl) ⟨Nat.le_of_ble_eq_true rfl, Nat.le_of_ble_eq_true rfl⟩ dX12_push_7 (fun v ty' w' hp hk' => ?_)
  rcases hp with ⟨c362, rfl, rfl⟩ | ⟨c363, c364, rfl, rfl⟩ | ⟨c365, c366, rfl, rfl⟩
  · show GW κ 2 0 0 (wM r g iM1 aM1 lM1) 10 [(0, .ref (r 0)), (1, .int a358)] [.int 0]
    refine g_if_eq (tgt := 21) (a := 0) hk dX12_push_10 (by decide) rfl (fun _ => ?_) (fun z9 => absurd (show (0 : Int) = (0 : Int) from by decide) z9)
    refine g_iconst (v := (-1)) hk dX12_push_21 (by decide) ?_
    exact g_iret hk hR rfl (Or.inl ⟨c362, rfl, rfl⟩) dX12_push_22
  · show GW κ 2 0 0 (wM r g iM1 aM1 lM1) 10 [(0, .ref (r 0)), (1, .int a358)] [.int 0]
    refine g_if_eq (tgt := 21) (a := 0) hk dX12_push_10 (by decide) rfl (fun _ => ?_) (fun z9 => absurd (show (0 : Int) = (0 : Int) from by decide) z9)
    refine g_iconst (v := (-1)) hk dX12_push_21 (by decide) ?_
    exact g_iret hk hR rfl (Or.inr (Or.inl ⟨c363, c364, rfl, rfl⟩)) dX12_push_22
  · show GW κ 2 0 0 (wM r g iM1 aM1 lM1) 10 [(0, .ref (r 0)), (1, .int a358)] [.int 1]
    refine g_if_eq (tgt := 21) (a := 1) hk dX12_push_10 (by decide) rfl (fun z9 => absurd z9 (show ¬ ((1 : Int) = (0 : Int)) from by decide)) (fun _ => ?_)
    refine g_aload_n hk dX12_push_13 rfl ?_
    refine g_iload_n hk dX12_push_14 rfl ?_
    refine g_callV (n := 1) hk (m138_X12_comes l D zt g r a358 (by omega) (by omega)) (SP.same _) (fun _ h => h) (gi_V (List.mem_cons_of_mem _ (List.mem_append_left _ (List.mem_of_getElem? (i := 3) rfl))) (List.mem_cons_of_mem _ (List.mem_append_left _ (List.mem_of_getElem? (i := 4) rfl))) (List.mem_cons_of_mem _ (List.mem_append_left _ (List.mem_of_getElem? (i := 5) rfl))) (List.mem_cons_of_mem _ (List.mem_append_left _ (List.mem_of_getElem? (i := 2) rfl))) (gi_sub (fun w h => (List.mem_cons_of_mem _ (List.mem_append_right _ (List.mem_append_right _ (List.mem_append_left _ h))))) zg_m138_X12_comes)) rfl rfl rfl (by decide +kernel) ⟨Nat.le_of_ble_eq_true rfl, Nat.le_of_ble_eq_true rfl⟩ 0 rfl rfl rfl rfl (Nat.le_of_ble_eq_true rfl) ⟨Nat.le_of_ble_eq_true rfl, Nat.le_of_ble_eq_true rfl⟩ dX12_push_15 (fun v ty' w' hp hk' => ?_)
    obtain ⟨y386, rfl, rfl⟩ := hp
    show GW κ 2 0 0 (wM r g (upd iM1 22 1) (up2 (up2 (up3 (up3 (up2 aM1 18 (cp (aM1 17) (aM1 18) 165)) 18 1 a358) 18 0 1) 22 y386) 17 (cp ((up2 (up3 (up3 (up2 aM1 18 (cp (aM1 17) (aM1 18) 165)) 18 1 a358) 18 0 1) 22 y386) 18) ((up2 (up3 (up3 (up2 aM1 18 (cp (aM1 17) (aM1 18) 165)) 18 1 a358) 18 0 1) 22 y386) 17) 165)) lM1) 18 [(0, .ref (r 0)), (1, .int a358)] [.int 1]
    refine g_goto (tgt := 22) hk dX12_push_18 (by decide) ?_
    exact g_iret hk hR rfl (Or.inr (Or.inr (⟨y386, c365, c366, rfl, rfl⟩))) dX12_push_22
def wo_m145_X12_keepsRow : List Cond := [Cond.fieldLink RX12 70 "WarpDeskModel" "now" "[I", Cond.fieldLink RX12 73 "WarpDeskModel" "row" "[I"]
def wz_m145_X12_keepsRow : List Cond := .code yX12_keepsRow cX12_keepsRow 2 none :: (wo_m145_X12_keepsRow ++ (wsX120 ++ ([] : List Cond)))
theorem zg_m145_X12_keepsRow : ∀ w ∈ wz_m145_X12_keepsRow, goodWord w = true := zg_cons rfl (zg_app (by decide +kernel) (zg_app zgU_wsX120 zg_nil))
theorem zi_m145_X12_keepsRow : ∀ w ∈ wz_m145_X12_keepsRow, w ∈ lw_tbl := zi_cons zw_1379 (zi_app (zi_cons zw_1413 (zi_cons zw_1414 zi_nil)) (zi_app inX12 zi_nil))
set_option maxHeartbeats 4000000 in
set_option maxRecDepth 100000 in
theorem m145_X12_keepsRow (l : Launch) (D : va_G) (zt : Nat × Nat × Nat) (F391 : Nat → Int32) (g : Nat → ClassId) (r : Nat → Nat) : GM l D zt (tyM g) yX12_keepsRow wz_m145_X12_keepsRow ({ frames := 0, cells := 0, slots := 0, locals := 0 } : Room) [.ref (r 0)] (wM r g (upd iM1 22 1) (up2 (up3 (up3 (up2 aM1 18 (cp (aM1 17) (aM1 18) 165)) 18 1 100000) 18 0 1) 22 F391) lM1) (fun v _ w' => v = none ∧ w' = wM r g (upd iM1 22 1) (up2 (up2 (up3 (up3 (up2 aM1 18 (cp (aM1 17) (aM1 18) 165)) 18 1 100000) 18 0 1) 22 F391) 17 (cp ((up2 (up3 (up3 (up2 aM1 18 (cp (aM1 17) (aM1 18) 165)) 18 1 100000) 18 0 1) 22 F391) 18) ((up2 (up3 (up3 (up2 aM1 18 (cp (aM1 17) (aM1 18) 165)) 18 1 100000) 18 0 1) 22 F391) 17) 165)) lM1) 0 0 := by
  refine GM.of (cc := cX12_keepsRow) (maxL := 2) (ret := none) (own := RX12) (lv := [(0, .ref (r 0))]) (by decide) rfl rfl (Nat.le_of_ble_eq_true rfl) rfl (fun κ sz hk hR hN => ?_)
  have hin12 : ∀ w ∈ u_ws RX12 TX12 55, w ∈ wz_m145_X12_keepsRow := fun w h => (List.mem_cons_of_mem _ (List.mem_append_right _ (List.mem_append_left _ h)))
  refine g_iconst (v := 0) hk dX12_keepsRow_0 (by decide) ?_
  refine g_istore_n (lv' := [(1, .int 0), (0, .ref (r 0))]) hk dX12_keepsRow_1 (by decide) rfl ?_
  have lp392 : ∀ (n394 k393 : Nat), k393 + n394 = 165 → GW κ 2 0 0 (wM r g (upd iM1 22 1) (up2 (up2 (up3 (up3 (up2 aM1 18 (cp (aM1 17) (aM1 18) 165)) 18 1 100000) 18 0 1) 22 F391) 17 (cp ((up2 (up3 (up3 (up2 aM1 18 (cp (aM1 17) (aM1 18) 165)) 18 1 100000) 18 0 1) 22 F391) 18) ((up2 (up3 (up3 (up2 aM1 18 (cp (aM1 17) (aM1 18) 165)) 18 1 100000) 18 0 1) 22 F391) 17) k393)) lM1) 2 [(1, .int (nI k393)), (0, .ref (r 0))] [] := by
    intro n394
    induction n394 with
    | zero =>
      intro k393 hk393
      obtain rfl : k393 = 165 := by omega
      show GW κ 2 0 0 (wM r g (upd iM1 22 1) (up2 (up2 (up3 (up3 (up2 aM1 18 (cp (aM1 17) (aM1 18) 165)) 18 1 100000) 18 0 1) 22 F391) 17 (cp ((up2 (up3 (up3 (up2 aM1 18 (cp (aM1 17) (aM1 18) 165)) 18 1 100000) 18 0 1) 22 F391) 18) ((up2 (up3 (up3 (up2 aM1 18 (cp (aM1 17) (aM1 18) 165)) 18 1 100000) 18 0 1) 22 F391) 17) 165)) lM1) 2 [(1, .int 165), (0, .ref (r 0))] []
      refine g_iload_n hk dX12_keepsRow_2 rfl ?_
      refine g_sipush (v := 165) hk dX12_keepsRow_3 (by decide) ?_
      refine g_icmp_ge (tgt := 27) (a := 165) (b := 165) hk dX12_keepsRow_6 (by decide) rfl rfl (fun _ => ?_) (fun z9 => absurd (show (165 : Int) ≤ (165 : Int) from by decide) z9)
      exact g_vret hk hR ⟨rfl, rfl⟩ dX12_keepsRow_27
    | succ n394 ih =>
      intro k393 hk393
      obtain ⟨x395, ex395⟩ : ∃ x : Int32, x = nI k393 := ⟨_, rfl⟩
      have hx395 : x395.toInt = (k393 : Int) := by rw [ex395]; exact nI_toInt (by omega)
      rw [← ex395]
      refine g_iload_n hk dX12_keepsRow_2 rfl ?_
      refine g_sipush (v := 165) hk dX12_keepsRow_3 (by decide) ?_
      refine g_icmp_ge (tgt := 27) (a := x395.toInt) (b := 165) hk dX12_keepsRow_6 (by decide) rfl rfl (fun z9 => absurd z9 (show ¬ (165 ≤ x395.toInt) from by omega)) (fun _ => ?_)
      refine g_aload_n hk dX12_keepsRow_9 rfl ?_
      refine gM_r0_35 hk hin12 (List.mem_cons_of_mem _ (List.mem_append_left _ (List.mem_of_getElem? (i := 0) rfl))) dX12_keepsRow_10 ?_
      refine g_iload_n hk dX12_keepsRow_13 rfl ?_
      refine g_aload_n hk dX12_keepsRow_14 rfl ?_
      refine gM_r0_36 hk hin12 (List.mem_cons_of_mem _ (List.mem_append_left _ (List.mem_of_getElem? (i := 1) rfl))) dX12_keepsRow_15 ?_
      refine g_iload_n hk dX12_keepsRow_18 rfl ?_
      refine lM_18 (v := ((up2 (up2 (up3 (up3 (up2 aM1 18 (cp (aM1 17) (aM1 18) 165)) 18 1 100000) 18 0 1) 22 F391) 17 (cp ((up2 (up3 (up3 (up2 aM1 18 (cp (aM1 17) (aM1 18) 165)) 18 1 100000) 18 0 1) 22 F391) 18) ((up2 (up3 (up3 (up2 aM1 18 (cp (aM1 17) (aM1 18) 165)) 18 1 100000) 18 0 1) 22 F391) 17) k393)) 18 (k393))) hk (vp_in_iff.mpr ⟨by omega, by omega⟩) (by rw [ex395, nI_clamp (by omega)]) dX12_keepsRow_19 ?_
      refine sM_17 (j := k393) hk (vp_in_iff.mpr ⟨by omega, by omega⟩) (by rw [ex395]; exact nI_clamp (by omega)) dX12_keepsRow_20 ?_
      obtain ⟨y396, ey396⟩ : ∃ y : Int32, y = x395 + Int32.ofInt 1 := ⟨_, rfl⟩
      refine g_iinc (v := y396) (lv' := [(1, .int y396), (0, .ref (r 0))]) hk 0 dX12_keepsRow_21 rfl ey396.symm (by decide) rfl ?_
      have fy396 : y396 = nI (k393 + 1) := by rw [ey396, ex395]; exact nI_1 (k393)
      refine g_goto (tgt := 2) hk dX12_keepsRow_24 (by decide) ?_
      rw [fy396]
      have eW : wM r g (upd iM1 22 1) (up3 (up2 (up2 (up3 (up3 (up2 aM1 18 (cp (aM1 17) (aM1 18) 165)) 18 1 100000) 18 0 1) 22 F391) 17 (cp ((up2 (up3 (up3 (up2 aM1 18 (cp (aM1 17) (aM1 18) 165)) 18 1 100000) 18 0 1) 22 F391) 18) ((up2 (up3 (up3 (up2 aM1 18 (cp (aM1 17) (aM1 18) 165)) 18 1 100000) 18 0 1) 22 F391) 17) k393)) 17 (k393) ((up2 (up2 (up3 (up3 (up2 aM1 18 (cp (aM1 17) (aM1 18) 165)) 18 1 100000) 18 0 1) 22 F391) 17 (cp ((up2 (up3 (up3 (up2 aM1 18 (cp (aM1 17) (aM1 18) 165)) 18 1 100000) 18 0 1) 22 F391) 18) ((up2 (up3 (up3 (up2 aM1 18 (cp (aM1 17) (aM1 18) 165)) 18 1 100000) 18 0 1) 22 F391) 17) k393)) 18 (k393))) lM1 = wM r g (upd iM1 22 1) (up2 (up2 (up3 (up3 (up2 aM1 18 (cp (aM1 17) (aM1 18) 165)) 18 1 100000) 18 0 1) 22 F391) 17 (cp ((up2 (up3 (up3 (up2 aM1 18 (cp (aM1 17) (aM1 18) 165)) 18 1 100000) 18 0 1) 22 F391) 18) ((up2 (up3 (up3 (up2 aM1 18 (cp (aM1 17) (aM1 18) 165)) 18 1 100000) 18 0 1) 22 F391) 17) (k393 + 1))) lM1 := by rw [← cp_s ((up2 (up3 (up3 (up2 aM1 18 (cp (aM1 17) (aM1 18) 165)) 18 1 100000) 18 0 1) 22 F391) 18) ((up2 (up3 (up3 (up2 aM1 18 (cp (aM1 17) (aM1 18) 165)) 18 1 100000) 18 0 1) 22 F391) 17) (k393)]; rfl
      rw [eW]
      exact g_lv (List.forall_mem_cons.mpr ⟨List.mem_of_getElem? (i := 0) rfl, (List.forall_mem_cons.mpr ⟨List.mem_of_getElem? (i := 1) rfl, (fun _ h => absurd h List.not_mem_nil)⟩)⟩) (ih (k393 + 1) (by omega))
  exact lp392 165 0 (by omega)
def wo_m144_X12_records : List Cond := [Cond.fieldLink RX12 209 "WarpDeskModel" "undos" "I", Cond.methodLink RX12 121 yX12_keepsRow, Cond.instanceMethod yX12_keepsRow, Cond.selects RX12 yX12_keepsRow yX12_keepsRow, Cond.initialized RX12, Cond.fieldLink RX12 85 "WarpDeskModel" "history" "[I", Cond.fieldLink RX12 70 "WarpDeskModel" "now" "[I"]
def wz_m144_X12_records : List Cond := .code yX12_records cX12_records 2 none :: (wo_m144_X12_records ++ (wsX120 ++ (wz_m145_X12_keepsRow ++ ([] : List Cond))))
theorem zg_m144_X12_records : ∀ w ∈ wz_m144_X12_records, goodWord w = true := zg_cons rfl (zg_app (by decide +kernel) (zg_app zgU_wsX120 (zg_app zg_m145_X12_keepsRow zg_nil)))
theorem zi_m144_X12_records : ∀ w ∈ wz_m144_X12_records, w ∈ lw_tbl := zi_cons zw_1686 (zi_app (zi_cons zw_1422 (zi_cons zw_1376 (zi_cons zw_1378 (zi_cons zw_46 (zi_cons zw_115 (zi_cons zw_1423 (zi_cons zw_1413 zi_nil))))))) (zi_app inX12 (zi_app zi_m145_X12_keepsRow zi_nil)))
set_option maxHeartbeats 4000000 in
set_option maxRecDepth 100000 in
theorem m144_X12_records (l : Launch) (D : va_G) (zt : Nat × Nat × Nat) (g : Nat → ClassId) (r : Nat → Nat) : GM l D zt (tyM g) yX12_records wz_m144_X12_records ({ frames := 1, cells := 0, slots := 0, locals := 21 } : Room) [.ref (r 0)] (wM r g iM1 (up3 (up3 (up2 aM1 18 (cp (aM1 17) (aM1 18) 165)) 18 1 100000) 18 0 1) lM1) (fun v _ w' => ∃ (F391 : Nat → Int32), v = none ∧ w' = wM r g (upd iM1 22 1) (up2 (up2 (up3 (up3 (up2 aM1 18 (cp (aM1 17) (aM1 18) 165)) 18 1 100000) 18 0 1) 22 F391) 17 (cp ((up2 (up3 (up3 (up2 aM1 18 (cp (aM1 17) (aM1 18) 165)) 18 1 100000) 18 0 1) 22 F391) 18) ((up2 (up3 (up3 (up2 aM1 18 (cp (aM1 17) (aM1 18) 165)) 18 1 100000) 18 0 1) 22 F391) 17) 165)) lM1) 0 0 := by
  refine GM.of (cc := cX12_records) (maxL := 2) (ret := none) (own := RX12) (lv := [(0, .ref (r 0))]) (by decide) rfl rfl (Nat.le_of_ble_eq_true rfl) rfl (fun κ sz hk hR hN => ?_)
  have hin12 : ∀ w ∈ u_ws RX12 TX12 55, w ∈ wz_m144_X12_records := fun w h => (List.mem_cons_of_mem _ (List.mem_append_right _ (List.mem_append_left _ h)))
  refine g_aload_n hk dX12_records_0 rfl ?_
  refine gM_i22 (v := 0) hk hin12 (List.mem_cons_of_mem _ (List.mem_append_left _ (List.mem_of_getElem? (i := 0) rfl))) dX12_records_1 rfl ?_
  refine g_bipush (v := 40) hk dX12_records_4 (by decide) ?_
  refine g_icmp_ne (tgt := 50) (a := 0) (b := 40) hk dX12_records_6 (by decide) rfl rfl (fun _ => ?_) (fun z9 => absurd (show (0 : Int) ≠ (40 : Int) from by decide) z9)
  refine g_iconst (v := 0) hk dX12_records_50 (by decide) ?_
  refine g_istore_n (lv' := [(1, .int 0), (0, .ref (r 0))]) hk dX12_records_51 (by decide) rfl ?_
  have lp387 : ∀ (n389 k388 : Nat) (F391 : Nat → Int32), k388 + n389 = 165 → GW κ 2 0 0 (wM r g iM1 (up2 (up3 (up3 (up2 aM1 18 (cp (aM1 17) (aM1 18) 165)) 18 1 100000) 18 0 1) 22 F391) lM1) 52 [(1, .int (nI k388)), (0, .ref (r 0))] [] := by
    intro n389
    induction n389 with
    | zero =>
      intro k388 F391 hk388
      obtain rfl : k388 = 165 := by omega
      show GW κ 2 0 0 (wM r g iM1 (up2 (up3 (up3 (up2 aM1 18 (cp (aM1 17) (aM1 18) 165)) 18 1 100000) 18 0 1) 22 F391) lM1) 52 [(1, .int 165), (0, .ref (r 0))] []
      refine g_iload_n hk dX12_records_52 rfl ?_
      refine g_sipush (v := 165) hk dX12_records_53 (by decide) ?_
      refine g_icmp_ge (tgt := 86) (a := 165) (b := 165) hk dX12_records_56 (by decide) rfl rfl (fun _ => ?_) (fun z9 => absurd (show (165 : Int) ≤ (165 : Int) from by decide) z9)
      refine g_aload_n hk dX12_records_86 rfl ?_
      refine g_dup hk dX12_records_87 rfl ?_
      refine gM_i22 (v := 0) hk hin12 (List.mem_cons_of_mem _ (List.mem_append_left _ (List.mem_of_getElem? (i := 0) rfl))) dX12_records_88 rfl ?_
      refine g_iconst (v := 1) hk dX12_records_91 (by decide) ?_
      refine g_iadd hk dX12_records_92 ?_
      refine g_norm (v := 1) (by decide) ?_
      refine pM_i22 hk hin12 (List.mem_cons_of_mem _ (List.mem_append_left _ (List.mem_of_getElem? (i := 0) rfl))) dX12_records_93 ?_
      refine g_aload_n hk dX12_records_96 rfl ?_
      refine g_callV (n := 0) hk (m145_X12_keepsRow l D zt F391 g r) (SP.same _) (fun _ h => h) (gi_V (List.mem_cons_of_mem _ (List.mem_append_left _ (List.mem_of_getElem? (i := 1) rfl))) (List.mem_cons_of_mem _ (List.mem_append_left _ (List.mem_of_getElem? (i := 2) rfl))) (List.mem_cons_of_mem _ (List.mem_append_left _ (List.mem_of_getElem? (i := 3) rfl))) (List.mem_cons_of_mem _ (List.mem_append_left _ (List.mem_of_getElem? (i := 4) rfl))) (gi_sub (fun w h => (List.mem_cons_of_mem _ (List.mem_append_right _ (List.mem_append_right _ (List.mem_append_left _ h))))) zg_m145_X12_keepsRow)) rfl rfl rfl (by decide +kernel) ⟨Nat.le_of_ble_eq_true rfl, Nat.le_of_ble_eq_true rfl⟩ 0 rfl rfl rfl rfl (Nat.le_of_ble_eq_true rfl) ⟨Nat.le_of_ble_eq_true rfl, Nat.le_of_ble_eq_true rfl⟩ dX12_records_97 (fun v ty' w' hp hk' => ?_)
      obtain ⟨rfl, rfl⟩ := hp
      show GW κ 2 0 0 (wM r g (upd iM1 22 1) (up2 (up2 (up3 (up3 (up2 aM1 18 (cp (aM1 17) (aM1 18) 165)) 18 1 100000) 18 0 1) 22 F391) 17 (cp ((up2 (up3 (up3 (up2 aM1 18 (cp (aM1 17) (aM1 18) 165)) 18 1 100000) 18 0 1) 22 F391) 18) ((up2 (up3 (up3 (up2 aM1 18 (cp (aM1 17) (aM1 18) 165)) 18 1 100000) 18 0 1) 22 F391) 17) 165)) lM1) 100 [(1, .int 165), (0, .ref (r 0))] []
      exact g_vret hk hR ⟨F391, rfl, rfl⟩ dX12_records_100
    | succ n389 ih =>
      intro k388 F391 hk388
      obtain ⟨x390, ex390⟩ : ∃ x : Int32, x = nI k388 := ⟨_, rfl⟩
      have hx390 : x390.toInt = (k388 : Int) := by rw [ex390]; exact nI_toInt (by omega)
      rw [← ex390]
      refine g_iload_n hk dX12_records_52 rfl ?_
      refine g_sipush (v := 165) hk dX12_records_53 (by decide) ?_
      refine g_icmp_ge (tgt := 86) (a := x390.toInt) (b := 165) hk dX12_records_56 (by decide) rfl rfl (fun z9 => absurd z9 (show ¬ (165 ≤ x390.toInt) from by omega)) (fun _ => ?_)
      refine g_aload_n hk dX12_records_59 rfl ?_
      refine gM_r0_45 hk hin12 (List.mem_cons_of_mem _ (List.mem_append_left _ (List.mem_of_getElem? (i := 5) rfl))) dX12_records_60 ?_
      refine g_sipush (v := 165) hk dX12_records_63 (by decide) ?_
      refine g_aload_n hk dX12_records_66 rfl ?_
      refine gM_i22 (v := 0) hk hin12 (List.mem_cons_of_mem _ (List.mem_append_left _ (List.mem_of_getElem? (i := 0) rfl))) dX12_records_67 rfl ?_
      refine g_imul hk dX12_records_70 ?_
      refine g_norm (v := 0) (by decide) ?_
      refine g_iload_n hk dX12_records_71 rfl ?_
      refine g_iadd hk dX12_records_72 ?_
      refine g_topi (fun y397 ey397 => ?_)
      have fy397 : y397 = nI (0 + k388) := by rw [ey397, ex390]; exact nI_add 0 (k388)
      have hy397 : y397.toInt = ((0 + k388 : Nat) : Int) := by rw [fy397]; exact nI_toInt (by omega)
      refine g_aload_n hk dX12_records_73 rfl ?_
      refine gM_r0_35 hk hin12 (List.mem_cons_of_mem _ (List.mem_append_left _ (List.mem_of_getElem? (i := 6) rfl))) dX12_records_74 ?_
      refine g_iload_n hk dX12_records_77 rfl ?_
      refine lM_17 (v := ((up2 (up3 (up3 (up2 aM1 18 (cp (aM1 17) (aM1 18) 165)) 18 1 100000) 18 0 1) 22 F391) 17 (k388))) hk (vp_in_iff.mpr ⟨by omega, by omega⟩) (by rw [ex390, nI_clamp (by omega)]) dX12_records_78 ?_
      refine sM_22 (j := 0 + k388) hk (vp_in_iff.mpr ⟨by omega, by omega⟩) (by rw [fy397]; exact nI_clamp (by omega)) dX12_records_79 ?_
      obtain ⟨y398, ey398⟩ : ∃ y : Int32, y = x390 + Int32.ofInt 1 := ⟨_, rfl⟩
      refine g_iinc (v := y398) (lv' := [(1, .int y398), (0, .ref (r 0))]) hk 0 dX12_records_80 rfl ey398.symm (by decide) rfl ?_
      have fy398 : y398 = nI (k388 + 1) := by rw [ey398, ex390]; exact nI_1 (k388)
      refine g_goto (tgt := 52) hk dX12_records_83 (by decide) ?_
      rw [fy398]
      exact g_lv (List.forall_mem_cons.mpr ⟨List.mem_of_getElem? (i := 0) rfl, (List.forall_mem_cons.mpr ⟨List.mem_of_getElem? (i := 1) rfl, (fun _ h => absurd h List.not_mem_nil)⟩)⟩) (ih (k388 + 1) (upd F391 (0 + k388) ((up2 (up3 (up3 (up2 aM1 18 (cp (aM1 17) (aM1 18) 165)) 18 1 100000) 18 0 1) 22 F391) 17 (k388))) (by omega))
  exact lp387 165 0 ((up3 (up3 (up2 aM1 18 (cp (aM1 17) (aM1 18) 165)) 18 1 100000) 18 0 1) 22) (by omega)
def wo_m143_X12_comes : List Cond := [Cond.fieldLink RX12 70 "WarpDeskModel" "now" "[I", Cond.methodLink RX12 323 yX12_copies, Cond.instanceMethod yX12_copies, Cond.selects RX12 yX12_copies yX12_copies, Cond.initialized RX12, Cond.fieldLink RX12 73 "WarpDeskModel" "row" "[I", Cond.methodLink RX12 326 yX12_records, Cond.instanceMethod yX12_records, Cond.selects RX12 yX12_records yX12_records]
def wz_m143_X12_comes : List Cond := .code yX12_comes cX12_comes 2 (some .int) :: (wo_m143_X12_comes ++ (wsX120 ++ (wz_m139_X12_copies ++ (wz_m144_X12_records ++ ([] : List Cond)))))
theorem zg_m143_X12_comes : ∀ w ∈ wz_m143_X12_comes, goodWord w = true := zg_cons rfl (zg_app (by decide +kernel) (zg_app zgU_wsX120 (zg_app zg_m139_X12_copies (zg_app zg_m144_X12_records zg_nil))))
theorem zi_m143_X12_comes : ∀ w ∈ wz_m143_X12_comes, w ∈ lw_tbl := zi_cons zw_1678 (zi_app (zi_cons zw_1413 (zi_cons zw_1679 (zi_cons zw_1681 (zi_cons zw_70 (zi_cons zw_115 (zi_cons zw_1414 (zi_cons zw_1683 (zi_cons zw_1685 (zi_cons zw_71 zi_nil))))))))) (zi_app inX12 (zi_app zi_m139_X12_copies (zi_app zi_m144_X12_records zi_nil))))
set_option maxHeartbeats 4000000 in
set_option maxRecDepth 100000 in
theorem m143_X12_comes (l : Launch) (D : va_G) (zt : Nat × Nat × Nat) (g : Nat → ClassId) (r : Nat → Nat) : GM l D zt (tyM g) yX12_comes wz_m143_X12_comes ({ frames := 2, cells := 0, slots := 0, locals := 42 } : Room) [.ref (r 0), .int 100000] (wM r g iM1 aM1 lM1) (fun v _ w' => ∃ (y399 : Nat → Int32), v = some (.int 1) ∧ w' = wM r g (upd iM1 22 1) (up2 (up2 (up3 (up3 (up2 aM1 18 (cp (aM1 17) (aM1 18) 165)) 18 1 100000) 18 0 1) 22 y399) 17 (cp ((up2 (up3 (up3 (up2 aM1 18 (cp (aM1 17) (aM1 18) 165)) 18 1 100000) 18 0 1) 22 y399) 18) ((up2 (up3 (up3 (up2 aM1 18 (cp (aM1 17) (aM1 18) 165)) 18 1 100000) 18 0 1) 22 y399) 17) 165)) lM1) 0 0 := by
  refine GM.of (cc := cX12_comes) (maxL := 2) (ret := (some .int)) (own := RX12) (lv := [(0, .ref (r 0)), (1, .int 100000)]) (by decide) rfl rfl (Nat.le_of_ble_eq_true rfl) rfl (fun κ sz hk hR hN => ?_)
  have hin12 : ∀ w ∈ u_ws RX12 TX12 55, w ∈ wz_m143_X12_comes := fun w h => (List.mem_cons_of_mem _ (List.mem_append_right _ (List.mem_append_left _ h)))
  refine g_aload_n hk dX12_comes_0 rfl ?_
  refine gM_r0_35 hk hin12 (List.mem_cons_of_mem _ (List.mem_append_left _ (List.mem_of_getElem? (i := 0) rfl))) dX12_comes_1 ?_
  refine g_iconst (v := 0) hk dX12_comes_4 (by decide) ?_
  refine lM_17 (v := 0) hk (vp_in_iff.mpr ⟨by decide, by decide⟩) rfl dX12_comes_5 ?_
  refine g_sipush (v := 160) hk dX12_comes_6 (by decide) ?_
  refine g_icmp_ne (tgt := 14) (a := 0) (b := 160) hk dX12_comes_9 (by decide) rfl rfl (fun _ => ?_) (fun z9 => absurd (show (0 : Int) ≠ (160 : Int) from by decide) z9)
  refine g_aload_n hk dX12_comes_14 rfl ?_
  refine g_callV (n := 0) hk (m139_X12_copies l D zt g r) (SP.same _) (fun _ h => h) (gi_V (List.mem_cons_of_mem _ (List.mem_append_left _ (List.mem_of_getElem? (i := 1) rfl))) (List.mem_cons_of_mem _ (List.mem_append_left _ (List.mem_of_getElem? (i := 2) rfl))) (List.mem_cons_of_mem _ (List.mem_append_left _ (List.mem_of_getElem? (i := 3) rfl))) (List.mem_cons_of_mem _ (List.mem_append_left _ (List.mem_of_getElem? (i := 4) rfl))) (gi_sub (fun w h => (List.mem_cons_of_mem _ (List.mem_append_right _ (List.mem_append_right _ (List.mem_append_left _ h))))) zg_m139_X12_copies)) rfl rfl rfl (by decide +kernel) ⟨Nat.le_of_ble_eq_true rfl, Nat.le_of_ble_eq_true rfl⟩ 0 rfl rfl rfl rfl (Nat.le_of_ble_eq_true rfl) ⟨Nat.le_of_ble_eq_true rfl, Nat.le_of_ble_eq_true rfl⟩ dX12_comes_15 (fun v ty' w' hp hk' => ?_)
  obtain ⟨rfl, rfl⟩ := hp
  show GW κ 2 0 0 (wM r g iM1 (up2 aM1 18 (cp (aM1 17) (aM1 18) 165)) lM1) 18 [(0, .ref (r 0)), (1, .int 100000)] []
  refine g_aload_n hk dX12_comes_18 rfl ?_
  refine gM_r0_36 hk hin12 (List.mem_cons_of_mem _ (List.mem_append_left _ (List.mem_of_getElem? (i := 5) rfl))) dX12_comes_19 ?_
  refine g_iconst (v := 1) hk dX12_comes_22 (by decide) ?_
  refine g_aload_n hk dX12_comes_23 rfl ?_
  refine gM_r0_36 hk hin12 (List.mem_cons_of_mem _ (List.mem_append_left _ (List.mem_of_getElem? (i := 5) rfl))) dX12_comes_24 ?_
  refine g_iconst (v := 0) hk dX12_comes_27 (by decide) ?_
  refine lM_18 (v := 0) hk (vp_in_iff.mpr ⟨by decide, by decide⟩) rfl dX12_comes_28 ?_
  refine g_iadd hk dX12_comes_29 ?_
  refine g_norm (v := 1) (by decide) ?_
  refine g_iload_n hk dX12_comes_30 rfl ?_
  refine sM_18 (j := 1) hk (vp_in_iff.mpr ⟨by decide, by decide⟩) (by decide) dX12_comes_31 ?_
  refine g_aload_n hk dX12_comes_32 rfl ?_
  refine gM_r0_36 hk hin12 (List.mem_cons_of_mem _ (List.mem_append_left _ (List.mem_of_getElem? (i := 5) rfl))) dX12_comes_33 ?_
  refine g_iconst (v := 0) hk dX12_comes_36 (by decide) ?_
  refine g_dup2 hk dX12_comes_37 rfl rfl ?_
  refine lM_18 (v := 0) hk (vp_in_iff.mpr ⟨by decide, by decide⟩) rfl dX12_comes_38 ?_
  refine g_iconst (v := 1) hk dX12_comes_39 (by decide) ?_
  refine g_iadd hk dX12_comes_40 ?_
  refine g_norm (v := 1) (by decide) ?_
  refine sM_18 (j := 0) hk (vp_in_iff.mpr ⟨by decide, by decide⟩) (by decide) dX12_comes_41 ?_
  refine g_aload_n hk dX12_comes_42 rfl ?_
  refine g_callV (n := 0) hk (m144_X12_records l D zt g r) (SP.same _) (fun _ h => h) (gi_V (List.mem_cons_of_mem _ (List.mem_append_left _ (List.mem_of_getElem? (i := 6) rfl))) (List.mem_cons_of_mem _ (List.mem_append_left _ (List.mem_of_getElem? (i := 7) rfl))) (List.mem_cons_of_mem _ (List.mem_append_left _ (List.mem_of_getElem? (i := 8) rfl))) (List.mem_cons_of_mem _ (List.mem_append_left _ (List.mem_of_getElem? (i := 4) rfl))) (gi_sub (fun w h => (List.mem_cons_of_mem _ (List.mem_append_right _ (List.mem_append_right _ (List.mem_append_right _ (List.mem_append_left _ h)))))) zg_m144_X12_records)) rfl rfl rfl (by decide +kernel) ⟨Nat.le_of_ble_eq_true rfl, Nat.le_of_ble_eq_true rfl⟩ 0 rfl rfl rfl rfl (Nat.le_of_ble_eq_true rfl) ⟨Nat.le_of_ble_eq_true rfl, Nat.le_of_ble_eq_true rfl⟩ dX12_comes_43 (fun v ty' w' hp hk' => ?_)
  obtain ⟨y399, rfl, rfl⟩ := hp
  show GW κ 2 0 0 (wM r g (upd iM1 22 1) (up2 (up2 (up3 (up3 (up2 aM1 18 (cp (aM1 17) (aM1 18) 165)) 18 1 100000) 18 0 1) 22 y399) 17 (cp ((up2 (up3 (up3 (up2 aM1 18 (cp (aM1 17) (aM1 18) 165)) 18 1 100000) 18 0 1) 22 y399) 18) ((up2 (up3 (up3 (up2 aM1 18 (cp (aM1 17) (aM1 18) 165)) 18 1 100000) 18 0 1) 22 y399) 17) 165)) lM1) 46 [(0, .ref (r 0)), (1, .int 100000)] []
  refine g_aload_n hk dX12_comes_46 rfl ?_
  refine gM_r0_35 hk hin12 (List.mem_cons_of_mem _ (List.mem_append_left _ (List.mem_of_getElem? (i := 0) rfl))) dX12_comes_47 ?_
  refine g_iconst (v := 0) hk dX12_comes_50 (by decide) ?_
  refine lM_17 (v := 1) hk (vp_in_iff.mpr ⟨by decide, by decide⟩) rfl dX12_comes_51 ?_
  exact g_iret hk hR rfl ⟨y399, rfl, rfl⟩ dX12_comes_52
def wo_m142_X12_gap : List Cond := [Cond.constant RX12 239 (100000), Cond.methodLink RX12 329 yX12_comes, Cond.instanceMethod yX12_comes, Cond.selects RX12 yX12_comes yX12_comes, Cond.initialized RX12]
def wz_m142_X12_gap : List Cond := .code yX12_gap cX12_gap 1 (some .int) :: (wo_m142_X12_gap ++ (wz_m143_X12_comes ++ ([] : List Cond)))
theorem zg_m142_X12_gap : ∀ w ∈ wz_m142_X12_gap, goodWord w = true := zg_cons rfl (zg_app (by decide +kernel) (zg_app zg_m143_X12_comes zg_nil))
theorem zi_m142_X12_gap : ∀ w ∈ wz_m142_X12_gap, w ∈ lw_tbl := zi_cons zw_1690 (zi_app (zi_cons zw_1607 (zi_cons zw_1675 (zi_cons zw_1677 (zi_cons zw_69 (zi_cons zw_115 zi_nil))))) (zi_app zi_m143_X12_comes zi_nil))
set_option maxHeartbeats 4000000 in
set_option maxRecDepth 100000 in
theorem m142_X12_gap (l : Launch) (D : va_G) (zt : Nat × Nat × Nat) (g : Nat → ClassId) (r : Nat → Nat) : GM l D zt (tyM g) yX12_gap wz_m142_X12_gap ({ frames := 3, cells := 0, slots := 0, locals := 63 } : Room) [.ref (r 0)] (wM r g iM1 aM1 lM1) (fun v _ w' => ∃ (y400 : Nat → Int32), v = some (.int 1) ∧ w' = wM r g (upd iM1 22 1) (up2 (up2 (up3 (up3 (up2 aM1 18 (cp (aM1 17) (aM1 18) 165)) 18 1 100000) 18 0 1) 22 y400) 17 (cp ((up2 (up3 (up3 (up2 aM1 18 (cp (aM1 17) (aM1 18) 165)) 18 1 100000) 18 0 1) 22 y400) 18) ((up2 (up3 (up3 (up2 aM1 18 (cp (aM1 17) (aM1 18) 165)) 18 1 100000) 18 0 1) 22 y400) 17) 165)) lM1) 0 0 := by
  refine GM.of (cc := cX12_gap) (maxL := 1) (ret := (some .int)) (own := RX12) (lv := [(0, .ref (r 0))]) (by decide) rfl rfl (Nat.le_of_ble_eq_true rfl) rfl (fun κ sz hk hR hN => ?_)
  refine g_aload_n hk dX12_gap_0 rfl ?_
  refine g_ldc (v := 100000) hk (List.mem_cons_of_mem _ (List.mem_append_left _ (List.mem_of_getElem? (i := 0) rfl))) dX12_gap_1 ?_
  refine g_callV (n := 1) hk (m143_X12_comes l D zt g r) (SP.same _) (fun _ h => h) (gi_V (List.mem_cons_of_mem _ (List.mem_append_left _ (List.mem_of_getElem? (i := 1) rfl))) (List.mem_cons_of_mem _ (List.mem_append_left _ (List.mem_of_getElem? (i := 2) rfl))) (List.mem_cons_of_mem _ (List.mem_append_left _ (List.mem_of_getElem? (i := 3) rfl))) (List.mem_cons_of_mem _ (List.mem_append_left _ (List.mem_of_getElem? (i := 4) rfl))) (gi_sub (fun w h => (List.mem_cons_of_mem _ (List.mem_append_right _ (List.mem_append_left _ h)))) zg_m143_X12_comes)) rfl rfl rfl (by decide +kernel) ⟨Nat.le_of_ble_eq_true rfl, Nat.le_of_ble_eq_true rfl⟩ 0 rfl rfl rfl rfl (Nat.le_of_ble_eq_true rfl) ⟨Nat.le_of_ble_eq_true rfl, Nat.le_of_ble_eq_true rfl⟩ dX12_gap_3 (fun v ty' w' hp hk' => ?_)
  obtain ⟨y400, rfl, rfl⟩ := hp
  show GW κ 1 0 0 (wM r g (upd iM1 22 1) (up2 (up2 (up3 (up3 (up2 aM1 18 (cp (aM1 17) (aM1 18) 165)) 18 1 100000) 18 0 1) 22 y400) 17 (cp ((up2 (up3 (up3 (up2 aM1 18 (cp (aM1 17) (aM1 18) 165)) 18 1 100000) 18 0 1) 22 y400) 18) ((up2 (up3 (up3 (up2 aM1 18 (cp (aM1 17) (aM1 18) 165)) 18 1 100000) 18 0 1) 22 y400) 17) 165)) lM1) 6 [(0, .ref (r 0))] [.int 1]
  exact g_iret hk hR rfl ⟨y400, rfl, rfl⟩ dX12_gap_6
def wo_m146_X12_mend : List Cond := [Cond.methodLink RX12 248 yX12_isPlace, Cond.instanceMethod yX12_isPlace, Cond.selects RX12 yX12_isPlace yX12_isPlace, Cond.initialized RX12]
def wz_m146_X12_mend : List Cond := .code yX12_mend cX12_mend 2 (some .int) :: (wo_m146_X12_mend ++ (wz_m132_X12_isPlace ++ ([] : List Cond)))
theorem zg_m146_X12_mend : ∀ w ∈ wz_m146_X12_mend, goodWord w = true := zg_cons rfl (zg_app (by decide +kernel) (zg_app zg_m132_X12_isPlace zg_nil))
theorem zi_m146_X12_mend : ∀ w ∈ wz_m146_X12_mend, w ∈ lw_tbl := zi_cons zw_1694 (zi_app (zi_cons zw_1652 (zi_cons zw_1654 (zi_cons zw_66 (zi_cons zw_115 zi_nil)))) (zi_app zi_m132_X12_isPlace zi_nil))
set_option maxHeartbeats 4000000 in
set_option maxRecDepth 100000 in
theorem m146_X12_mend (l : Launch) (D : va_G) (zt : Nat × Nat × Nat) (g : Nat → ClassId) (r : Nat → Nat) (a401 : Int32) : GM l D zt (tyM g) yX12_mend wz_m146_X12_mend ({ frames := 2, cells := 0, slots := 0, locals := 43 } : Room) [.ref (r 0), .int a401] (wM r g iM1 aM1 lM1) (fun v _ w' => v = some (.int (-1000)) ∧ w' = wM r g iM1 aM1 lM1) 0 0 := by
  refine GM.of (cc := cX12_mend) (maxL := 2) (ret := (some .int)) (own := RX12) (lv := [(0, .ref (r 0)), (1, .int a401)]) (by decide) rfl rfl (Nat.le_of_ble_eq_true rfl) rfl (fun κ sz hk hR hN => ?_)
  refine g_aload_n hk dX12_mend_0 rfl ?_
  refine g_iload_n hk dX12_mend_1 rfl ?_
  refine g_callV (n := 1) hk (m132_X12_isPlace l D zt g r a401) (SP.same _) (fun _ h => h) (gi_V (List.mem_cons_of_mem _ (List.mem_append_left _ (List.mem_of_getElem? (i := 0) rfl))) (List.mem_cons_of_mem _ (List.mem_append_left _ (List.mem_of_getElem? (i := 1) rfl))) (List.mem_cons_of_mem _ (List.mem_append_left _ (List.mem_of_getElem? (i := 2) rfl))) (List.mem_cons_of_mem _ (List.mem_append_left _ (List.mem_of_getElem? (i := 3) rfl))) (gi_sub (fun w h => (List.mem_cons_of_mem _ (List.mem_append_right _ (List.mem_append_left _ h)))) zg_m132_X12_isPlace)) rfl rfl rfl (by decide +kernel) ⟨Nat.le_of_ble_eq_true rfl, Nat.le_of_ble_eq_true rfl⟩ 0 rfl rfl rfl rfl (Nat.le_of_ble_eq_true rfl) ⟨Nat.le_of_ble_eq_true rfl, Nat.le_of_ble_eq_true rfl⟩ dX12_mend_2 (fun v ty' w' hp hk' => ?_)
  obtain ⟨rfl, rfl⟩ := hp
  show GW κ 2 0 0 (wM r g iM1 aM1 lM1) 5 [(0, .ref (r 0)), (1, .int a401)] [.int 0]
  refine g_if_eq (tgt := 36) (a := 0) hk dX12_mend_5 (by decide) rfl (fun _ => ?_) (fun z9 => absurd (show (0 : Int) = (0 : Int) from by decide) z9)
  refine g_sipush (v := (-1000)) hk dX12_mend_36 (by decide) ?_
  exact g_iret hk hR rfl ⟨rfl, rfl⟩ dX12_mend_39
def wo_m148_X12_in : List Cond := []
def wz_m148_X12_in : List Cond := .code yX12_in cX12_in 3 (some .boolean) :: (wo_m148_X12_in ++ ([] : List Cond))
theorem zg_m148_X12_in : ∀ w ∈ wz_m148_X12_in, goodWord w = true := zg_cons rfl (zg_app (by decide +kernel) zg_nil)
theorem zi_m148_X12_in : ∀ w ∈ wz_m148_X12_in, w ∈ lw_tbl := zi_cons zw_1658 (zi_app zi_nil zi_nil)
set_option maxHeartbeats 4000000 in
set_option maxRecDepth 100000 in
theorem m148_X12_in (l : Launch) (D : va_G) (zt : Nat × Nat × Nat) (g : Nat → ClassId) (r : Nat → Nat) (a403 : Int32) : GM l D zt (tyM g) yX12_in wz_m148_X12_in ({ frames := 0, cells := 0, slots := 0, locals := 0 } : Room) [.int a403, .int 1, .int 0] (wM r g iM1 aM1 lM1) (fun v _ w' => v = some (.int 0) ∧ w' = wM r g iM1 aM1 lM1) 0 0 := by
  refine GM.of (cc := cX12_in) (maxL := 3) (ret := (some .boolean)) (own := RX12) (lv := [(0, .int a403), (1, .int 1), (2, .int 0)]) (by decide) rfl rfl (Nat.le_of_ble_eq_true rfl) rfl (fun κ sz hk hR hN => ?_)
  refine g_iload_n hk dX12_in_0 rfl ?_
  refine g_iload_n hk dX12_in_1 rfl ?_
  refine g_icmp_lt (tgt := 14) (a := a403.toInt) (b := 1) hk dX12_in_2 (by decide) rfl rfl (fun c404 => ?_) (fun c404 => ?_)
  · skip
    refine g_iconst (v := 0) hk dX12_in_14 (by decide) ?_
    exact g_iret hk hR rfl ⟨rfl, rfl⟩ dX12_in_15
  · skip
    refine g_iload_n hk dX12_in_5 rfl ?_
    refine g_iload_n hk dX12_in_6 rfl ?_
    refine g_icmp_gt (tgt := 14) (a := a403.toInt) (b := 0) hk dX12_in_7 (by decide) rfl rfl (fun _ => ?_) (fun z9 => absurd (show 0 < a403.toInt from by omega) z9)
    refine g_iconst (v := 0) hk dX12_in_14 (by decide) ?_
    exact g_iret hk hR rfl ⟨rfl, rfl⟩ dX12_in_15
def wo_m147_X12_drop : List Cond := [Cond.fieldLink RX12 70 "WarpDeskModel" "now" "[I", Cond.methodLink RX12 244 yX12_in, Cond.static yX12_in, Cond.initialized RX12]
def wz_m147_X12_drop : List Cond := .code yX12_drop cX12_drop 3 (some .boolean) :: (wo_m147_X12_drop ++ (wsX120 ++ (wz_m148_X12_in ++ ([] : List Cond))))
theorem zg_m147_X12_drop : ∀ w ∈ wz_m147_X12_drop, goodWord w = true := zg_cons rfl (zg_app (by decide +kernel) (zg_app zgU_wsX120 (zg_app zg_m148_X12_in zg_nil)))
theorem zi_m147_X12_drop : ∀ w ∈ wz_m147_X12_drop, w ∈ lw_tbl := zi_cons zw_1701 (zi_app (zi_cons zw_1413 (zi_cons zw_1656 (zi_cons zw_1657 (zi_cons zw_115 zi_nil)))) (zi_app inX12 (zi_app zi_m148_X12_in zi_nil)))
set_option maxHeartbeats 4000000 in
set_option maxRecDepth 100000 in
theorem m147_X12_drop (l : Launch) (D : va_G) (zt : Nat × Nat × Nat) (g : Nat → ClassId) (r : Nat → Nat) (a402 : Int32) : GM l D zt (tyM g) yX12_drop wz_m147_X12_drop ({ frames := 1, cells := 0, slots := 0, locals := 22 } : Room) [.ref (r 0), .int a402] (wM r g iM1 aM1 lM1) (fun v _ w' => v = some (.int 0) ∧ w' = wM r g iM1 aM1 lM1) 0 0 := by
  refine GM.of (cc := cX12_drop) (maxL := 3) (ret := (some .boolean)) (own := RX12) (lv := [(0, .ref (r 0)), (1, .int a402)]) (by decide) rfl rfl (Nat.le_of_ble_eq_true rfl) rfl (fun κ sz hk hR hN => ?_)
  have hin12 : ∀ w ∈ u_ws RX12 TX12 55, w ∈ wz_m147_X12_drop := fun w h => (List.mem_cons_of_mem _ (List.mem_append_right _ (List.mem_append_left _ h)))
  refine g_iload_n hk dX12_drop_0 rfl ?_
  refine g_iconst (v := 1) hk dX12_drop_1 (by decide) ?_
  refine g_aload_n hk dX12_drop_2 rfl ?_
  refine gM_r0_35 hk hin12 (List.mem_cons_of_mem _ (List.mem_append_left _ (List.mem_of_getElem? (i := 0) rfl))) dX12_drop_3 ?_
  refine g_iconst (v := 0) hk dX12_drop_6 (by decide) ?_
  refine lM_17 (v := 0) hk (vp_in_iff.mpr ⟨by decide, by decide⟩) rfl dX12_drop_7 ?_
  refine g_callS (n := 3) hk (m148_X12_in l D zt g r a402) (SP.same _) (fun _ h => h) (gi_S (List.mem_cons_of_mem _ (List.mem_append_left _ (List.mem_of_getElem? (i := 1) rfl))) (List.mem_cons_of_mem _ (List.mem_append_left _ (List.mem_of_getElem? (i := 2) rfl))) (List.mem_cons_of_mem _ (List.mem_append_left _ (List.mem_of_getElem? (i := 3) rfl))) (gi_sub (fun w h => (List.mem_cons_of_mem _ (List.mem_append_right _ (List.mem_append_right _ (List.mem_append_left _ h))))) zg_m148_X12_in)) rfl rfl rfl (by decide +kernel) ⟨Nat.le_of_ble_eq_true rfl, Nat.le_of_ble_eq_true rfl⟩ rfl rfl (Nat.le_of_ble_eq_true rfl) ⟨Nat.le_of_ble_eq_true rfl, Nat.le_of_ble_eq_true rfl⟩ dX12_drop_8 (fun v ty' w' hp hk' => ?_)
  obtain ⟨rfl, rfl⟩ := hp
  show GW κ 3 0 0 (wM r g iM1 aM1 lM1) 11 [(0, .ref (r 0)), (1, .int a402)] [.int 0]
  refine g_if_ne (tgt := 16) (a := 0) hk dX12_drop_11 (by decide) rfl (fun z9 => absurd z9 (show ¬ ((0 : Int) ≠ (0 : Int)) from by decide)) (fun _ => ?_)
  refine g_iconst (v := 0) hk dX12_drop_14 (by decide) ?_
  exact g_iret hk hR rfl ⟨rfl, rfl⟩ dX12_drop_15
def wo_m150_X12_in : List Cond := []
def wz_m150_X12_in : List Cond := .code yX12_in cX12_in 3 (some .boolean) :: (wo_m150_X12_in ++ ([] : List Cond))
theorem zg_m150_X12_in : ∀ w ∈ wz_m150_X12_in, goodWord w = true := zg_cons rfl (zg_app (by decide +kernel) zg_nil)
theorem zi_m150_X12_in : ∀ w ∈ wz_m150_X12_in, w ∈ lw_tbl := zi_cons zw_1658 (zi_app zi_nil zi_nil)
set_option maxHeartbeats 4000000 in
set_option maxRecDepth 100000 in
theorem m150_X12_in (l : Launch) (D : va_G) (zt : Nat × Nat × Nat) (g : Nat → ClassId) (r : Nat → Nat) (a407 : Int32) : GM l D zt (tyM g) yX12_in wz_m150_X12_in ({ frames := 0, cells := 0, slots := 0, locals := 0 } : Room) [.int a407, .int 0, .int 3] (wM r g iM1 aM1 lM1) (fun v _ w' => ((a407.toInt < 0) ∧ v = some (.int 0) ∧ w' = wM r g iM1 aM1 lM1) ∨ ((¬ (a407.toInt < 0)) ∧ (3 < a407.toInt) ∧ v = some (.int 0) ∧ w' = wM r g iM1 aM1 lM1) ∨ ((¬ (a407.toInt < 0)) ∧ (¬ (3 < a407.toInt)) ∧ v = some (.int 1) ∧ w' = wM r g iM1 aM1 lM1)) 0 0 := by
  refine GM.of (cc := cX12_in) (maxL := 3) (ret := (some .boolean)) (own := RX12) (lv := [(0, .int a407), (1, .int 0), (2, .int 3)]) (by decide) rfl rfl (Nat.le_of_ble_eq_true rfl) rfl (fun κ sz hk hR hN => ?_)
  refine g_iload_n hk dX12_in_0 rfl ?_
  refine g_iload_n hk dX12_in_1 rfl ?_
  refine g_icmp_lt (tgt := 14) (a := a407.toInt) (b := 0) hk dX12_in_2 (by decide) rfl rfl (fun c408 => ?_) (fun c408 => ?_)
  · skip
    refine g_iconst (v := 0) hk dX12_in_14 (by decide) ?_
    exact g_iret hk hR rfl (Or.inl ⟨c408, rfl, rfl⟩) dX12_in_15
  · skip
    refine g_iload_n hk dX12_in_5 rfl ?_
    refine g_iload_n hk dX12_in_6 rfl ?_
    refine g_icmp_gt (tgt := 14) (a := a407.toInt) (b := 3) hk dX12_in_7 (by decide) rfl rfl (fun c409 => ?_) (fun c409 => ?_)
    · skip
      refine g_iconst (v := 0) hk dX12_in_14 (by decide) ?_
      exact g_iret hk hR rfl (Or.inr (Or.inl ⟨c408, c409, rfl, rfl⟩)) dX12_in_15
    · skip
      refine g_iconst (v := 1) hk dX12_in_10 (by decide) ?_
      refine g_goto (tgt := 15) hk dX12_in_11 (by decide) ?_
      exact g_iret hk hR rfl (Or.inr (Or.inr (⟨c408, c409, rfl, rfl⟩))) dX12_in_15
def wo_m151_X12_in : List Cond := []
def wz_m151_X12_in : List Cond := .code yX12_in cX12_in 3 (some .boolean) :: (wo_m151_X12_in ++ ([] : List Cond))
theorem zg_m151_X12_in : ∀ w ∈ wz_m151_X12_in, goodWord w = true := zg_cons rfl (zg_app (by decide +kernel) zg_nil)
theorem zi_m151_X12_in : ∀ w ∈ wz_m151_X12_in, w ∈ lw_tbl := zi_cons zw_1658 (zi_app zi_nil zi_nil)
set_option maxHeartbeats 4000000 in
set_option maxRecDepth 100000 in
theorem m151_X12_in (l : Launch) (D : va_G) (zt : Nat × Nat × Nat) (g : Nat → ClassId) (r : Nat → Nat) (a417 : Int32) : GM l D zt (tyM g) yX12_in wz_m151_X12_in ({ frames := 0, cells := 0, slots := 0, locals := 0 } : Room) [.int a417, .int 0, .int 15] (wM r g iM1 aM1 lM1) (fun v _ w' => ((a417.toInt < 0) ∧ v = some (.int 0) ∧ w' = wM r g iM1 aM1 lM1) ∨ ((¬ (a417.toInt < 0)) ∧ (15 < a417.toInt) ∧ v = some (.int 0) ∧ w' = wM r g iM1 aM1 lM1) ∨ ((¬ (a417.toInt < 0)) ∧ (¬ (15 < a417.toInt)) ∧ v = some (.int 1) ∧ w' = wM r g iM1 aM1 lM1)) 0 0 := by
  refine GM.of (cc := cX12_in) (maxL := 3) (ret := (some .boolean)) (own := RX12) (lv := [(0, .int a417), (1, .int 0), (2, .int 15)]) (by decide) rfl rfl (Nat.le_of_ble_eq_true rfl) rfl (fun κ sz hk hR hN => ?_)
  refine g_iload_n hk dX12_in_0 rfl ?_
  refine g_iload_n hk dX12_in_1 rfl ?_
  refine g_icmp_lt (tgt := 14) (a := a417.toInt) (b := 0) hk dX12_in_2 (by decide) rfl rfl (fun c418 => ?_) (fun c418 => ?_)
  · skip
    refine g_iconst (v := 0) hk dX12_in_14 (by decide) ?_
    exact g_iret hk hR rfl (Or.inl ⟨c418, rfl, rfl⟩) dX12_in_15
  · skip
    refine g_iload_n hk dX12_in_5 rfl ?_
    refine g_iload_n hk dX12_in_6 rfl ?_
    refine g_icmp_gt (tgt := 14) (a := a417.toInt) (b := 15) hk dX12_in_7 (by decide) rfl rfl (fun c419 => ?_) (fun c419 => ?_)
    · skip
      refine g_iconst (v := 0) hk dX12_in_14 (by decide) ?_
      exact g_iret hk hR rfl (Or.inr (Or.inl ⟨c418, c419, rfl, rfl⟩)) dX12_in_15
    · skip
      refine g_iconst (v := 1) hk dX12_in_10 (by decide) ?_
      refine g_goto (tgt := 15) hk dX12_in_11 (by decide) ?_
      exact g_iret hk hR rfl (Or.inr (Or.inr (⟨c418, c419, rfl, rfl⟩))) dX12_in_15
def wo_m153_X12_keepsRow : List Cond := [Cond.fieldLink RX12 70 "WarpDeskModel" "now" "[I", Cond.fieldLink RX12 73 "WarpDeskModel" "row" "[I"]
def wz_m153_X12_keepsRow : List Cond := .code yX12_keepsRow cX12_keepsRow 2 none :: (wo_m153_X12_keepsRow ++ (wsX120 ++ ([] : List Cond)))
theorem zg_m153_X12_keepsRow : ∀ w ∈ wz_m153_X12_keepsRow, goodWord w = true := zg_cons rfl (zg_app (by decide +kernel) (zg_app zgU_wsX120 zg_nil))
theorem zi_m153_X12_keepsRow : ∀ w ∈ wz_m153_X12_keepsRow, w ∈ lw_tbl := zi_cons zw_1379 (zi_app (zi_cons zw_1413 (zi_cons zw_1414 zi_nil)) (zi_app inX12 zi_nil))
set_option maxHeartbeats 4000000 in
set_option maxRecDepth 100000 in
theorem m153_X12_keepsRow (l : Launch) (D : va_G) (zt : Nat × Nat × Nat) (F429 : Nat → Int32) (a406 : Int32) (g : Nat → ClassId) (r : Nat → Nat) : GM l D zt (tyM g) yX12_keepsRow wz_m153_X12_keepsRow ({ frames := 0, cells := 0, slots := 0, locals := 0 } : Room) [.ref (r 0)] (wM r g (upd iM1 22 1) (up2 (up3 (up2 aM1 18 (cp (aM1 17) (aM1 18) 165)) 18 161 a406) 22 F429) lM1) (fun v _ w' => v = none ∧ w' = wM r g (upd iM1 22 1) (up2 (up2 (up3 (up2 aM1 18 (cp (aM1 17) (aM1 18) 165)) 18 161 a406) 22 F429) 17 (cp ((up2 (up3 (up2 aM1 18 (cp (aM1 17) (aM1 18) 165)) 18 161 a406) 22 F429) 18) ((up2 (up3 (up2 aM1 18 (cp (aM1 17) (aM1 18) 165)) 18 161 a406) 22 F429) 17) 165)) lM1) 0 0 := by
  refine GM.of (cc := cX12_keepsRow) (maxL := 2) (ret := none) (own := RX12) (lv := [(0, .ref (r 0))]) (by decide) rfl rfl (Nat.le_of_ble_eq_true rfl) rfl (fun κ sz hk hR hN => ?_)
  have hin12 : ∀ w ∈ u_ws RX12 TX12 55, w ∈ wz_m153_X12_keepsRow := fun w h => (List.mem_cons_of_mem _ (List.mem_append_right _ (List.mem_append_left _ h)))
  refine g_iconst (v := 0) hk dX12_keepsRow_0 (by decide) ?_
  refine g_istore_n (lv' := [(1, .int 0), (0, .ref (r 0))]) hk dX12_keepsRow_1 (by decide) rfl ?_
  have lp430 : ∀ (n432 k431 : Nat), k431 + n432 = 165 → GW κ 2 0 0 (wM r g (upd iM1 22 1) (up2 (up2 (up3 (up2 aM1 18 (cp (aM1 17) (aM1 18) 165)) 18 161 a406) 22 F429) 17 (cp ((up2 (up3 (up2 aM1 18 (cp (aM1 17) (aM1 18) 165)) 18 161 a406) 22 F429) 18) ((up2 (up3 (up2 aM1 18 (cp (aM1 17) (aM1 18) 165)) 18 161 a406) 22 F429) 17) k431)) lM1) 2 [(1, .int (nI k431)), (0, .ref (r 0))] [] := by
    intro n432
    induction n432 with
    | zero =>
      intro k431 hk431
      obtain rfl : k431 = 165 := by omega
      show GW κ 2 0 0 (wM r g (upd iM1 22 1) (up2 (up2 (up3 (up2 aM1 18 (cp (aM1 17) (aM1 18) 165)) 18 161 a406) 22 F429) 17 (cp ((up2 (up3 (up2 aM1 18 (cp (aM1 17) (aM1 18) 165)) 18 161 a406) 22 F429) 18) ((up2 (up3 (up2 aM1 18 (cp (aM1 17) (aM1 18) 165)) 18 161 a406) 22 F429) 17) 165)) lM1) 2 [(1, .int 165), (0, .ref (r 0))] []
      refine g_iload_n hk dX12_keepsRow_2 rfl ?_
      refine g_sipush (v := 165) hk dX12_keepsRow_3 (by decide) ?_
      refine g_icmp_ge (tgt := 27) (a := 165) (b := 165) hk dX12_keepsRow_6 (by decide) rfl rfl (fun _ => ?_) (fun z9 => absurd (show (165 : Int) ≤ (165 : Int) from by decide) z9)
      exact g_vret hk hR ⟨rfl, rfl⟩ dX12_keepsRow_27
    | succ n432 ih =>
      intro k431 hk431
      obtain ⟨x433, ex433⟩ : ∃ x : Int32, x = nI k431 := ⟨_, rfl⟩
      have hx433 : x433.toInt = (k431 : Int) := by rw [ex433]; exact nI_toInt (by omega)
      rw [← ex433]
      refine g_iload_n hk dX12_keepsRow_2 rfl ?_
      refine g_sipush (v := 165) hk dX12_keepsRow_3 (by decide) ?_
      refine g_icmp_ge (tgt := 27) (a := x433.toInt) (b := 165) hk dX12_keepsRow_6 (by decide) rfl rfl (fun z9 => absurd z9 (show ¬ (165 ≤ x433.toInt) from by omega)) (fun _ => ?_)
      refine g_aload_n hk dX12_keepsRow_9 rfl ?_
      refine gM_r0_35 hk hin12 (List.mem_cons_of_mem _ (List.mem_append_left _ (List.mem_of_getElem? (i := 0) rfl))) dX12_keepsRow_10 ?_
      refine g_iload_n hk dX12_keepsRow_13 rfl ?_
      refine g_aload_n hk dX12_keepsRow_14 rfl ?_
      refine gM_r0_36 hk hin12 (List.mem_cons_of_mem _ (List.mem_append_left _ (List.mem_of_getElem? (i := 1) rfl))) dX12_keepsRow_15 ?_
      refine g_iload_n hk dX12_keepsRow_18 rfl ?_
      refine lM_18 (v := ((up2 (up2 (up3 (up2 aM1 18 (cp (aM1 17) (aM1 18) 165)) 18 161 a406) 22 F429) 17 (cp ((up2 (up3 (up2 aM1 18 (cp (aM1 17) (aM1 18) 165)) 18 161 a406) 22 F429) 18) ((up2 (up3 (up2 aM1 18 (cp (aM1 17) (aM1 18) 165)) 18 161 a406) 22 F429) 17) k431)) 18 (k431))) hk (vp_in_iff.mpr ⟨by omega, by omega⟩) (by rw [ex433, nI_clamp (by omega)]) dX12_keepsRow_19 ?_
      refine sM_17 (j := k431) hk (vp_in_iff.mpr ⟨by omega, by omega⟩) (by rw [ex433]; exact nI_clamp (by omega)) dX12_keepsRow_20 ?_
      obtain ⟨y434, ey434⟩ : ∃ y : Int32, y = x433 + Int32.ofInt 1 := ⟨_, rfl⟩
      refine g_iinc (v := y434) (lv' := [(1, .int y434), (0, .ref (r 0))]) hk 0 dX12_keepsRow_21 rfl ey434.symm (by decide) rfl ?_
      have fy434 : y434 = nI (k431 + 1) := by rw [ey434, ex433]; exact nI_1 (k431)
      refine g_goto (tgt := 2) hk dX12_keepsRow_24 (by decide) ?_
      rw [fy434]
      have eW : wM r g (upd iM1 22 1) (up3 (up2 (up2 (up3 (up2 aM1 18 (cp (aM1 17) (aM1 18) 165)) 18 161 a406) 22 F429) 17 (cp ((up2 (up3 (up2 aM1 18 (cp (aM1 17) (aM1 18) 165)) 18 161 a406) 22 F429) 18) ((up2 (up3 (up2 aM1 18 (cp (aM1 17) (aM1 18) 165)) 18 161 a406) 22 F429) 17) k431)) 17 (k431) ((up2 (up2 (up3 (up2 aM1 18 (cp (aM1 17) (aM1 18) 165)) 18 161 a406) 22 F429) 17 (cp ((up2 (up3 (up2 aM1 18 (cp (aM1 17) (aM1 18) 165)) 18 161 a406) 22 F429) 18) ((up2 (up3 (up2 aM1 18 (cp (aM1 17) (aM1 18) 165)) 18 161 a406) 22 F429) 17) k431)) 18 (k431))) lM1 = wM r g (upd iM1 22 1) (up2 (up2 (up3 (up2 aM1 18 (cp (aM1 17) (aM1 18) 165)) 18 161 a406) 22 F429) 17 (cp ((up2 (up3 (up2 aM1 18 (cp (aM1 17) (aM1 18) 165)) 18 161 a406) 22 F429) 18) ((up2 (up3 (up2 aM1 18 (cp (aM1 17) (aM1 18) 165)) 18 161 a406) 22 F429) 17) (k431 + 1))) lM1 := by rw [← cp_s ((up2 (up3 (up2 aM1 18 (cp (aM1 17) (aM1 18) 165)) 18 161 a406) 22 F429) 18) ((up2 (up3 (up2 aM1 18 (cp (aM1 17) (aM1 18) 165)) 18 161 a406) 22 F429) 17) (k431)]; rfl
      rw [eW]
      exact g_lv (List.forall_mem_cons.mpr ⟨List.mem_of_getElem? (i := 0) rfl, (List.forall_mem_cons.mpr ⟨List.mem_of_getElem? (i := 1) rfl, (fun _ h => absurd h List.not_mem_nil)⟩)⟩) (ih (k431 + 1) (by omega))
  exact lp430 165 0 (by omega)
def wo_m152_X12_records : List Cond := [Cond.fieldLink RX12 209 "WarpDeskModel" "undos" "I", Cond.methodLink RX12 121 yX12_keepsRow, Cond.instanceMethod yX12_keepsRow, Cond.selects RX12 yX12_keepsRow yX12_keepsRow, Cond.initialized RX12, Cond.fieldLink RX12 85 "WarpDeskModel" "history" "[I", Cond.fieldLink RX12 70 "WarpDeskModel" "now" "[I"]
def wz_m152_X12_records : List Cond := .code yX12_records cX12_records 2 none :: (wo_m152_X12_records ++ (wsX120 ++ (wz_m153_X12_keepsRow ++ ([] : List Cond))))
theorem zg_m152_X12_records : ∀ w ∈ wz_m152_X12_records, goodWord w = true := zg_cons rfl (zg_app (by decide +kernel) (zg_app zgU_wsX120 (zg_app zg_m153_X12_keepsRow zg_nil)))
theorem zi_m152_X12_records : ∀ w ∈ wz_m152_X12_records, w ∈ lw_tbl := zi_cons zw_1686 (zi_app (zi_cons zw_1422 (zi_cons zw_1376 (zi_cons zw_1378 (zi_cons zw_46 (zi_cons zw_115 (zi_cons zw_1423 (zi_cons zw_1413 zi_nil))))))) (zi_app inX12 (zi_app zi_m153_X12_keepsRow zi_nil)))
set_option maxHeartbeats 4000000 in
set_option maxRecDepth 100000 in
theorem m152_X12_records (l : Launch) (D : va_G) (zt : Nat × Nat × Nat) (a406 : Int32) (g : Nat → ClassId) (r : Nat → Nat) : GM l D zt (tyM g) yX12_records wz_m152_X12_records ({ frames := 1, cells := 0, slots := 0, locals := 21 } : Room) [.ref (r 0)] (wM r g iM1 (up3 (up2 aM1 18 (cp (aM1 17) (aM1 18) 165)) 18 161 a406) lM1) (fun v _ w' => ∃ (F429 : Nat → Int32), v = none ∧ w' = wM r g (upd iM1 22 1) (up2 (up2 (up3 (up2 aM1 18 (cp (aM1 17) (aM1 18) 165)) 18 161 a406) 22 F429) 17 (cp ((up2 (up3 (up2 aM1 18 (cp (aM1 17) (aM1 18) 165)) 18 161 a406) 22 F429) 18) ((up2 (up3 (up2 aM1 18 (cp (aM1 17) (aM1 18) 165)) 18 161 a406) 22 F429) 17) 165)) lM1) 0 0 := by
  refine GM.of (cc := cX12_records) (maxL := 2) (ret := none) (own := RX12) (lv := [(0, .ref (r 0))]) (by decide) rfl rfl (Nat.le_of_ble_eq_true rfl) rfl (fun κ sz hk hR hN => ?_)
  have hin12 : ∀ w ∈ u_ws RX12 TX12 55, w ∈ wz_m152_X12_records := fun w h => (List.mem_cons_of_mem _ (List.mem_append_right _ (List.mem_append_left _ h)))
  refine g_aload_n hk dX12_records_0 rfl ?_
  refine gM_i22 (v := 0) hk hin12 (List.mem_cons_of_mem _ (List.mem_append_left _ (List.mem_of_getElem? (i := 0) rfl))) dX12_records_1 rfl ?_
  refine g_bipush (v := 40) hk dX12_records_4 (by decide) ?_
  refine g_icmp_ne (tgt := 50) (a := 0) (b := 40) hk dX12_records_6 (by decide) rfl rfl (fun _ => ?_) (fun z9 => absurd (show (0 : Int) ≠ (40 : Int) from by decide) z9)
  refine g_iconst (v := 0) hk dX12_records_50 (by decide) ?_
  refine g_istore_n (lv' := [(1, .int 0), (0, .ref (r 0))]) hk dX12_records_51 (by decide) rfl ?_
  have lp425 : ∀ (n427 k426 : Nat) (F429 : Nat → Int32), k426 + n427 = 165 → GW κ 2 0 0 (wM r g iM1 (up2 (up3 (up2 aM1 18 (cp (aM1 17) (aM1 18) 165)) 18 161 a406) 22 F429) lM1) 52 [(1, .int (nI k426)), (0, .ref (r 0))] [] := by
    intro n427
    induction n427 with
    | zero =>
      intro k426 F429 hk426
      obtain rfl : k426 = 165 := by omega
      show GW κ 2 0 0 (wM r g iM1 (up2 (up3 (up2 aM1 18 (cp (aM1 17) (aM1 18) 165)) 18 161 a406) 22 F429) lM1) 52 [(1, .int 165), (0, .ref (r 0))] []
      refine g_iload_n hk dX12_records_52 rfl ?_
      refine g_sipush (v := 165) hk dX12_records_53 (by decide) ?_
      refine g_icmp_ge (tgt := 86) (a := 165) (b := 165) hk dX12_records_56 (by decide) rfl rfl (fun _ => ?_) (fun z9 => absurd (show (165 : Int) ≤ (165 : Int) from by decide) z9)
      refine g_aload_n hk dX12_records_86 rfl ?_
      refine g_dup hk dX12_records_87 rfl ?_
      refine gM_i22 (v := 0) hk hin12 (List.mem_cons_of_mem _ (List.mem_append_left _ (List.mem_of_getElem? (i := 0) rfl))) dX12_records_88 rfl ?_
      refine g_iconst (v := 1) hk dX12_records_91 (by decide) ?_
      refine g_iadd hk dX12_records_92 ?_
      refine g_norm (v := 1) (by decide) ?_
      refine pM_i22 hk hin12 (List.mem_cons_of_mem _ (List.mem_append_left _ (List.mem_of_getElem? (i := 0) rfl))) dX12_records_93 ?_
      refine g_aload_n hk dX12_records_96 rfl ?_
      refine g_callV (n := 0) hk (m153_X12_keepsRow l D zt F429 a406 g r) (SP.same _) (fun _ h => h) (gi_V (List.mem_cons_of_mem _ (List.mem_append_left _ (List.mem_of_getElem? (i := 1) rfl))) (List.mem_cons_of_mem _ (List.mem_append_left _ (List.mem_of_getElem? (i := 2) rfl))) (List.mem_cons_of_mem _ (List.mem_append_left _ (List.mem_of_getElem? (i := 3) rfl))) (List.mem_cons_of_mem _ (List.mem_append_left _ (List.mem_of_getElem? (i := 4) rfl))) (gi_sub (fun w h => (List.mem_cons_of_mem _ (List.mem_append_right _ (List.mem_append_right _ (List.mem_append_left _ h))))) zg_m153_X12_keepsRow)) rfl rfl rfl (by decide +kernel) ⟨Nat.le_of_ble_eq_true rfl, Nat.le_of_ble_eq_true rfl⟩ 0 rfl rfl rfl rfl (Nat.le_of_ble_eq_true rfl) ⟨Nat.le_of_ble_eq_true rfl, Nat.le_of_ble_eq_true rfl⟩ dX12_records_97 (fun v ty' w' hp hk' => ?_)
      obtain ⟨rfl, rfl⟩ := hp
      show GW κ 2 0 0 (wM r g (upd iM1 22 1) (up2 (up2 (up3 (up2 aM1 18 (cp (aM1 17) (aM1 18) 165)) 18 161 a406) 22 F429) 17 (cp ((up2 (up3 (up2 aM1 18 (cp (aM1 17) (aM1 18) 165)) 18 161 a406) 22 F429) 18) ((up2 (up3 (up2 aM1 18 (cp (aM1 17) (aM1 18) 165)) 18 161 a406) 22 F429) 17) 165)) lM1) 100 [(1, .int 165), (0, .ref (r 0))] []
      exact g_vret hk hR ⟨F429, rfl, rfl⟩ dX12_records_100
    | succ n427 ih =>
      intro k426 F429 hk426
      obtain ⟨x428, ex428⟩ : ∃ x : Int32, x = nI k426 := ⟨_, rfl⟩
      have hx428 : x428.toInt = (k426 : Int) := by rw [ex428]; exact nI_toInt (by omega)
      rw [← ex428]
      refine g_iload_n hk dX12_records_52 rfl ?_
      refine g_sipush (v := 165) hk dX12_records_53 (by decide) ?_
      refine g_icmp_ge (tgt := 86) (a := x428.toInt) (b := 165) hk dX12_records_56 (by decide) rfl rfl (fun z9 => absurd z9 (show ¬ (165 ≤ x428.toInt) from by omega)) (fun _ => ?_)
      refine g_aload_n hk dX12_records_59 rfl ?_
      refine gM_r0_45 hk hin12 (List.mem_cons_of_mem _ (List.mem_append_left _ (List.mem_of_getElem? (i := 5) rfl))) dX12_records_60 ?_
      refine g_sipush (v := 165) hk dX12_records_63 (by decide) ?_
      refine g_aload_n hk dX12_records_66 rfl ?_
      refine gM_i22 (v := 0) hk hin12 (List.mem_cons_of_mem _ (List.mem_append_left _ (List.mem_of_getElem? (i := 0) rfl))) dX12_records_67 rfl ?_
      refine g_imul hk dX12_records_70 ?_
      refine g_norm (v := 0) (by decide) ?_
      refine g_iload_n hk dX12_records_71 rfl ?_
      refine g_iadd hk dX12_records_72 ?_
      refine g_topi (fun y435 ey435 => ?_)
      have fy435 : y435 = nI (0 + k426) := by rw [ey435, ex428]; exact nI_add 0 (k426)
      have hy435 : y435.toInt = ((0 + k426 : Nat) : Int) := by rw [fy435]; exact nI_toInt (by omega)
      refine g_aload_n hk dX12_records_73 rfl ?_
      refine gM_r0_35 hk hin12 (List.mem_cons_of_mem _ (List.mem_append_left _ (List.mem_of_getElem? (i := 6) rfl))) dX12_records_74 ?_
      refine g_iload_n hk dX12_records_77 rfl ?_
      refine lM_17 (v := ((up2 (up3 (up2 aM1 18 (cp (aM1 17) (aM1 18) 165)) 18 161 a406) 22 F429) 17 (k426))) hk (vp_in_iff.mpr ⟨by omega, by omega⟩) (by rw [ex428, nI_clamp (by omega)]) dX12_records_78 ?_
      refine sM_22 (j := 0 + k426) hk (vp_in_iff.mpr ⟨by omega, by omega⟩) (by rw [fy435]; exact nI_clamp (by omega)) dX12_records_79 ?_
      obtain ⟨y436, ey436⟩ : ∃ y : Int32, y = x428 + Int32.ofInt 1 := ⟨_, rfl⟩
      refine g_iinc (v := y436) (lv' := [(1, .int y436), (0, .ref (r 0))]) hk 0 dX12_records_80 rfl ey436.symm (by decide) rfl ?_
      have fy436 : y436 = nI (k426 + 1) := by rw [ey436, ex428]; exact nI_1 (k426)
      refine g_goto (tgt := 52) hk dX12_records_83 (by decide) ?_
      rw [fy436]
      exact g_lv (List.forall_mem_cons.mpr ⟨List.mem_of_getElem? (i := 0) rfl, (List.forall_mem_cons.mpr ⟨List.mem_of_getElem? (i := 1) rfl, (fun _ h => absurd h List.not_mem_nil)⟩)⟩) (ih (k426 + 1) (upd F429 (0 + k426) ((up2 (up3 (up2 aM1 18 (cp (aM1 17) (aM1 18) 165)) 18 161 a406) 22 F429) 17 (k426))) (by omega))
  exact lp425 165 0 ((up3 (up2 aM1 18 (cp (aM1 17) (aM1 18) 165)) 18 161 a406) 22) (by omega)
def wo_m155_X12_keepsRow : List Cond := [Cond.fieldLink RX12 70 "WarpDeskModel" "now" "[I", Cond.fieldLink RX12 73 "WarpDeskModel" "row" "[I"]
def wz_m155_X12_keepsRow : List Cond := .code yX12_keepsRow cX12_keepsRow 2 none :: (wo_m155_X12_keepsRow ++ (wsX120 ++ ([] : List Cond)))
theorem zg_m155_X12_keepsRow : ∀ w ∈ wz_m155_X12_keepsRow, goodWord w = true := zg_cons rfl (zg_app (by decide +kernel) (zg_app zgU_wsX120 zg_nil))
theorem zi_m155_X12_keepsRow : ∀ w ∈ wz_m155_X12_keepsRow, w ∈ lw_tbl := zi_cons zw_1379 (zi_app (zi_cons zw_1413 (zi_cons zw_1414 zi_nil)) (zi_app inX12 zi_nil))
set_option maxHeartbeats 4000000 in
set_option maxRecDepth 100000 in
theorem m155_X12_keepsRow (l : Launch) (D : va_G) (zt : Nat × Nat × Nat) (F449 : Nat → Int32) (a406 : Int32) (g : Nat → ClassId) (r : Nat → Nat) : GM l D zt (tyM g) yX12_keepsRow wz_m155_X12_keepsRow ({ frames := 0, cells := 0, slots := 0, locals := 0 } : Room) [.ref (r 0)] (wM r g (upd iM1 22 1) (up2 (up3 (up2 aM1 18 (cp (aM1 17) (aM1 18) 165)) 18 162 a406) 22 F449) lM1) (fun v _ w' => v = none ∧ w' = wM r g (upd iM1 22 1) (up2 (up2 (up3 (up2 aM1 18 (cp (aM1 17) (aM1 18) 165)) 18 162 a406) 22 F449) 17 (cp ((up2 (up3 (up2 aM1 18 (cp (aM1 17) (aM1 18) 165)) 18 162 a406) 22 F449) 18) ((up2 (up3 (up2 aM1 18 (cp (aM1 17) (aM1 18) 165)) 18 162 a406) 22 F449) 17) 165)) lM1) 0 0 := by
  refine GM.of (cc := cX12_keepsRow) (maxL := 2) (ret := none) (own := RX12) (lv := [(0, .ref (r 0))]) (by decide) rfl rfl (Nat.le_of_ble_eq_true rfl) rfl (fun κ sz hk hR hN => ?_)
  have hin12 : ∀ w ∈ u_ws RX12 TX12 55, w ∈ wz_m155_X12_keepsRow := fun w h => (List.mem_cons_of_mem _ (List.mem_append_right _ (List.mem_append_left _ h)))
  refine g_iconst (v := 0) hk dX12_keepsRow_0 (by decide) ?_
  refine g_istore_n (lv' := [(1, .int 0), (0, .ref (r 0))]) hk dX12_keepsRow_1 (by decide) rfl ?_
  have lp450 : ∀ (n452 k451 : Nat), k451 + n452 = 165 → GW κ 2 0 0 (wM r g (upd iM1 22 1) (up2 (up2 (up3 (up2 aM1 18 (cp (aM1 17) (aM1 18) 165)) 18 162 a406) 22 F449) 17 (cp ((up2 (up3 (up2 aM1 18 (cp (aM1 17) (aM1 18) 165)) 18 162 a406) 22 F449) 18) ((up2 (up3 (up2 aM1 18 (cp (aM1 17) (aM1 18) 165)) 18 162 a406) 22 F449) 17) k451)) lM1) 2 [(1, .int (nI k451)), (0, .ref (r 0))] [] := by
    intro n452
    induction n452 with
    | zero =>
      intro k451 hk451
      obtain rfl : k451 = 165 := by omega
      show GW κ 2 0 0 (wM r g (upd iM1 22 1) (up2 (up2 (up3 (up2 aM1 18 (cp (aM1 17) (aM1 18) 165)) 18 162 a406) 22 F449) 17 (cp ((up2 (up3 (up2 aM1 18 (cp (aM1 17) (aM1 18) 165)) 18 162 a406) 22 F449) 18) ((up2 (up3 (up2 aM1 18 (cp (aM1 17) (aM1 18) 165)) 18 162 a406) 22 F449) 17) 165)) lM1) 2 [(1, .int 165), (0, .ref (r 0))] []
      refine g_iload_n hk dX12_keepsRow_2 rfl ?_
      refine g_sipush (v := 165) hk dX12_keepsRow_3 (by decide) ?_
      refine g_icmp_ge (tgt := 27) (a := 165) (b := 165) hk dX12_keepsRow_6 (by decide) rfl rfl (fun _ => ?_) (fun z9 => absurd (show (165 : Int) ≤ (165 : Int) from by decide) z9)
      exact g_vret hk hR ⟨rfl, rfl⟩ dX12_keepsRow_27
    | succ n452 ih =>
      intro k451 hk451
      obtain ⟨x453, ex453⟩ : ∃ x : Int32, x = nI k451 := ⟨_, rfl⟩
      have hx453 : x453.toInt = (k451 : Int) := by rw [ex453]; exact nI_toInt (by omega)
      rw [← ex453]
      refine g_iload_n hk dX12_keepsRow_2 rfl ?_
      refine g_sipush (v := 165) hk dX12_keepsRow_3 (by decide) ?_
      refine g_icmp_ge (tgt := 27) (a := x453.toInt) (b := 165) hk dX12_keepsRow_6 (by decide) rfl rfl (fun z9 => absurd z9 (show ¬ (165 ≤ x453.toInt) from by omega)) (fun _ => ?_)
      refine g_aload_n hk dX12_keepsRow_9 rfl ?_
      refine gM_r0_35 hk hin12 (List.mem_cons_of_mem _ (List.mem_append_left _ (List.mem_of_getElem? (i := 0) rfl))) dX12_keepsRow_10 ?_
      refine g_iload_n hk dX12_keepsRow_13 rfl ?_
      refine g_aload_n hk dX12_keepsRow_14 rfl ?_
      refine gM_r0_36 hk hin12 (List.mem_cons_of_mem _ (List.mem_append_left _ (List.mem_of_getElem? (i := 1) rfl))) dX12_keepsRow_15 ?_
      refine g_iload_n hk dX12_keepsRow_18 rfl ?_
      refine lM_18 (v := ((up2 (up2 (up3 (up2 aM1 18 (cp (aM1 17) (aM1 18) 165)) 18 162 a406) 22 F449) 17 (cp ((up2 (up3 (up2 aM1 18 (cp (aM1 17) (aM1 18) 165)) 18 162 a406) 22 F449) 18) ((up2 (up3 (up2 aM1 18 (cp (aM1 17) (aM1 18) 165)) 18 162 a406) 22 F449) 17) k451)) 18 (k451))) hk (vp_in_iff.mpr ⟨by omega, by omega⟩) (by rw [ex453, nI_clamp (by omega)]) dX12_keepsRow_19 ?_
      refine sM_17 (j := k451) hk (vp_in_iff.mpr ⟨by omega, by omega⟩) (by rw [ex453]; exact nI_clamp (by omega)) dX12_keepsRow_20 ?_
      obtain ⟨y454, ey454⟩ : ∃ y : Int32, y = x453 + Int32.ofInt 1 := ⟨_, rfl⟩
      refine g_iinc (v := y454) (lv' := [(1, .int y454), (0, .ref (r 0))]) hk 0 dX12_keepsRow_21 rfl ey454.symm (by decide) rfl ?_
      have fy454 : y454 = nI (k451 + 1) := by rw [ey454, ex453]; exact nI_1 (k451)
      refine g_goto (tgt := 2) hk dX12_keepsRow_24 (by decide) ?_
      rw [fy454]
      have eW : wM r g (upd iM1 22 1) (up3 (up2 (up2 (up3 (up2 aM1 18 (cp (aM1 17) (aM1 18) 165)) 18 162 a406) 22 F449) 17 (cp ((up2 (up3 (up2 aM1 18 (cp (aM1 17) (aM1 18) 165)) 18 162 a406) 22 F449) 18) ((up2 (up3 (up2 aM1 18 (cp (aM1 17) (aM1 18) 165)) 18 162 a406) 22 F449) 17) k451)) 17 (k451) ((up2 (up2 (up3 (up2 aM1 18 (cp (aM1 17) (aM1 18) 165)) 18 162 a406) 22 F449) 17 (cp ((up2 (up3 (up2 aM1 18 (cp (aM1 17) (aM1 18) 165)) 18 162 a406) 22 F449) 18) ((up2 (up3 (up2 aM1 18 (cp (aM1 17) (aM1 18) 165)) 18 162 a406) 22 F449) 17) k451)) 18 (k451))) lM1 = wM r g (upd iM1 22 1) (up2 (up2 (up3 (up2 aM1 18 (cp (aM1 17) (aM1 18) 165)) 18 162 a406) 22 F449) 17 (cp ((up2 (up3 (up2 aM1 18 (cp (aM1 17) (aM1 18) 165)) 18 162 a406) 22 F449) 18) ((up2 (up3 (up2 aM1 18 (cp (aM1 17) (aM1 18) 165)) 18 162 a406) 22 F449) 17) (k451 + 1))) lM1 := by rw [← cp_s ((up2 (up3 (up2 aM1 18 (cp (aM1 17) (aM1 18) 165)) 18 162 a406) 22 F449) 18) ((up2 (up3 (up2 aM1 18 (cp (aM1 17) (aM1 18) 165)) 18 162 a406) 22 F449) 17) (k451)]; rfl
      rw [eW]
      exact g_lv (List.forall_mem_cons.mpr ⟨List.mem_of_getElem? (i := 0) rfl, (List.forall_mem_cons.mpr ⟨List.mem_of_getElem? (i := 1) rfl, (fun _ h => absurd h List.not_mem_nil)⟩)⟩) (ih (k451 + 1) (by omega))
  exact lp450 165 0 (by omega)
def wo_m154_X12_records : List Cond := [Cond.fieldLink RX12 209 "WarpDeskModel" "undos" "I", Cond.methodLink RX12 121 yX12_keepsRow, Cond.instanceMethod yX12_keepsRow, Cond.selects RX12 yX12_keepsRow yX12_keepsRow, Cond.initialized RX12, Cond.fieldLink RX12 85 "WarpDeskModel" "history" "[I", Cond.fieldLink RX12 70 "WarpDeskModel" "now" "[I"]
def wz_m154_X12_records : List Cond := .code yX12_records cX12_records 2 none :: (wo_m154_X12_records ++ (wsX120 ++ (wz_m155_X12_keepsRow ++ ([] : List Cond))))
theorem zg_m154_X12_records : ∀ w ∈ wz_m154_X12_records, goodWord w = true := zg_cons rfl (zg_app (by decide +kernel) (zg_app zgU_wsX120 (zg_app zg_m155_X12_keepsRow zg_nil)))
theorem zi_m154_X12_records : ∀ w ∈ wz_m154_X12_records, w ∈ lw_tbl := zi_cons zw_1686 (zi_app (zi_cons zw_1422 (zi_cons zw_1376 (zi_cons zw_1378 (zi_cons zw_46 (zi_cons zw_115 (zi_cons zw_1423 (zi_cons zw_1413 zi_nil))))))) (zi_app inX12 (zi_app zi_m155_X12_keepsRow zi_nil)))
set_option maxHeartbeats 4000000 in
set_option maxRecDepth 100000 in
theorem m154_X12_records (l : Launch) (D : va_G) (zt : Nat × Nat × Nat) (a406 : Int32) (g : Nat → ClassId) (r : Nat → Nat) : GM l D zt (tyM g) yX12_records wz_m154_X12_records ({ frames := 1, cells := 0, slots := 0, locals := 21 } : Room) [.ref (r 0)] (wM r g iM1 (up3 (up2 aM1 18 (cp (aM1 17) (aM1 18) 165)) 18 162 a406) lM1) (fun v _ w' => ∃ (F449 : Nat → Int32), v = none ∧ w' = wM r g (upd iM1 22 1) (up2 (up2 (up3 (up2 aM1 18 (cp (aM1 17) (aM1 18) 165)) 18 162 a406) 22 F449) 17 (cp ((up2 (up3 (up2 aM1 18 (cp (aM1 17) (aM1 18) 165)) 18 162 a406) 22 F449) 18) ((up2 (up3 (up2 aM1 18 (cp (aM1 17) (aM1 18) 165)) 18 162 a406) 22 F449) 17) 165)) lM1) 0 0 := by
  refine GM.of (cc := cX12_records) (maxL := 2) (ret := none) (own := RX12) (lv := [(0, .ref (r 0))]) (by decide) rfl rfl (Nat.le_of_ble_eq_true rfl) rfl (fun κ sz hk hR hN => ?_)
  have hin12 : ∀ w ∈ u_ws RX12 TX12 55, w ∈ wz_m154_X12_records := fun w h => (List.mem_cons_of_mem _ (List.mem_append_right _ (List.mem_append_left _ h)))
  refine g_aload_n hk dX12_records_0 rfl ?_
  refine gM_i22 (v := 0) hk hin12 (List.mem_cons_of_mem _ (List.mem_append_left _ (List.mem_of_getElem? (i := 0) rfl))) dX12_records_1 rfl ?_
  refine g_bipush (v := 40) hk dX12_records_4 (by decide) ?_
  refine g_icmp_ne (tgt := 50) (a := 0) (b := 40) hk dX12_records_6 (by decide) rfl rfl (fun _ => ?_) (fun z9 => absurd (show (0 : Int) ≠ (40 : Int) from by decide) z9)
  refine g_iconst (v := 0) hk dX12_records_50 (by decide) ?_
  refine g_istore_n (lv' := [(1, .int 0), (0, .ref (r 0))]) hk dX12_records_51 (by decide) rfl ?_
  have lp445 : ∀ (n447 k446 : Nat) (F449 : Nat → Int32), k446 + n447 = 165 → GW κ 2 0 0 (wM r g iM1 (up2 (up3 (up2 aM1 18 (cp (aM1 17) (aM1 18) 165)) 18 162 a406) 22 F449) lM1) 52 [(1, .int (nI k446)), (0, .ref (r 0))] [] := by
    intro n447
    induction n447 with
    | zero =>
      intro k446 F449 hk446
      obtain rfl : k446 = 165 := by omega
      show GW κ 2 0 0 (wM r g iM1 (up2 (up3 (up2 aM1 18 (cp (aM1 17) (aM1 18) 165)) 18 162 a406) 22 F449) lM1) 52 [(1, .int 165), (0, .ref (r 0))] []
      refine g_iload_n hk dX12_records_52 rfl ?_
      refine g_sipush (v := 165) hk dX12_records_53 (by decide) ?_
      refine g_icmp_ge (tgt := 86) (a := 165) (b := 165) hk dX12_records_56 (by decide) rfl rfl (fun _ => ?_) (fun z9 => absurd (show (165 : Int) ≤ (165 : Int) from by decide) z9)
      refine g_aload_n hk dX12_records_86 rfl ?_
      refine g_dup hk dX12_records_87 rfl ?_
      refine gM_i22 (v := 0) hk hin12 (List.mem_cons_of_mem _ (List.mem_append_left _ (List.mem_of_getElem? (i := 0) rfl))) dX12_records_88 rfl ?_
      refine g_iconst (v := 1) hk dX12_records_91 (by decide) ?_
      refine g_iadd hk dX12_records_92 ?_
      refine g_norm (v := 1) (by decide) ?_
      refine pM_i22 hk hin12 (List.mem_cons_of_mem _ (List.mem_append_left _ (List.mem_of_getElem? (i := 0) rfl))) dX12_records_93 ?_
      refine g_aload_n hk dX12_records_96 rfl ?_
      refine g_callV (n := 0) hk (m155_X12_keepsRow l D zt F449 a406 g r) (SP.same _) (fun _ h => h) (gi_V (List.mem_cons_of_mem _ (List.mem_append_left _ (List.mem_of_getElem? (i := 1) rfl))) (List.mem_cons_of_mem _ (List.mem_append_left _ (List.mem_of_getElem? (i := 2) rfl))) (List.mem_cons_of_mem _ (List.mem_append_left _ (List.mem_of_getElem? (i := 3) rfl))) (List.mem_cons_of_mem _ (List.mem_append_left _ (List.mem_of_getElem? (i := 4) rfl))) (gi_sub (fun w h => (List.mem_cons_of_mem _ (List.mem_append_right _ (List.mem_append_right _ (List.mem_append_left _ h))))) zg_m155_X12_keepsRow)) rfl rfl rfl (by decide +kernel) ⟨Nat.le_of_ble_eq_true rfl, Nat.le_of_ble_eq_true rfl⟩ 0 rfl rfl rfl rfl (Nat.le_of_ble_eq_true rfl) ⟨Nat.le_of_ble_eq_true rfl, Nat.le_of_ble_eq_true rfl⟩ dX12_records_97 (fun v ty' w' hp hk' => ?_)
      obtain ⟨rfl, rfl⟩ := hp
      show GW κ 2 0 0 (wM r g (upd iM1 22 1) (up2 (up2 (up3 (up2 aM1 18 (cp (aM1 17) (aM1 18) 165)) 18 162 a406) 22 F449) 17 (cp ((up2 (up3 (up2 aM1 18 (cp (aM1 17) (aM1 18) 165)) 18 162 a406) 22 F449) 18) ((up2 (up3 (up2 aM1 18 (cp (aM1 17) (aM1 18) 165)) 18 162 a406) 22 F449) 17) 165)) lM1) 100 [(1, .int 165), (0, .ref (r 0))] []
      exact g_vret hk hR ⟨F449, rfl, rfl⟩ dX12_records_100
    | succ n447 ih =>
      intro k446 F449 hk446
      obtain ⟨x448, ex448⟩ : ∃ x : Int32, x = nI k446 := ⟨_, rfl⟩
      have hx448 : x448.toInt = (k446 : Int) := by rw [ex448]; exact nI_toInt (by omega)
      rw [← ex448]
      refine g_iload_n hk dX12_records_52 rfl ?_
      refine g_sipush (v := 165) hk dX12_records_53 (by decide) ?_
      refine g_icmp_ge (tgt := 86) (a := x448.toInt) (b := 165) hk dX12_records_56 (by decide) rfl rfl (fun z9 => absurd z9 (show ¬ (165 ≤ x448.toInt) from by omega)) (fun _ => ?_)
      refine g_aload_n hk dX12_records_59 rfl ?_
      refine gM_r0_45 hk hin12 (List.mem_cons_of_mem _ (List.mem_append_left _ (List.mem_of_getElem? (i := 5) rfl))) dX12_records_60 ?_
      refine g_sipush (v := 165) hk dX12_records_63 (by decide) ?_
      refine g_aload_n hk dX12_records_66 rfl ?_
      refine gM_i22 (v := 0) hk hin12 (List.mem_cons_of_mem _ (List.mem_append_left _ (List.mem_of_getElem? (i := 0) rfl))) dX12_records_67 rfl ?_
      refine g_imul hk dX12_records_70 ?_
      refine g_norm (v := 0) (by decide) ?_
      refine g_iload_n hk dX12_records_71 rfl ?_
      refine g_iadd hk dX12_records_72 ?_
      refine g_topi (fun y455 ey455 => ?_)
      have fy455 : y455 = nI (0 + k446) := by rw [ey455, ex448]; exact nI_add 0 (k446)
      have hy455 : y455.toInt = ((0 + k446 : Nat) : Int) := by rw [fy455]; exact nI_toInt (by omega)
      refine g_aload_n hk dX12_records_73 rfl ?_
      refine gM_r0_35 hk hin12 (List.mem_cons_of_mem _ (List.mem_append_left _ (List.mem_of_getElem? (i := 6) rfl))) dX12_records_74 ?_
      refine g_iload_n hk dX12_records_77 rfl ?_
      refine lM_17 (v := ((up2 (up3 (up2 aM1 18 (cp (aM1 17) (aM1 18) 165)) 18 162 a406) 22 F449) 17 (k446))) hk (vp_in_iff.mpr ⟨by omega, by omega⟩) (by rw [ex448, nI_clamp (by omega)]) dX12_records_78 ?_
      refine sM_22 (j := 0 + k446) hk (vp_in_iff.mpr ⟨by omega, by omega⟩) (by rw [fy455]; exact nI_clamp (by omega)) dX12_records_79 ?_
      obtain ⟨y456, ey456⟩ : ∃ y : Int32, y = x448 + Int32.ofInt 1 := ⟨_, rfl⟩
      refine g_iinc (v := y456) (lv' := [(1, .int y456), (0, .ref (r 0))]) hk 0 dX12_records_80 rfl ey456.symm (by decide) rfl ?_
      have fy456 : y456 = nI (k446 + 1) := by rw [ey456, ex448]; exact nI_1 (k446)
      refine g_goto (tgt := 52) hk dX12_records_83 (by decide) ?_
      rw [fy456]
      exact g_lv (List.forall_mem_cons.mpr ⟨List.mem_of_getElem? (i := 0) rfl, (List.forall_mem_cons.mpr ⟨List.mem_of_getElem? (i := 1) rfl, (fun _ h => absurd h List.not_mem_nil)⟩)⟩) (ih (k446 + 1) (upd F449 (0 + k446) ((up2 (up3 (up2 aM1 18 (cp (aM1 17) (aM1 18) 165)) 18 162 a406) 22 F449) 17 (k446))) (by omega))
  exact lp445 165 0 ((up3 (up2 aM1 18 (cp (aM1 17) (aM1 18) 165)) 18 162 a406) 22) (by omega)
def wo_m156_X12_in : List Cond := []
def wz_m156_X12_in : List Cond := .code yX12_in cX12_in 3 (some .boolean) :: (wo_m156_X12_in ++ ([] : List Cond))
theorem zg_m156_X12_in : ∀ w ∈ wz_m156_X12_in, goodWord w = true := zg_cons rfl (zg_app (by decide +kernel) zg_nil)
theorem zi_m156_X12_in : ∀ w ∈ wz_m156_X12_in, w ∈ lw_tbl := zi_cons zw_1658 (zi_app zi_nil zi_nil)
set_option maxHeartbeats 4000000 in
set_option maxRecDepth 100000 in
theorem m156_X12_in (l : Launch) (D : va_G) (zt : Nat × Nat × Nat) (g : Nat → ClassId) (r : Nat → Nat) (a460 : Int32) : GM l D zt (tyM g) yX12_in wz_m156_X12_in ({ frames := 0, cells := 0, slots := 0, locals := 0 } : Room) [.int a460, .int 0, .int 1] (wM r g iM1 aM1 lM1) (fun v _ w' => ((a460.toInt < 0) ∧ v = some (.int 0) ∧ w' = wM r g iM1 aM1 lM1) ∨ ((¬ (a460.toInt < 0)) ∧ (1 < a460.toInt) ∧ v = some (.int 0) ∧ w' = wM r g iM1 aM1 lM1) ∨ ((¬ (a460.toInt < 0)) ∧ (¬ (1 < a460.toInt)) ∧ v = some (.int 1) ∧ w' = wM r g iM1 aM1 lM1)) 0 0 := by
  refine GM.of (cc := cX12_in) (maxL := 3) (ret := (some .boolean)) (own := RX12) (lv := [(0, .int a460), (1, .int 0), (2, .int 1)]) (by decide) rfl rfl (Nat.le_of_ble_eq_true rfl) rfl (fun κ sz hk hR hN => ?_)
  refine g_iload_n hk dX12_in_0 rfl ?_
  refine g_iload_n hk dX12_in_1 rfl ?_
  refine g_icmp_lt (tgt := 14) (a := a460.toInt) (b := 0) hk dX12_in_2 (by decide) rfl rfl (fun c461 => ?_) (fun c461 => ?_)
  · skip
    refine g_iconst (v := 0) hk dX12_in_14 (by decide) ?_
    exact g_iret hk hR rfl (Or.inl ⟨c461, rfl, rfl⟩) dX12_in_15
  · skip
    refine g_iload_n hk dX12_in_5 rfl ?_
    refine g_iload_n hk dX12_in_6 rfl ?_
    refine g_icmp_gt (tgt := 14) (a := a460.toInt) (b := 1) hk dX12_in_7 (by decide) rfl rfl (fun c462 => ?_) (fun c462 => ?_)
    · skip
      refine g_iconst (v := 0) hk dX12_in_14 (by decide) ?_
      exact g_iret hk hR rfl (Or.inr (Or.inl ⟨c461, c462, rfl, rfl⟩)) dX12_in_15
    · skip
      refine g_iconst (v := 1) hk dX12_in_10 (by decide) ?_
      refine g_goto (tgt := 15) hk dX12_in_11 (by decide) ?_
      exact g_iret hk hR rfl (Or.inr (Or.inr (⟨c461, c462, rfl, rfl⟩))) dX12_in_15
def wo_m158_X12_keepsRow : List Cond := [Cond.fieldLink RX12 70 "WarpDeskModel" "now" "[I", Cond.fieldLink RX12 73 "WarpDeskModel" "row" "[I"]
def wz_m158_X12_keepsRow : List Cond := .code yX12_keepsRow cX12_keepsRow 2 none :: (wo_m158_X12_keepsRow ++ (wsX120 ++ ([] : List Cond)))
theorem zg_m158_X12_keepsRow : ∀ w ∈ wz_m158_X12_keepsRow, goodWord w = true := zg_cons rfl (zg_app (by decide +kernel) (zg_app zgU_wsX120 zg_nil))
theorem zi_m158_X12_keepsRow : ∀ w ∈ wz_m158_X12_keepsRow, w ∈ lw_tbl := zi_cons zw_1379 (zi_app (zi_cons zw_1413 (zi_cons zw_1414 zi_nil)) (zi_app inX12 zi_nil))
set_option maxHeartbeats 4000000 in
set_option maxRecDepth 100000 in
theorem m158_X12_keepsRow (l : Launch) (D : va_G) (zt : Nat × Nat × Nat) (F472 : Nat → Int32) (a406 : Int32) (g : Nat → ClassId) (r : Nat → Nat) : GM l D zt (tyM g) yX12_keepsRow wz_m158_X12_keepsRow ({ frames := 0, cells := 0, slots := 0, locals := 0 } : Room) [.ref (r 0)] (wM r g (upd iM1 22 1) (up2 (up3 (up2 aM1 18 (cp (aM1 17) (aM1 18) 165)) 18 163 a406) 22 F472) lM1) (fun v _ w' => v = none ∧ w' = wM r g (upd iM1 22 1) (up2 (up2 (up3 (up2 aM1 18 (cp (aM1 17) (aM1 18) 165)) 18 163 a406) 22 F472) 17 (cp ((up2 (up3 (up2 aM1 18 (cp (aM1 17) (aM1 18) 165)) 18 163 a406) 22 F472) 18) ((up2 (up3 (up2 aM1 18 (cp (aM1 17) (aM1 18) 165)) 18 163 a406) 22 F472) 17) 165)) lM1) 0 0 := by
  refine GM.of (cc := cX12_keepsRow) (maxL := 2) (ret := none) (own := RX12) (lv := [(0, .ref (r 0))]) (by decide) rfl rfl (Nat.le_of_ble_eq_true rfl) rfl (fun κ sz hk hR hN => ?_)
  have hin12 : ∀ w ∈ u_ws RX12 TX12 55, w ∈ wz_m158_X12_keepsRow := fun w h => (List.mem_cons_of_mem _ (List.mem_append_right _ (List.mem_append_left _ h)))
  refine g_iconst (v := 0) hk dX12_keepsRow_0 (by decide) ?_
  refine g_istore_n (lv' := [(1, .int 0), (0, .ref (r 0))]) hk dX12_keepsRow_1 (by decide) rfl ?_
  have lp473 : ∀ (n475 k474 : Nat), k474 + n475 = 165 → GW κ 2 0 0 (wM r g (upd iM1 22 1) (up2 (up2 (up3 (up2 aM1 18 (cp (aM1 17) (aM1 18) 165)) 18 163 a406) 22 F472) 17 (cp ((up2 (up3 (up2 aM1 18 (cp (aM1 17) (aM1 18) 165)) 18 163 a406) 22 F472) 18) ((up2 (up3 (up2 aM1 18 (cp (aM1 17) (aM1 18) 165)) 18 163 a406) 22 F472) 17) k474)) lM1) 2 [(1, .int (nI k474)), (0, .ref (r 0))] [] := by
    intro n475
    induction n475 with
    | zero =>
      intro k474 hk474
      obtain rfl : k474 = 165 := by omega
      show GW κ 2 0 0 (wM r g (upd iM1 22 1) (up2 (up2 (up3 (up2 aM1 18 (cp (aM1 17) (aM1 18) 165)) 18 163 a406) 22 F472) 17 (cp ((up2 (up3 (up2 aM1 18 (cp (aM1 17) (aM1 18) 165)) 18 163 a406) 22 F472) 18) ((up2 (up3 (up2 aM1 18 (cp (aM1 17) (aM1 18) 165)) 18 163 a406) 22 F472) 17) 165)) lM1) 2 [(1, .int 165), (0, .ref (r 0))] []
      refine g_iload_n hk dX12_keepsRow_2 rfl ?_
      refine g_sipush (v := 165) hk dX12_keepsRow_3 (by decide) ?_
      refine g_icmp_ge (tgt := 27) (a := 165) (b := 165) hk dX12_keepsRow_6 (by decide) rfl rfl (fun _ => ?_) (fun z9 => absurd (show (165 : Int) ≤ (165 : Int) from by decide) z9)
      exact g_vret hk hR ⟨rfl, rfl⟩ dX12_keepsRow_27
    | succ n475 ih =>
      intro k474 hk474
      obtain ⟨x476, ex476⟩ : ∃ x : Int32, x = nI k474 := ⟨_, rfl⟩
      have hx476 : x476.toInt = (k474 : Int) := by rw [ex476]; exact nI_toInt (by omega)
      rw [← ex476]
      refine g_iload_n hk dX12_keepsRow_2 rfl ?_
      refine g_sipush (v := 165) hk dX12_keepsRow_3 (by decide) ?_
      refine g_icmp_ge (tgt := 27) (a := x476.toInt) (b := 165) hk dX12_keepsRow_6 (by decide) rfl rfl (fun z9 => absurd z9 (show ¬ (165 ≤ x476.toInt) from by omega)) (fun _ => ?_)
      refine g_aload_n hk dX12_keepsRow_9 rfl ?_
      refine gM_r0_35 hk hin12 (List.mem_cons_of_mem _ (List.mem_append_left _ (List.mem_of_getElem? (i := 0) rfl))) dX12_keepsRow_10 ?_
      refine g_iload_n hk dX12_keepsRow_13 rfl ?_
      refine g_aload_n hk dX12_keepsRow_14 rfl ?_
      refine gM_r0_36 hk hin12 (List.mem_cons_of_mem _ (List.mem_append_left _ (List.mem_of_getElem? (i := 1) rfl))) dX12_keepsRow_15 ?_
      refine g_iload_n hk dX12_keepsRow_18 rfl ?_
      refine lM_18 (v := ((up2 (up2 (up3 (up2 aM1 18 (cp (aM1 17) (aM1 18) 165)) 18 163 a406) 22 F472) 17 (cp ((up2 (up3 (up2 aM1 18 (cp (aM1 17) (aM1 18) 165)) 18 163 a406) 22 F472) 18) ((up2 (up3 (up2 aM1 18 (cp (aM1 17) (aM1 18) 165)) 18 163 a406) 22 F472) 17) k474)) 18 (k474))) hk (vp_in_iff.mpr ⟨by omega, by omega⟩) (by rw [ex476, nI_clamp (by omega)]) dX12_keepsRow_19 ?_
      refine sM_17 (j := k474) hk (vp_in_iff.mpr ⟨by omega, by omega⟩) (by rw [ex476]; exact nI_clamp (by omega)) dX12_keepsRow_20 ?_
      obtain ⟨y477, ey477⟩ : ∃ y : Int32, y = x476 + Int32.ofInt 1 := ⟨_, rfl⟩
      refine g_iinc (v := y477) (lv' := [(1, .int y477), (0, .ref (r 0))]) hk 0 dX12_keepsRow_21 rfl ey477.symm (by decide) rfl ?_
      have fy477 : y477 = nI (k474 + 1) := by rw [ey477, ex476]; exact nI_1 (k474)
      refine g_goto (tgt := 2) hk dX12_keepsRow_24 (by decide) ?_
      rw [fy477]
      have eW : wM r g (upd iM1 22 1) (up3 (up2 (up2 (up3 (up2 aM1 18 (cp (aM1 17) (aM1 18) 165)) 18 163 a406) 22 F472) 17 (cp ((up2 (up3 (up2 aM1 18 (cp (aM1 17) (aM1 18) 165)) 18 163 a406) 22 F472) 18) ((up2 (up3 (up2 aM1 18 (cp (aM1 17) (aM1 18) 165)) 18 163 a406) 22 F472) 17) k474)) 17 (k474) ((up2 (up2 (up3 (up2 aM1 18 (cp (aM1 17) (aM1 18) 165)) 18 163 a406) 22 F472) 17 (cp ((up2 (up3 (up2 aM1 18 (cp (aM1 17) (aM1 18) 165)) 18 163 a406) 22 F472) 18) ((up2 (up3 (up2 aM1 18 (cp (aM1 17) (aM1 18) 165)) 18 163 a406) 22 F472) 17) k474)) 18 (k474))) lM1 = wM r g (upd iM1 22 1) (up2 (up2 (up3 (up2 aM1 18 (cp (aM1 17) (aM1 18) 165)) 18 163 a406) 22 F472) 17 (cp ((up2 (up3 (up2 aM1 18 (cp (aM1 17) (aM1 18) 165)) 18 163 a406) 22 F472) 18) ((up2 (up3 (up2 aM1 18 (cp (aM1 17) (aM1 18) 165)) 18 163 a406) 22 F472) 17) (k474 + 1))) lM1 := by rw [← cp_s ((up2 (up3 (up2 aM1 18 (cp (aM1 17) (aM1 18) 165)) 18 163 a406) 22 F472) 18) ((up2 (up3 (up2 aM1 18 (cp (aM1 17) (aM1 18) 165)) 18 163 a406) 22 F472) 17) (k474)]; rfl
      rw [eW]
      exact g_lv (List.forall_mem_cons.mpr ⟨List.mem_of_getElem? (i := 0) rfl, (List.forall_mem_cons.mpr ⟨List.mem_of_getElem? (i := 1) rfl, (fun _ h => absurd h List.not_mem_nil)⟩)⟩) (ih (k474 + 1) (by omega))
  exact lp473 165 0 (by omega)
def wo_m157_X12_records : List Cond := [Cond.fieldLink RX12 209 "WarpDeskModel" "undos" "I", Cond.methodLink RX12 121 yX12_keepsRow, Cond.instanceMethod yX12_keepsRow, Cond.selects RX12 yX12_keepsRow yX12_keepsRow, Cond.initialized RX12, Cond.fieldLink RX12 85 "WarpDeskModel" "history" "[I", Cond.fieldLink RX12 70 "WarpDeskModel" "now" "[I"]
def wz_m157_X12_records : List Cond := .code yX12_records cX12_records 2 none :: (wo_m157_X12_records ++ (wsX120 ++ (wz_m158_X12_keepsRow ++ ([] : List Cond))))
theorem zg_m157_X12_records : ∀ w ∈ wz_m157_X12_records, goodWord w = true := zg_cons rfl (zg_app (by decide +kernel) (zg_app zgU_wsX120 (zg_app zg_m158_X12_keepsRow zg_nil)))
theorem zi_m157_X12_records : ∀ w ∈ wz_m157_X12_records, w ∈ lw_tbl := zi_cons zw_1686 (zi_app (zi_cons zw_1422 (zi_cons zw_1376 (zi_cons zw_1378 (zi_cons zw_46 (zi_cons zw_115 (zi_cons zw_1423 (zi_cons zw_1413 zi_nil))))))) (zi_app inX12 (zi_app zi_m158_X12_keepsRow zi_nil)))
set_option maxHeartbeats 4000000 in
set_option maxRecDepth 100000 in
theorem m157_X12_records (l : Launch) (D : va_G) (zt : Nat × Nat × Nat) (a406 : Int32) (g : Nat → ClassId) (r : Nat → Nat) : GM l D zt (tyM g) yX12_records wz_m157_X12_records ({ frames := 1, cells := 0, slots := 0, locals := 21 } : Room) [.ref (r 0)] (wM r g iM1 (up3 (up2 aM1 18 (cp (aM1 17) (aM1 18) 165)) 18 163 a406) lM1) (fun v _ w' => ∃ (F472 : Nat → Int32), v = none ∧ w' = wM r g (upd iM1 22 1) (up2 (up2 (up3 (up2 aM1 18 (cp (aM1 17) (aM1 18) 165)) 18 163 a406) 22 F472) 17 (cp ((up2 (up3 (up2 aM1 18 (cp (aM1 17) (aM1 18) 165)) 18 163 a406) 22 F472) 18) ((up2 (up3 (up2 aM1 18 (cp (aM1 17) (aM1 18) 165)) 18 163 a406) 22 F472) 17) 165)) lM1) 0 0 := by
  refine GM.of (cc := cX12_records) (maxL := 2) (ret := none) (own := RX12) (lv := [(0, .ref (r 0))]) (by decide) rfl rfl (Nat.le_of_ble_eq_true rfl) rfl (fun κ sz hk hR hN => ?_)
  have hin12 : ∀ w ∈ u_ws RX12 TX12 55, w ∈ wz_m157_X12_records := fun w h => (List.mem_cons_of_mem _ (List.mem_append_right _ (List.mem_append_left _ h)))
  refine g_aload_n hk dX12_records_0 rfl ?_
  refine gM_i22 (v := 0) hk hin12 (List.mem_cons_of_mem _ (List.mem_append_left _ (List.mem_of_getElem? (i := 0) rfl))) dX12_records_1 rfl ?_
  refine g_bipush (v := 40) hk dX12_records_4 (by decide) ?_
  refine g_icmp_ne (tgt := 50) (a := 0) (b := 40) hk dX12_records_6 (by decide) rfl rfl (fun _ => ?_) (fun z9 => absurd (show (0 : Int) ≠ (40 : Int) from by decide) z9)
  refine g_iconst (v := 0) hk dX12_records_50 (by decide) ?_
  refine g_istore_n (lv' := [(1, .int 0), (0, .ref (r 0))]) hk dX12_records_51 (by decide) rfl ?_
  have lp468 : ∀ (n470 k469 : Nat) (F472 : Nat → Int32), k469 + n470 = 165 → GW κ 2 0 0 (wM r g iM1 (up2 (up3 (up2 aM1 18 (cp (aM1 17) (aM1 18) 165)) 18 163 a406) 22 F472) lM1) 52 [(1, .int (nI k469)), (0, .ref (r 0))] [] := by
    intro n470
    induction n470 with
    | zero =>
      intro k469 F472 hk469
      obtain rfl : k469 = 165 := by omega
      show GW κ 2 0 0 (wM r g iM1 (up2 (up3 (up2 aM1 18 (cp (aM1 17) (aM1 18) 165)) 18 163 a406) 22 F472) lM1) 52 [(1, .int 165), (0, .ref (r 0))] []
      refine g_iload_n hk dX12_records_52 rfl ?_
      refine g_sipush (v := 165) hk dX12_records_53 (by decide) ?_
      refine g_icmp_ge (tgt := 86) (a := 165) (b := 165) hk dX12_records_56 (by decide) rfl rfl (fun _ => ?_) (fun z9 => absurd (show (165 : Int) ≤ (165 : Int) from by decide) z9)
      refine g_aload_n hk dX12_records_86 rfl ?_
      refine g_dup hk dX12_records_87 rfl ?_
      refine gM_i22 (v := 0) hk hin12 (List.mem_cons_of_mem _ (List.mem_append_left _ (List.mem_of_getElem? (i := 0) rfl))) dX12_records_88 rfl ?_
      refine g_iconst (v := 1) hk dX12_records_91 (by decide) ?_
      refine g_iadd hk dX12_records_92 ?_
      refine g_norm (v := 1) (by decide) ?_
      refine pM_i22 hk hin12 (List.mem_cons_of_mem _ (List.mem_append_left _ (List.mem_of_getElem? (i := 0) rfl))) dX12_records_93 ?_
      refine g_aload_n hk dX12_records_96 rfl ?_
      refine g_callV (n := 0) hk (m158_X12_keepsRow l D zt F472 a406 g r) (SP.same _) (fun _ h => h) (gi_V (List.mem_cons_of_mem _ (List.mem_append_left _ (List.mem_of_getElem? (i := 1) rfl))) (List.mem_cons_of_mem _ (List.mem_append_left _ (List.mem_of_getElem? (i := 2) rfl))) (List.mem_cons_of_mem _ (List.mem_append_left _ (List.mem_of_getElem? (i := 3) rfl))) (List.mem_cons_of_mem _ (List.mem_append_left _ (List.mem_of_getElem? (i := 4) rfl))) (gi_sub (fun w h => (List.mem_cons_of_mem _ (List.mem_append_right _ (List.mem_append_right _ (List.mem_append_left _ h))))) zg_m158_X12_keepsRow)) rfl rfl rfl (by decide +kernel) ⟨Nat.le_of_ble_eq_true rfl, Nat.le_of_ble_eq_true rfl⟩ 0 rfl rfl rfl rfl (Nat.le_of_ble_eq_true rfl) ⟨Nat.le_of_ble_eq_true rfl, Nat.le_of_ble_eq_true rfl⟩ dX12_records_97 (fun v ty' w' hp hk' => ?_)
      obtain ⟨rfl, rfl⟩ := hp
      show GW κ 2 0 0 (wM r g (upd iM1 22 1) (up2 (up2 (up3 (up2 aM1 18 (cp (aM1 17) (aM1 18) 165)) 18 163 a406) 22 F472) 17 (cp ((up2 (up3 (up2 aM1 18 (cp (aM1 17) (aM1 18) 165)) 18 163 a406) 22 F472) 18) ((up2 (up3 (up2 aM1 18 (cp (aM1 17) (aM1 18) 165)) 18 163 a406) 22 F472) 17) 165)) lM1) 100 [(1, .int 165), (0, .ref (r 0))] []
      exact g_vret hk hR ⟨F472, rfl, rfl⟩ dX12_records_100
    | succ n470 ih =>
      intro k469 F472 hk469
      obtain ⟨x471, ex471⟩ : ∃ x : Int32, x = nI k469 := ⟨_, rfl⟩
      have hx471 : x471.toInt = (k469 : Int) := by rw [ex471]; exact nI_toInt (by omega)
      rw [← ex471]
      refine g_iload_n hk dX12_records_52 rfl ?_
      refine g_sipush (v := 165) hk dX12_records_53 (by decide) ?_
      refine g_icmp_ge (tgt := 86) (a := x471.toInt) (b := 165) hk dX12_records_56 (by decide) rfl rfl (fun z9 => absurd z9 (show ¬ (165 ≤ x471.toInt) from by omega)) (fun _ => ?_)
      refine g_aload_n hk dX12_records_59 rfl ?_
      refine gM_r0_45 hk hin12 (List.mem_cons_of_mem _ (List.mem_append_left _ (List.mem_of_getElem? (i := 5) rfl))) dX12_records_60 ?_
      refine g_sipush (v := 165) hk dX12_records_63 (by decide) ?_
      refine g_aload_n hk dX12_records_66 rfl ?_
      refine gM_i22 (v := 0) hk hin12 (List.mem_cons_of_mem _ (List.mem_append_left _ (List.mem_of_getElem? (i := 0) rfl))) dX12_records_67 rfl ?_
      refine g_imul hk dX12_records_70 ?_
      refine g_norm (v := 0) (by decide) ?_
      refine g_iload_n hk dX12_records_71 rfl ?_
      refine g_iadd hk dX12_records_72 ?_
      refine g_topi (fun y478 ey478 => ?_)
      have fy478 : y478 = nI (0 + k469) := by rw [ey478, ex471]; exact nI_add 0 (k469)
      have hy478 : y478.toInt = ((0 + k469 : Nat) : Int) := by rw [fy478]; exact nI_toInt (by omega)
      refine g_aload_n hk dX12_records_73 rfl ?_
      refine gM_r0_35 hk hin12 (List.mem_cons_of_mem _ (List.mem_append_left _ (List.mem_of_getElem? (i := 6) rfl))) dX12_records_74 ?_
      refine g_iload_n hk dX12_records_77 rfl ?_
      refine lM_17 (v := ((up2 (up3 (up2 aM1 18 (cp (aM1 17) (aM1 18) 165)) 18 163 a406) 22 F472) 17 (k469))) hk (vp_in_iff.mpr ⟨by omega, by omega⟩) (by rw [ex471, nI_clamp (by omega)]) dX12_records_78 ?_
      refine sM_22 (j := 0 + k469) hk (vp_in_iff.mpr ⟨by omega, by omega⟩) (by rw [fy478]; exact nI_clamp (by omega)) dX12_records_79 ?_
      obtain ⟨y479, ey479⟩ : ∃ y : Int32, y = x471 + Int32.ofInt 1 := ⟨_, rfl⟩
      refine g_iinc (v := y479) (lv' := [(1, .int y479), (0, .ref (r 0))]) hk 0 dX12_records_80 rfl ey479.symm (by decide) rfl ?_
      have fy479 : y479 = nI (k469 + 1) := by rw [ey479, ex471]; exact nI_1 (k469)
      refine g_goto (tgt := 52) hk dX12_records_83 (by decide) ?_
      rw [fy479]
      exact g_lv (List.forall_mem_cons.mpr ⟨List.mem_of_getElem? (i := 0) rfl, (List.forall_mem_cons.mpr ⟨List.mem_of_getElem? (i := 1) rfl, (fun _ h => absurd h List.not_mem_nil)⟩)⟩) (ih (k469 + 1) (upd F472 (0 + k469) ((up2 (up3 (up2 aM1 18 (cp (aM1 17) (aM1 18) 165)) 18 163 a406) 22 F472) 17 (k469))) (by omega))
  exact lp468 165 0 ((up3 (up2 aM1 18 (cp (aM1 17) (aM1 18) 165)) 18 163 a406) 22) (by omega)
def wo_m159_X12_in : List Cond := []
def wz_m159_X12_in : List Cond := .code yX12_in cX12_in 3 (some .boolean) :: (wo_m159_X12_in ++ ([] : List Cond))
theorem zg_m159_X12_in : ∀ w ∈ wz_m159_X12_in, goodWord w = true := zg_cons rfl (zg_app (by decide +kernel) zg_nil)
theorem zi_m159_X12_in : ∀ w ∈ wz_m159_X12_in, w ∈ lw_tbl := zi_cons zw_1658 (zi_app zi_nil zi_nil)
set_option maxHeartbeats 4000000 in
set_option maxRecDepth 100000 in
theorem m159_X12_in (l : Launch) (D : va_G) (zt : Nat × Nat × Nat) (g : Nat → ClassId) (r : Nat → Nat) (a483 : Int32) : GM l D zt (tyM g) yX12_in wz_m159_X12_in ({ frames := 0, cells := 0, slots := 0, locals := 0 } : Room) [.int a483, .int 1, .int 99] (wM r g iM1 aM1 lM1) (fun v _ w' => ((a483.toInt < 1) ∧ v = some (.int 0) ∧ w' = wM r g iM1 aM1 lM1) ∨ ((¬ (a483.toInt < 1)) ∧ (99 < a483.toInt) ∧ v = some (.int 0) ∧ w' = wM r g iM1 aM1 lM1) ∨ ((¬ (a483.toInt < 1)) ∧ (¬ (99 < a483.toInt)) ∧ v = some (.int 1) ∧ w' = wM r g iM1 aM1 lM1)) 0 0 := by
  refine GM.of (cc := cX12_in) (maxL := 3) (ret := (some .boolean)) (own := RX12) (lv := [(0, .int a483), (1, .int 1), (2, .int 99)]) (by decide) rfl rfl (Nat.le_of_ble_eq_true rfl) rfl (fun κ sz hk hR hN => ?_)
  refine g_iload_n hk dX12_in_0 rfl ?_
  refine g_iload_n hk dX12_in_1 rfl ?_
  refine g_icmp_lt (tgt := 14) (a := a483.toInt) (b := 1) hk dX12_in_2 (by decide) rfl rfl (fun c484 => ?_) (fun c484 => ?_)
  · skip
    refine g_iconst (v := 0) hk dX12_in_14 (by decide) ?_
    exact g_iret hk hR rfl (Or.inl ⟨c484, rfl, rfl⟩) dX12_in_15
  · skip
    refine g_iload_n hk dX12_in_5 rfl ?_
    refine g_iload_n hk dX12_in_6 rfl ?_
    refine g_icmp_gt (tgt := 14) (a := a483.toInt) (b := 99) hk dX12_in_7 (by decide) rfl rfl (fun c485 => ?_) (fun c485 => ?_)
    · skip
      refine g_iconst (v := 0) hk dX12_in_14 (by decide) ?_
      exact g_iret hk hR rfl (Or.inr (Or.inl ⟨c484, c485, rfl, rfl⟩)) dX12_in_15
    · skip
      refine g_iconst (v := 1) hk dX12_in_10 (by decide) ?_
      refine g_goto (tgt := 15) hk dX12_in_11 (by decide) ?_
      exact g_iret hk hR rfl (Or.inr (Or.inr (⟨c484, c485, rfl, rfl⟩))) dX12_in_15
def wo_m161_X12_keepsRow : List Cond := [Cond.fieldLink RX12 70 "WarpDeskModel" "now" "[I", Cond.fieldLink RX12 73 "WarpDeskModel" "row" "[I"]
def wz_m161_X12_keepsRow : List Cond := .code yX12_keepsRow cX12_keepsRow 2 none :: (wo_m161_X12_keepsRow ++ (wsX120 ++ ([] : List Cond)))
theorem zg_m161_X12_keepsRow : ∀ w ∈ wz_m161_X12_keepsRow, goodWord w = true := zg_cons rfl (zg_app (by decide +kernel) (zg_app zgU_wsX120 zg_nil))
theorem zi_m161_X12_keepsRow : ∀ w ∈ wz_m161_X12_keepsRow, w ∈ lw_tbl := zi_cons zw_1379 (zi_app (zi_cons zw_1413 (zi_cons zw_1414 zi_nil)) (zi_app inX12 zi_nil))
set_option maxHeartbeats 4000000 in
set_option maxRecDepth 100000 in
theorem m161_X12_keepsRow (l : Launch) (D : va_G) (zt : Nat × Nat × Nat) (F495 : Nat → Int32) (a406 : Int32) (g : Nat → ClassId) (r : Nat → Nat) : GM l D zt (tyM g) yX12_keepsRow wz_m161_X12_keepsRow ({ frames := 0, cells := 0, slots := 0, locals := 0 } : Room) [.ref (r 0)] (wM r g (upd iM1 22 1) (up2 (up3 (up2 aM1 18 (cp (aM1 17) (aM1 18) 165)) 18 164 a406) 22 F495) lM1) (fun v _ w' => v = none ∧ w' = wM r g (upd iM1 22 1) (up2 (up2 (up3 (up2 aM1 18 (cp (aM1 17) (aM1 18) 165)) 18 164 a406) 22 F495) 17 (cp ((up2 (up3 (up2 aM1 18 (cp (aM1 17) (aM1 18) 165)) 18 164 a406) 22 F495) 18) ((up2 (up3 (up2 aM1 18 (cp (aM1 17) (aM1 18) 165)) 18 164 a406) 22 F495) 17) 165)) lM1) 0 0 := by
  refine GM.of (cc := cX12_keepsRow) (maxL := 2) (ret := none) (own := RX12) (lv := [(0, .ref (r 0))]) (by decide) rfl rfl (Nat.le_of_ble_eq_true rfl) rfl (fun κ sz hk hR hN => ?_)
  have hin12 : ∀ w ∈ u_ws RX12 TX12 55, w ∈ wz_m161_X12_keepsRow := fun w h => (List.mem_cons_of_mem _ (List.mem_append_right _ (List.mem_append_left _ h)))
  refine g_iconst (v := 0) hk dX12_keepsRow_0 (by decide) ?_
  refine g_istore_n (lv' := [(1, .int 0), (0, .ref (r 0))]) hk dX12_keepsRow_1 (by decide) rfl ?_
  have lp496 : ∀ (n498 k497 : Nat), k497 + n498 = 165 → GW κ 2 0 0 (wM r g (upd iM1 22 1) (up2 (up2 (up3 (up2 aM1 18 (cp (aM1 17) (aM1 18) 165)) 18 164 a406) 22 F495) 17 (cp ((up2 (up3 (up2 aM1 18 (cp (aM1 17) (aM1 18) 165)) 18 164 a406) 22 F495) 18) ((up2 (up3 (up2 aM1 18 (cp (aM1 17) (aM1 18) 165)) 18 164 a406) 22 F495) 17) k497)) lM1) 2 [(1, .int (nI k497)), (0, .ref (r 0))] [] := by
    intro n498
    induction n498 with
    | zero =>
      intro k497 hk497
      obtain rfl : k497 = 165 := by omega
      show GW κ 2 0 0 (wM r g (upd iM1 22 1) (up2 (up2 (up3 (up2 aM1 18 (cp (aM1 17) (aM1 18) 165)) 18 164 a406) 22 F495) 17 (cp ((up2 (up3 (up2 aM1 18 (cp (aM1 17) (aM1 18) 165)) 18 164 a406) 22 F495) 18) ((up2 (up3 (up2 aM1 18 (cp (aM1 17) (aM1 18) 165)) 18 164 a406) 22 F495) 17) 165)) lM1) 2 [(1, .int 165), (0, .ref (r 0))] []
      refine g_iload_n hk dX12_keepsRow_2 rfl ?_
      refine g_sipush (v := 165) hk dX12_keepsRow_3 (by decide) ?_
      refine g_icmp_ge (tgt := 27) (a := 165) (b := 165) hk dX12_keepsRow_6 (by decide) rfl rfl (fun _ => ?_) (fun z9 => absurd (show (165 : Int) ≤ (165 : Int) from by decide) z9)
      exact g_vret hk hR ⟨rfl, rfl⟩ dX12_keepsRow_27
    | succ n498 ih =>
      intro k497 hk497
      obtain ⟨x499, ex499⟩ : ∃ x : Int32, x = nI k497 := ⟨_, rfl⟩
      have hx499 : x499.toInt = (k497 : Int) := by rw [ex499]; exact nI_toInt (by omega)
      rw [← ex499]
      refine g_iload_n hk dX12_keepsRow_2 rfl ?_
      refine g_sipush (v := 165) hk dX12_keepsRow_3 (by decide) ?_
      refine g_icmp_ge (tgt := 27) (a := x499.toInt) (b := 165) hk dX12_keepsRow_6 (by decide) rfl rfl (fun z9 => absurd z9 (show ¬ (165 ≤ x499.toInt) from by omega)) (fun _ => ?_)
      refine g_aload_n hk dX12_keepsRow_9 rfl ?_
      refine gM_r0_35 hk hin12 (List.mem_cons_of_mem _ (List.mem_append_left _ (List.mem_of_getElem? (i := 0) rfl))) dX12_keepsRow_10 ?_
      refine g_iload_n hk dX12_keepsRow_13 rfl ?_
      refine g_aload_n hk dX12_keepsRow_14 rfl ?_
      refine gM_r0_36 hk hin12 (List.mem_cons_of_mem _ (List.mem_append_left _ (List.mem_of_getElem? (i := 1) rfl))) dX12_keepsRow_15 ?_
      refine g_iload_n hk dX12_keepsRow_18 rfl ?_
      refine lM_18 (v := ((up2 (up2 (up3 (up2 aM1 18 (cp (aM1 17) (aM1 18) 165)) 18 164 a406) 22 F495) 17 (cp ((up2 (up3 (up2 aM1 18 (cp (aM1 17) (aM1 18) 165)) 18 164 a406) 22 F495) 18) ((up2 (up3 (up2 aM1 18 (cp (aM1 17) (aM1 18) 165)) 18 164 a406) 22 F495) 17) k497)) 18 (k497))) hk (vp_in_iff.mpr ⟨by omega, by omega⟩) (by rw [ex499, nI_clamp (by omega)]) dX12_keepsRow_19 ?_
      refine sM_17 (j := k497) hk (vp_in_iff.mpr ⟨by omega, by omega⟩) (by rw [ex499]; exact nI_clamp (by omega)) dX12_keepsRow_20 ?_
      obtain ⟨y500, ey500⟩ : ∃ y : Int32, y = x499 + Int32.ofInt 1 := ⟨_, rfl⟩
      refine g_iinc (v := y500) (lv' := [(1, .int y500), (0, .ref (r 0))]) hk 0 dX12_keepsRow_21 rfl ey500.symm (by decide) rfl ?_
      have fy500 : y500 = nI (k497 + 1) := by rw [ey500, ex499]; exact nI_1 (k497)
      refine g_goto (tgt := 2) hk dX12_keepsRow_24 (by decide) ?_
      rw [fy500]
      have eW : wM r g (upd iM1 22 1) (up3 (up2 (up2 (up3 (up2 aM1 18 (cp (aM1 17) (aM1 18) 165)) 18 164 a406) 22 F495) 17 (cp ((up2 (up3 (up2 aM1 18 (cp (aM1 17) (aM1 18) 165)) 18 164 a406) 22 F495) 18) ((up2 (up3 (up2 aM1 18 (cp (aM1 17) (aM1 18) 165)) 18 164 a406) 22 F495) 17) k497)) 17 (k497) ((up2 (up2 (up3 (up2 aM1 18 (cp (aM1 17) (aM1 18) 165)) 18 164 a406) 22 F495) 17 (cp ((up2 (up3 (up2 aM1 18 (cp (aM1 17) (aM1 18) 165)) 18 164 a406) 22 F495) 18) ((up2 (up3 (up2 aM1 18 (cp (aM1 17) (aM1 18) 165)) 18 164 a406) 22 F495) 17) k497)) 18 (k497))) lM1 = wM r g (upd iM1 22 1) (up2 (up2 (up3 (up2 aM1 18 (cp (aM1 17) (aM1 18) 165)) 18 164 a406) 22 F495) 17 (cp ((up2 (up3 (up2 aM1 18 (cp (aM1 17) (aM1 18) 165)) 18 164 a406) 22 F495) 18) ((up2 (up3 (up2 aM1 18 (cp (aM1 17) (aM1 18) 165)) 18 164 a406) 22 F495) 17) (k497 + 1))) lM1 := by rw [← cp_s ((up2 (up3 (up2 aM1 18 (cp (aM1 17) (aM1 18) 165)) 18 164 a406) 22 F495) 18) ((up2 (up3 (up2 aM1 18 (cp (aM1 17) (aM1 18) 165)) 18 164 a406) 22 F495) 17) (k497)]; rfl
      rw [eW]
      exact g_lv (List.forall_mem_cons.mpr ⟨List.mem_of_getElem? (i := 0) rfl, (List.forall_mem_cons.mpr ⟨List.mem_of_getElem? (i := 1) rfl, (fun _ h => absurd h List.not_mem_nil)⟩)⟩) (ih (k497 + 1) (by omega))
  exact lp496 165 0 (by omega)
def wo_m160_X12_records : List Cond := [Cond.fieldLink RX12 209 "WarpDeskModel" "undos" "I", Cond.methodLink RX12 121 yX12_keepsRow, Cond.instanceMethod yX12_keepsRow, Cond.selects RX12 yX12_keepsRow yX12_keepsRow, Cond.initialized RX12, Cond.fieldLink RX12 85 "WarpDeskModel" "history" "[I", Cond.fieldLink RX12 70 "WarpDeskModel" "now" "[I"]
def wz_m160_X12_records : List Cond := .code yX12_records cX12_records 2 none :: (wo_m160_X12_records ++ (wsX120 ++ (wz_m161_X12_keepsRow ++ ([] : List Cond))))
theorem zg_m160_X12_records : ∀ w ∈ wz_m160_X12_records, goodWord w = true := zg_cons rfl (zg_app (by decide +kernel) (zg_app zgU_wsX120 (zg_app zg_m161_X12_keepsRow zg_nil)))
theorem zi_m160_X12_records : ∀ w ∈ wz_m160_X12_records, w ∈ lw_tbl := zi_cons zw_1686 (zi_app (zi_cons zw_1422 (zi_cons zw_1376 (zi_cons zw_1378 (zi_cons zw_46 (zi_cons zw_115 (zi_cons zw_1423 (zi_cons zw_1413 zi_nil))))))) (zi_app inX12 (zi_app zi_m161_X12_keepsRow zi_nil)))
set_option maxHeartbeats 4000000 in
set_option maxRecDepth 100000 in
theorem m160_X12_records (l : Launch) (D : va_G) (zt : Nat × Nat × Nat) (a406 : Int32) (g : Nat → ClassId) (r : Nat → Nat) : GM l D zt (tyM g) yX12_records wz_m160_X12_records ({ frames := 1, cells := 0, slots := 0, locals := 21 } : Room) [.ref (r 0)] (wM r g iM1 (up3 (up2 aM1 18 (cp (aM1 17) (aM1 18) 165)) 18 164 a406) lM1) (fun v _ w' => ∃ (F495 : Nat → Int32), v = none ∧ w' = wM r g (upd iM1 22 1) (up2 (up2 (up3 (up2 aM1 18 (cp (aM1 17) (aM1 18) 165)) 18 164 a406) 22 F495) 17 (cp ((up2 (up3 (up2 aM1 18 (cp (aM1 17) (aM1 18) 165)) 18 164 a406) 22 F495) 18) ((up2 (up3 (up2 aM1 18 (cp (aM1 17) (aM1 18) 165)) 18 164 a406) 22 F495) 17) 165)) lM1) 0 0 := by
  refine GM.of (cc := cX12_records) (maxL := 2) (ret := none) (own := RX12) (lv := [(0, .ref (r 0))]) (by decide) rfl rfl (Nat.le_of_ble_eq_true rfl) rfl (fun κ sz hk hR hN => ?_)
  have hin12 : ∀ w ∈ u_ws RX12 TX12 55, w ∈ wz_m160_X12_records := fun w h => (List.mem_cons_of_mem _ (List.mem_append_right _ (List.mem_append_left _ h)))
  refine g_aload_n hk dX12_records_0 rfl ?_
  refine gM_i22 (v := 0) hk hin12 (List.mem_cons_of_mem _ (List.mem_append_left _ (List.mem_of_getElem? (i := 0) rfl))) dX12_records_1 rfl ?_
  refine g_bipush (v := 40) hk dX12_records_4 (by decide) ?_
  refine g_icmp_ne (tgt := 50) (a := 0) (b := 40) hk dX12_records_6 (by decide) rfl rfl (fun _ => ?_) (fun z9 => absurd (show (0 : Int) ≠ (40 : Int) from by decide) z9)
  refine g_iconst (v := 0) hk dX12_records_50 (by decide) ?_
  refine g_istore_n (lv' := [(1, .int 0), (0, .ref (r 0))]) hk dX12_records_51 (by decide) rfl ?_
  have lp491 : ∀ (n493 k492 : Nat) (F495 : Nat → Int32), k492 + n493 = 165 → GW κ 2 0 0 (wM r g iM1 (up2 (up3 (up2 aM1 18 (cp (aM1 17) (aM1 18) 165)) 18 164 a406) 22 F495) lM1) 52 [(1, .int (nI k492)), (0, .ref (r 0))] [] := by
    intro n493
    induction n493 with
    | zero =>
      intro k492 F495 hk492
      obtain rfl : k492 = 165 := by omega
      show GW κ 2 0 0 (wM r g iM1 (up2 (up3 (up2 aM1 18 (cp (aM1 17) (aM1 18) 165)) 18 164 a406) 22 F495) lM1) 52 [(1, .int 165), (0, .ref (r 0))] []
      refine g_iload_n hk dX12_records_52 rfl ?_
      refine g_sipush (v := 165) hk dX12_records_53 (by decide) ?_
      refine g_icmp_ge (tgt := 86) (a := 165) (b := 165) hk dX12_records_56 (by decide) rfl rfl (fun _ => ?_) (fun z9 => absurd (show (165 : Int) ≤ (165 : Int) from by decide) z9)
      refine g_aload_n hk dX12_records_86 rfl ?_
      refine g_dup hk dX12_records_87 rfl ?_
      refine gM_i22 (v := 0) hk hin12 (List.mem_cons_of_mem _ (List.mem_append_left _ (List.mem_of_getElem? (i := 0) rfl))) dX12_records_88 rfl ?_
      refine g_iconst (v := 1) hk dX12_records_91 (by decide) ?_
      refine g_iadd hk dX12_records_92 ?_
      refine g_norm (v := 1) (by decide) ?_
      refine pM_i22 hk hin12 (List.mem_cons_of_mem _ (List.mem_append_left _ (List.mem_of_getElem? (i := 0) rfl))) dX12_records_93 ?_
      refine g_aload_n hk dX12_records_96 rfl ?_
      refine g_callV (n := 0) hk (m161_X12_keepsRow l D zt F495 a406 g r) (SP.same _) (fun _ h => h) (gi_V (List.mem_cons_of_mem _ (List.mem_append_left _ (List.mem_of_getElem? (i := 1) rfl))) (List.mem_cons_of_mem _ (List.mem_append_left _ (List.mem_of_getElem? (i := 2) rfl))) (List.mem_cons_of_mem _ (List.mem_append_left _ (List.mem_of_getElem? (i := 3) rfl))) (List.mem_cons_of_mem _ (List.mem_append_left _ (List.mem_of_getElem? (i := 4) rfl))) (gi_sub (fun w h => (List.mem_cons_of_mem _ (List.mem_append_right _ (List.mem_append_right _ (List.mem_append_left _ h))))) zg_m161_X12_keepsRow)) rfl rfl rfl (by decide +kernel) ⟨Nat.le_of_ble_eq_true rfl, Nat.le_of_ble_eq_true rfl⟩ 0 rfl rfl rfl rfl (Nat.le_of_ble_eq_true rfl) ⟨Nat.le_of_ble_eq_true rfl, Nat.le_of_ble_eq_true rfl⟩ dX12_records_97 (fun v ty' w' hp hk' => ?_)
      obtain ⟨rfl, rfl⟩ := hp
      show GW κ 2 0 0 (wM r g (upd iM1 22 1) (up2 (up2 (up3 (up2 aM1 18 (cp (aM1 17) (aM1 18) 165)) 18 164 a406) 22 F495) 17 (cp ((up2 (up3 (up2 aM1 18 (cp (aM1 17) (aM1 18) 165)) 18 164 a406) 22 F495) 18) ((up2 (up3 (up2 aM1 18 (cp (aM1 17) (aM1 18) 165)) 18 164 a406) 22 F495) 17) 165)) lM1) 100 [(1, .int 165), (0, .ref (r 0))] []
      exact g_vret hk hR ⟨F495, rfl, rfl⟩ dX12_records_100
    | succ n493 ih =>
      intro k492 F495 hk492
      obtain ⟨x494, ex494⟩ : ∃ x : Int32, x = nI k492 := ⟨_, rfl⟩
      have hx494 : x494.toInt = (k492 : Int) := by rw [ex494]; exact nI_toInt (by omega)
      rw [← ex494]
      refine g_iload_n hk dX12_records_52 rfl ?_
      refine g_sipush (v := 165) hk dX12_records_53 (by decide) ?_
      refine g_icmp_ge (tgt := 86) (a := x494.toInt) (b := 165) hk dX12_records_56 (by decide) rfl rfl (fun z9 => absurd z9 (show ¬ (165 ≤ x494.toInt) from by omega)) (fun _ => ?_)
      refine g_aload_n hk dX12_records_59 rfl ?_
      refine gM_r0_45 hk hin12 (List.mem_cons_of_mem _ (List.mem_append_left _ (List.mem_of_getElem? (i := 5) rfl))) dX12_records_60 ?_
      refine g_sipush (v := 165) hk dX12_records_63 (by decide) ?_
      refine g_aload_n hk dX12_records_66 rfl ?_
      refine gM_i22 (v := 0) hk hin12 (List.mem_cons_of_mem _ (List.mem_append_left _ (List.mem_of_getElem? (i := 0) rfl))) dX12_records_67 rfl ?_
      refine g_imul hk dX12_records_70 ?_
      refine g_norm (v := 0) (by decide) ?_
      refine g_iload_n hk dX12_records_71 rfl ?_
      refine g_iadd hk dX12_records_72 ?_
      refine g_topi (fun y501 ey501 => ?_)
      have fy501 : y501 = nI (0 + k492) := by rw [ey501, ex494]; exact nI_add 0 (k492)
      have hy501 : y501.toInt = ((0 + k492 : Nat) : Int) := by rw [fy501]; exact nI_toInt (by omega)
      refine g_aload_n hk dX12_records_73 rfl ?_
      refine gM_r0_35 hk hin12 (List.mem_cons_of_mem _ (List.mem_append_left _ (List.mem_of_getElem? (i := 6) rfl))) dX12_records_74 ?_
      refine g_iload_n hk dX12_records_77 rfl ?_
      refine lM_17 (v := ((up2 (up3 (up2 aM1 18 (cp (aM1 17) (aM1 18) 165)) 18 164 a406) 22 F495) 17 (k492))) hk (vp_in_iff.mpr ⟨by omega, by omega⟩) (by rw [ex494, nI_clamp (by omega)]) dX12_records_78 ?_
      refine sM_22 (j := 0 + k492) hk (vp_in_iff.mpr ⟨by omega, by omega⟩) (by rw [fy501]; exact nI_clamp (by omega)) dX12_records_79 ?_
      obtain ⟨y502, ey502⟩ : ∃ y : Int32, y = x494 + Int32.ofInt 1 := ⟨_, rfl⟩
      refine g_iinc (v := y502) (lv' := [(1, .int y502), (0, .ref (r 0))]) hk 0 dX12_records_80 rfl ey502.symm (by decide) rfl ?_
      have fy502 : y502 = nI (k492 + 1) := by rw [ey502, ex494]; exact nI_1 (k492)
      refine g_goto (tgt := 52) hk dX12_records_83 (by decide) ?_
      rw [fy502]
      exact g_lv (List.forall_mem_cons.mpr ⟨List.mem_of_getElem? (i := 0) rfl, (List.forall_mem_cons.mpr ⟨List.mem_of_getElem? (i := 1) rfl, (fun _ h => absurd h List.not_mem_nil)⟩)⟩) (ih (k492 + 1) (upd F495 (0 + k492) ((up2 (up3 (up2 aM1 18 (cp (aM1 17) (aM1 18) 165)) 18 164 a406) 22 F495) 17 (k492))) (by omega))
  exact lp491 165 0 ((up3 (up2 aM1 18 (cp (aM1 17) (aM1 18) 165)) 18 164 a406) 22) (by omega)
