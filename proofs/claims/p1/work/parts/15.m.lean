def wo_m149_X12_set : List Cond := [Cond.methodLink RX12 244 yX12_in, Cond.static yX12_in, Cond.initialized RX12, Cond.fieldLink RX12 70 "WarpDeskModel" "now" "[I", Cond.methodLink RX12 323 yX12_copies, Cond.instanceMethod yX12_copies, Cond.selects RX12 yX12_copies yX12_copies, Cond.fieldLink RX12 73 "WarpDeskModel" "row" "[I", Cond.methodLink RX12 326 yX12_records, Cond.instanceMethod yX12_records, Cond.selects RX12 yX12_records yX12_records]
def wz_m149_X12_set : List Cond := .code yX12_set cX12_set 5 (some .boolean) :: (wo_m149_X12_set ++ (wsX120 ++ (wz_m150_X12_in ++ (wz_m151_X12_in ++ (wz_m139_X12_copies ++ (wz_m152_X12_records ++ (wz_m154_X12_records ++ (wz_m156_X12_in ++ (wz_m157_X12_records ++ (wz_m159_X12_in ++ (wz_m160_X12_records ++ ([] : List Cond))))))))))))
theorem zg_m149_X12_set : ∀ w ∈ wz_m149_X12_set, goodWord w = true := zg_cons rfl (zg_app (by decide +kernel) (zg_app zgU_wsX120 (zg_app zg_m150_X12_in (zg_app zg_m151_X12_in (zg_app zg_m139_X12_copies (zg_app zg_m152_X12_records (zg_app zg_m154_X12_records (zg_app zg_m156_X12_in (zg_app zg_m157_X12_records (zg_app zg_m159_X12_in (zg_app zg_m160_X12_records zg_nil)))))))))))
theorem zi_m149_X12_set : ∀ w ∈ wz_m149_X12_set, w ∈ lw_tbl := zi_cons zw_1705 (zi_app (zi_cons zw_1656 (zi_cons zw_1657 (zi_cons zw_115 (zi_cons zw_1413 (zi_cons zw_1679 (zi_cons zw_1681 (zi_cons zw_70 (zi_cons zw_1414 (zi_cons zw_1683 (zi_cons zw_1685 (zi_cons zw_71 zi_nil))))))))))) (zi_app inX12 (zi_app zi_m150_X12_in (zi_app zi_m151_X12_in (zi_app zi_m139_X12_copies (zi_app zi_m152_X12_records (zi_app zi_m154_X12_records (zi_app zi_m156_X12_in (zi_app zi_m157_X12_records (zi_app zi_m159_X12_in (zi_app zi_m160_X12_records zi_nil)))))))))))
set_option maxHeartbeats 4000000 in
set_option maxRecDepth 100000 in
theorem m149_X12_set (l : Launch) (D : va_G) (zt : Nat × Nat × Nat) (g : Nat → ClassId) (r : Nat → Nat) (a405 : Int32) (a406 : Int32) : GM l D zt (tyM g) yX12_set wz_m149_X12_set ({ frames := 2, cells := 0, slots := 0, locals := 42 } : Room) [.ref (r 0), .int a405, .int a406] (wM r g iM1 aM1 lM1) (fun v _ w' => ((a405.toInt < 0) ∧ v = some (.int 0) ∧ w' = wM r g iM1 aM1 lM1) ∨ ((¬ (a405.toInt < 0)) ∧ (3 < a405.toInt) ∧ v = some (.int 0) ∧ w' = wM r g iM1 aM1 lM1) ∨ ((¬ (a405.toInt < 0)) ∧ (¬ (3 < a405.toInt)) ∧ (a405.toInt = 0) ∧ (2 ≠ a406.toInt) ∧ (a406.toInt < 0) ∧ v = some (.int 0) ∧ w' = wM r g iM1 aM1 lM1) ∨ ((¬ (a405.toInt < 0)) ∧ (¬ (3 < a405.toInt)) ∧ (a405.toInt = 0) ∧ (2 ≠ a406.toInt) ∧ (¬ (a406.toInt < 0)) ∧ (15 < a406.toInt) ∧ v = some (.int 0) ∧ w' = wM r g iM1 aM1 lM1) ∨ (∃ (y437 : Nat → Int32), (¬ (a405.toInt < 0)) ∧ (¬ (3 < a405.toInt)) ∧ (a405.toInt = 0) ∧ (2 ≠ a406.toInt) ∧ (¬ (a406.toInt < 0)) ∧ (¬ (15 < a406.toInt)) ∧ v = some (.int 1) ∧ w' = wM r g (upd iM1 22 1) (up2 (up2 (up3 (up2 aM1 18 (cp (aM1 17) (aM1 18) 165)) 18 161 a406) 22 y437) 17 (cp ((up2 (up3 (up2 aM1 18 (cp (aM1 17) (aM1 18) 165)) 18 161 a406) 22 y437) 18) ((up2 (up3 (up2 aM1 18 (cp (aM1 17) (aM1 18) 165)) 18 161 a406) 22 y437) 17) 165)) lM1) ∨ ((¬ (a405.toInt < 0)) ∧ (¬ (3 < a405.toInt)) ∧ (a405.toInt = 0) ∧ (¬ (2 ≠ a406.toInt)) ∧ v = some (.int 0) ∧ w' = wM r g iM1 aM1 lM1) ∨ ((¬ (a405.toInt < 0)) ∧ (¬ (3 < a405.toInt)) ∧ (¬ (a405.toInt = 0)) ∧ (a405.toInt = 1) ∧ (0 ≠ a406.toInt) ∧ (a406.toInt < 0) ∧ v = some (.int 0) ∧ w' = wM r g iM1 aM1 lM1) ∨ ((¬ (a405.toInt < 0)) ∧ (¬ (3 < a405.toInt)) ∧ (¬ (a405.toInt = 0)) ∧ (a405.toInt = 1) ∧ (0 ≠ a406.toInt) ∧ (¬ (a406.toInt < 0)) ∧ (3 < a406.toInt) ∧ v = some (.int 0) ∧ w' = wM r g iM1 aM1 lM1) ∨ (∃ (y457 : Nat → Int32), (¬ (a405.toInt < 0)) ∧ (¬ (3 < a405.toInt)) ∧ (¬ (a405.toInt = 0)) ∧ (a405.toInt = 1) ∧ (0 ≠ a406.toInt) ∧ (¬ (a406.toInt < 0)) ∧ (¬ (3 < a406.toInt)) ∧ v = some (.int 1) ∧ w' = wM r g (upd iM1 22 1) (up2 (up2 (up3 (up2 aM1 18 (cp (aM1 17) (aM1 18) 165)) 18 162 a406) 22 y457) 17 (cp ((up2 (up3 (up2 aM1 18 (cp (aM1 17) (aM1 18) 165)) 18 162 a406) 22 y457) 18) ((up2 (up3 (up2 aM1 18 (cp (aM1 17) (aM1 18) 165)) 18 162 a406) 22 y457) 17) 165)) lM1) ∨ ((¬ (a405.toInt < 0)) ∧ (¬ (3 < a405.toInt)) ∧ (¬ (a405.toInt = 0)) ∧ (a405.toInt = 1) ∧ (¬ (0 ≠ a406.toInt)) ∧ v = some (.int 0) ∧ w' = wM r g iM1 aM1 lM1) ∨ ((¬ (a405.toInt < 0)) ∧ (¬ (3 < a405.toInt)) ∧ (¬ (a405.toInt = 0)) ∧ (¬ (a405.toInt = 1)) ∧ (a405.toInt = 2) ∧ (0 ≠ a406.toInt) ∧ (a406.toInt < 0) ∧ v = some (.int 0) ∧ w' = wM r g iM1 aM1 lM1) ∨ ((¬ (a405.toInt < 0)) ∧ (¬ (3 < a405.toInt)) ∧ (¬ (a405.toInt = 0)) ∧ (¬ (a405.toInt = 1)) ∧ (a405.toInt = 2) ∧ (0 ≠ a406.toInt) ∧ (¬ (a406.toInt < 0)) ∧ (1 < a406.toInt) ∧ v = some (.int 0) ∧ w' = wM r g iM1 aM1 lM1) ∨ (∃ (y480 : Nat → Int32), (¬ (a405.toInt < 0)) ∧ (¬ (3 < a405.toInt)) ∧ (¬ (a405.toInt = 0)) ∧ (¬ (a405.toInt = 1)) ∧ (a405.toInt = 2) ∧ (0 ≠ a406.toInt) ∧ (¬ (a406.toInt < 0)) ∧ (¬ (1 < a406.toInt)) ∧ v = some (.int 1) ∧ w' = wM r g (upd iM1 22 1) (up2 (up2 (up3 (up2 aM1 18 (cp (aM1 17) (aM1 18) 165)) 18 163 a406) 22 y480) 17 (cp ((up2 (up3 (up2 aM1 18 (cp (aM1 17) (aM1 18) 165)) 18 163 a406) 22 y480) 18) ((up2 (up3 (up2 aM1 18 (cp (aM1 17) (aM1 18) 165)) 18 163 a406) 22 y480) 17) 165)) lM1) ∨ ((¬ (a405.toInt < 0)) ∧ (¬ (3 < a405.toInt)) ∧ (¬ (a405.toInt = 0)) ∧ (¬ (a405.toInt = 1)) ∧ (a405.toInt = 2) ∧ (¬ (0 ≠ a406.toInt)) ∧ v = some (.int 0) ∧ w' = wM r g iM1 aM1 lM1) ∨ ((¬ (a405.toInt < 0)) ∧ (¬ (3 < a405.toInt)) ∧ (¬ (a405.toInt = 0)) ∧ (¬ (a405.toInt = 1)) ∧ (¬ (a405.toInt = 2)) ∧ (a405.toInt = 3) ∧ (8 ≠ a406.toInt) ∧ (a406.toInt < 1) ∧ v = some (.int 0) ∧ w' = wM r g iM1 aM1 lM1) ∨ ((¬ (a405.toInt < 0)) ∧ (¬ (3 < a405.toInt)) ∧ (¬ (a405.toInt = 0)) ∧ (¬ (a405.toInt = 1)) ∧ (¬ (a405.toInt = 2)) ∧ (a405.toInt = 3) ∧ (8 ≠ a406.toInt) ∧ (¬ (a406.toInt < 1)) ∧ (99 < a406.toInt) ∧ v = some (.int 0) ∧ w' = wM r g iM1 aM1 lM1) ∨ (∃ (y503 : Nat → Int32), (¬ (a405.toInt < 0)) ∧ (¬ (3 < a405.toInt)) ∧ (¬ (a405.toInt = 0)) ∧ (¬ (a405.toInt = 1)) ∧ (¬ (a405.toInt = 2)) ∧ (a405.toInt = 3) ∧ (8 ≠ a406.toInt) ∧ (¬ (a406.toInt < 1)) ∧ (¬ (99 < a406.toInt)) ∧ v = some (.int 1) ∧ w' = wM r g (upd iM1 22 1) (up2 (up2 (up3 (up2 aM1 18 (cp (aM1 17) (aM1 18) 165)) 18 164 a406) 22 y503) 17 (cp ((up2 (up3 (up2 aM1 18 (cp (aM1 17) (aM1 18) 165)) 18 164 a406) 22 y503) 18) ((up2 (up3 (up2 aM1 18 (cp (aM1 17) (aM1 18) 165)) 18 164 a406) 22 y503) 17) 165)) lM1) ∨ ((¬ (a405.toInt < 0)) ∧ (¬ (3 < a405.toInt)) ∧ (¬ (a405.toInt = 0)) ∧ (¬ (a405.toInt = 1)) ∧ (¬ (a405.toInt = 2)) ∧ (a405.toInt = 3) ∧ (¬ (8 ≠ a406.toInt)) ∧ v = some (.int 0) ∧ w' = wM r g iM1 aM1 lM1)) 0 0 := by
  refine GM.of (cc := cX12_set) (maxL := 5) (ret := (some .boolean)) (own := RX12) (lv := [(0, .ref (r 0)), (1, .int a405), (2, .int a406)]) (by decide) rfl rfl (Nat.le_of_ble_eq_true rfl) rfl (fun κ sz hk hR hN => ?_)
  have hin12 : ∀ w ∈ u_ws RX12 TX12 55, w ∈ wz_m149_X12_set := fun w h => (List.mem_cons_of_mem _ (List.mem_append_right _ (List.mem_append_left _ h)))
  refine g_iload_n hk dX12_set_0 rfl ?_
  refine g_iconst (v := 0) hk dX12_set_1 (by decide) ?_
  refine g_iconst (v := 3) hk dX12_set_2 (by decide) ?_
  refine g_callS (n := 3) hk (m150_X12_in l D zt g r a405) (SP.same _) (fun _ h => h) (gi_S (List.mem_cons_of_mem _ (List.mem_append_left _ (List.mem_of_getElem? (i := 0) rfl))) (List.mem_cons_of_mem _ (List.mem_append_left _ (List.mem_of_getElem? (i := 1) rfl))) (List.mem_cons_of_mem _ (List.mem_append_left _ (List.mem_of_getElem? (i := 2) rfl))) (gi_sub (fun w h => (List.mem_cons_of_mem _ (List.mem_append_right _ (List.mem_append_right _ (List.mem_append_left _ h))))) zg_m150_X12_in)) rfl rfl rfl (by decide +kernel) ⟨Nat.le_of_ble_eq_true rfl, Nat.le_of_ble_eq_true rfl⟩ rfl rfl (Nat.le_of_ble_eq_true rfl) ⟨Nat.le_of_ble_eq_true rfl, Nat.le_of_ble_eq_true rfl⟩ dX12_set_3 (fun v ty' w' hp hk' => ?_)
  rcases hp with ⟨c410, rfl, rfl⟩ | ⟨c411, c412, rfl, rfl⟩ | ⟨c413, c414, rfl, rfl⟩
  · show GW κ 5 0 0 (wM r g iM1 aM1 lM1) 6 [(0, .ref (r 0)), (1, .int a405), (2, .int a406)] [.int 0]
    refine g_if_eq (tgt := 23) (a := 0) hk dX12_set_6 (by decide) rfl (fun _ => ?_) (fun z9 => absurd (show (0 : Int) = (0 : Int) from by decide) z9)
    refine g_iconst (v := 0) hk dX12_set_23 (by decide) ?_
    exact g_iret hk hR rfl (Or.inl ⟨c410, rfl, rfl⟩) dX12_set_24
  · show GW κ 5 0 0 (wM r g iM1 aM1 lM1) 6 [(0, .ref (r 0)), (1, .int a405), (2, .int a406)] [.int 0]
    refine g_if_eq (tgt := 23) (a := 0) hk dX12_set_6 (by decide) rfl (fun _ => ?_) (fun z9 => absurd (show (0 : Int) = (0 : Int) from by decide) z9)
    refine g_iconst (v := 0) hk dX12_set_23 (by decide) ?_
    exact g_iret hk hR rfl (Or.inr (Or.inl ⟨c411, c412, rfl, rfl⟩)) dX12_set_24
  · show GW κ 5 0 0 (wM r g iM1 aM1 lM1) 6 [(0, .ref (r 0)), (1, .int a405), (2, .int a406)] [.int 1]
    refine g_if_eq (tgt := 23) (a := 1) hk dX12_set_6 (by decide) rfl (fun z9 => absurd z9 (show ¬ ((1 : Int) = (0 : Int)) from by decide)) (fun _ => ?_)
    refine g_aload_n hk dX12_set_9 rfl ?_
    refine gM_r0_35 hk hin12 (List.mem_cons_of_mem _ (List.mem_append_left _ (List.mem_of_getElem? (i := 3) rfl))) dX12_set_10 ?_
    refine g_sipush (v := 161) hk dX12_set_13 (by decide) ?_
    refine g_iload_n hk dX12_set_16 rfl ?_
    by_cases c415 : a405.toInt = 0
    · obtain rfl : a405 = 0 := Int32.toInt_inj.mp c415
      refine g_iadd hk dX12_set_17 ?_
      refine g_norm (v := 161) (by decide) ?_
      refine lM_17 (v := 2) hk (vp_in_iff.mpr ⟨by decide, by decide⟩) rfl dX12_set_18 ?_
      refine g_iload_n hk dX12_set_19 rfl ?_
      refine g_icmp_ne (tgt := 25) (a := 2) (b := a406.toInt) hk dX12_set_20 (by decide) rfl rfl (fun c416 => ?_) (fun c416 => ?_)
      · skip
        refine g_iload_n hk dX12_set_25 rfl ?_
        refine g_iconst (v := 3) hk dX12_set_26 (by decide) ?_
        refine g_icmp_ne (tgt := 34) (a := 0) (b := 3) hk dX12_set_27 (by decide) rfl rfl (fun _ => ?_) (fun z9 => absurd (show (0 : Int) ≠ (3 : Int) from by decide) z9)
        refine g_iconst (v := 0) hk dX12_set_34 (by decide) ?_
        refine g_istore_n (lv' := [(3, .int 0), (0, .ref (r 0)), (1, .int 0), (2, .int a406)]) hk dX12_set_35 (by decide) rfl ?_
        refine g_iload_n hk dX12_set_36 rfl ?_
        refine g_if_ne (tgt := 45) (a := 0) hk dX12_set_37 (by decide) rfl (fun z9 => absurd z9 (show ¬ ((0 : Int) ≠ (0 : Int)) from by decide)) (fun _ => ?_)
        refine g_bipush (v := 15) hk dX12_set_40 (by decide) ?_
        refine g_goto (tgt := 65) hk dX12_set_42 (by decide) ?_
        refine g_istore (lv' := [(4, .int 15), (3, .int 0), (0, .ref (r 0)), (1, .int 0), (2, .int a406)]) hk dX12_set_65 (by decide) rfl ?_
        refine g_iload_n hk dX12_set_67 rfl ?_
        refine g_iload_n hk dX12_set_68 rfl ?_
        refine g_iload hk dX12_set_69 rfl ?_
        refine g_callS (n := 3) hk (m151_X12_in l D zt g r a406) (SP.same _) (fun _ h => h) (gi_S (List.mem_cons_of_mem _ (List.mem_append_left _ (List.mem_of_getElem? (i := 0) rfl))) (List.mem_cons_of_mem _ (List.mem_append_left _ (List.mem_of_getElem? (i := 1) rfl))) (List.mem_cons_of_mem _ (List.mem_append_left _ (List.mem_of_getElem? (i := 2) rfl))) (gi_sub (fun w h => (List.mem_cons_of_mem _ (List.mem_append_right _ (List.mem_append_right _ (List.mem_append_right _ (List.mem_append_left _ h)))))) zg_m151_X12_in)) rfl rfl rfl (by decide +kernel) ⟨Nat.le_of_ble_eq_true rfl, Nat.le_of_ble_eq_true rfl⟩ rfl rfl (Nat.le_of_ble_eq_true rfl) ⟨Nat.le_of_ble_eq_true rfl, Nat.le_of_ble_eq_true rfl⟩ dX12_set_71 (fun v ty' w' hp hk' => ?_)
        rcases hp with ⟨c420, rfl, rfl⟩ | ⟨c421, c422, rfl, rfl⟩ | ⟨c423, c424, rfl, rfl⟩
        · show GW κ 5 0 0 (wM r g iM1 aM1 lM1) 74 [(4, .int 15), (3, .int 0), (0, .ref (r 0)), (1, .int 0), (2, .int a406)] [.int 0]
          refine g_if_ne (tgt := 79) (a := 0) hk dX12_set_74 (by decide) rfl (fun z9 => absurd z9 (show ¬ ((0 : Int) ≠ (0 : Int)) from by decide)) (fun _ => ?_)
          refine g_iconst (v := 0) hk dX12_set_77 (by decide) ?_
          exact g_iret hk hR rfl (Or.inr (Or.inr (Or.inl ⟨c413, c414, c415, c416, c420, rfl, rfl⟩))) dX12_set_78
        · show GW κ 5 0 0 (wM r g iM1 aM1 lM1) 74 [(4, .int 15), (3, .int 0), (0, .ref (r 0)), (1, .int 0), (2, .int a406)] [.int 0]
          refine g_if_ne (tgt := 79) (a := 0) hk dX12_set_74 (by decide) rfl (fun z9 => absurd z9 (show ¬ ((0 : Int) ≠ (0 : Int)) from by decide)) (fun _ => ?_)
          refine g_iconst (v := 0) hk dX12_set_77 (by decide) ?_
          exact g_iret hk hR rfl (Or.inr (Or.inr (Or.inr (Or.inl ⟨c413, c414, c415, c416, c421, c422, rfl, rfl⟩)))) dX12_set_78
        · show GW κ 5 0 0 (wM r g iM1 aM1 lM1) 74 [(4, .int 15), (3, .int 0), (0, .ref (r 0)), (1, .int 0), (2, .int a406)] [.int 1]
          refine g_if_ne (tgt := 79) (a := 1) hk dX12_set_74 (by decide) rfl (fun _ => ?_) (fun z9 => absurd (show (1 : Int) ≠ (0 : Int) from by decide) z9)
          refine g_aload_n hk dX12_set_79 rfl ?_
          refine g_callV (n := 0) hk (m139_X12_copies l D zt g r) (SP.same _) (fun _ h => h) (gi_V (List.mem_cons_of_mem _ (List.mem_append_left _ (List.mem_of_getElem? (i := 4) rfl))) (List.mem_cons_of_mem _ (List.mem_append_left _ (List.mem_of_getElem? (i := 5) rfl))) (List.mem_cons_of_mem _ (List.mem_append_left _ (List.mem_of_getElem? (i := 6) rfl))) (List.mem_cons_of_mem _ (List.mem_append_left _ (List.mem_of_getElem? (i := 2) rfl))) (gi_sub (fun w h => (List.mem_cons_of_mem _ (List.mem_append_right _ (List.mem_append_right _ (List.mem_append_right _ (List.mem_append_right _ (List.mem_append_left _ h))))))) zg_m139_X12_copies)) rfl rfl rfl (by decide +kernel) ⟨Nat.le_of_ble_eq_true rfl, Nat.le_of_ble_eq_true rfl⟩ 0 rfl rfl rfl rfl (Nat.le_of_ble_eq_true rfl) ⟨Nat.le_of_ble_eq_true rfl, Nat.le_of_ble_eq_true rfl⟩ dX12_set_80 (fun v ty' w' hp hk' => ?_)
          obtain ⟨rfl, rfl⟩ := hp
          show GW κ 5 0 0 (wM r g iM1 (up2 aM1 18 (cp (aM1 17) (aM1 18) 165)) lM1) 83 [(4, .int 15), (3, .int 0), (0, .ref (r 0)), (1, .int 0), (2, .int a406)] []
          refine g_aload_n hk dX12_set_83 rfl ?_
          refine gM_r0_36 hk hin12 (List.mem_cons_of_mem _ (List.mem_append_left _ (List.mem_of_getElem? (i := 7) rfl))) dX12_set_84 ?_
          refine g_sipush (v := 161) hk dX12_set_87 (by decide) ?_
          refine g_iload_n hk dX12_set_90 rfl ?_
          refine g_iadd hk dX12_set_91 ?_
          refine g_norm (v := 161) (by decide) ?_
          refine g_iload_n hk dX12_set_92 rfl ?_
          refine sM_18 (j := 161) hk (vp_in_iff.mpr ⟨by decide, by decide⟩) (by decide) dX12_set_93 ?_
          refine g_aload_n hk dX12_set_94 rfl ?_
          refine g_callV (n := 0) hk (m152_X12_records l D zt a406 g r) (SP.same _) (fun _ h => h) (gi_V (List.mem_cons_of_mem _ (List.mem_append_left _ (List.mem_of_getElem? (i := 8) rfl))) (List.mem_cons_of_mem _ (List.mem_append_left _ (List.mem_of_getElem? (i := 9) rfl))) (List.mem_cons_of_mem _ (List.mem_append_left _ (List.mem_of_getElem? (i := 10) rfl))) (List.mem_cons_of_mem _ (List.mem_append_left _ (List.mem_of_getElem? (i := 2) rfl))) (gi_sub (fun w h => (List.mem_cons_of_mem _ (List.mem_append_right _ (List.mem_append_right _ (List.mem_append_right _ (List.mem_append_right _ (List.mem_append_right _ (List.mem_append_left _ h)))))))) zg_m152_X12_records)) rfl rfl rfl (by decide +kernel) ⟨Nat.le_of_ble_eq_true rfl, Nat.le_of_ble_eq_true rfl⟩ 0 rfl rfl rfl rfl (Nat.le_of_ble_eq_true rfl) ⟨Nat.le_of_ble_eq_true rfl, Nat.le_of_ble_eq_true rfl⟩ dX12_set_95 (fun v ty' w' hp hk' => ?_)
          obtain ⟨y437, rfl, rfl⟩ := hp
          show GW κ 5 0 0 (wM r g (upd iM1 22 1) (up2 (up2 (up3 (up2 aM1 18 (cp (aM1 17) (aM1 18) 165)) 18 161 a406) 22 y437) 17 (cp ((up2 (up3 (up2 aM1 18 (cp (aM1 17) (aM1 18) 165)) 18 161 a406) 22 y437) 18) ((up2 (up3 (up2 aM1 18 (cp (aM1 17) (aM1 18) 165)) 18 161 a406) 22 y437) 17) 165)) lM1) 98 [(4, .int 15), (3, .int 0), (0, .ref (r 0)), (1, .int 0), (2, .int a406)] []
          refine g_iconst (v := 1) hk dX12_set_98 (by decide) ?_
          exact g_iret hk hR rfl (Or.inr (Or.inr (Or.inr (Or.inr (Or.inl ⟨y437, c413, c414, c415, c416, c423, c424, rfl, rfl⟩))))) dX12_set_99
      · skip
        refine g_iconst (v := 0) hk dX12_set_23 (by decide) ?_
        exact g_iret hk hR rfl (Or.inr (Or.inr (Or.inr (Or.inr (Or.inr (Or.inl ⟨c413, c414, c415, c416, rfl, rfl⟩)))))) dX12_set_24
    by_cases c438 : a405.toInt = 1
    · obtain rfl : a405 = 1 := Int32.toInt_inj.mp c438
      refine g_iadd hk dX12_set_17 ?_
      refine g_norm (v := 162) (by decide) ?_
      refine lM_17 (v := 0) hk (vp_in_iff.mpr ⟨by decide, by decide⟩) rfl dX12_set_18 ?_
      refine g_iload_n hk dX12_set_19 rfl ?_
      refine g_icmp_ne (tgt := 25) (a := 0) (b := a406.toInt) hk dX12_set_20 (by decide) rfl rfl (fun c439 => ?_) (fun c439 => ?_)
      · skip
        refine g_iload_n hk dX12_set_25 rfl ?_
        refine g_iconst (v := 3) hk dX12_set_26 (by decide) ?_
        refine g_icmp_ne (tgt := 34) (a := 1) (b := 3) hk dX12_set_27 (by decide) rfl rfl (fun _ => ?_) (fun z9 => absurd (show (1 : Int) ≠ (3 : Int) from by decide) z9)
        refine g_iconst (v := 0) hk dX12_set_34 (by decide) ?_
        refine g_istore_n (lv' := [(3, .int 0), (0, .ref (r 0)), (1, .int 1), (2, .int a406)]) hk dX12_set_35 (by decide) rfl ?_
        refine g_iload_n hk dX12_set_36 rfl ?_
        refine g_if_ne (tgt := 45) (a := 1) hk dX12_set_37 (by decide) rfl (fun _ => ?_) (fun z9 => absurd (show (1 : Int) ≠ (0 : Int) from by decide) z9)
        refine g_iload_n hk dX12_set_45 rfl ?_
        refine g_iconst (v := 1) hk dX12_set_46 (by decide) ?_
        refine g_icmp_ne (tgt := 54) (a := 1) (b := 1) hk dX12_set_47 (by decide) rfl rfl (fun z9 => absurd z9 (show ¬ ((1 : Int) ≠ (1 : Int)) from by decide)) (fun _ => ?_)
        refine g_iconst (v := 3) hk dX12_set_50 (by decide) ?_
        refine g_goto (tgt := 65) hk dX12_set_51 (by decide) ?_
        refine g_istore (lv' := [(4, .int 3), (3, .int 0), (0, .ref (r 0)), (1, .int 1), (2, .int a406)]) hk dX12_set_65 (by decide) rfl ?_
        refine g_iload_n hk dX12_set_67 rfl ?_
        refine g_iload_n hk dX12_set_68 rfl ?_
        refine g_iload hk dX12_set_69 rfl ?_
        refine g_callS (n := 3) hk (m150_X12_in l D zt g r a406) (SP.same _) (fun _ h => h) (gi_S (List.mem_cons_of_mem _ (List.mem_append_left _ (List.mem_of_getElem? (i := 0) rfl))) (List.mem_cons_of_mem _ (List.mem_append_left _ (List.mem_of_getElem? (i := 1) rfl))) (List.mem_cons_of_mem _ (List.mem_append_left _ (List.mem_of_getElem? (i := 2) rfl))) (gi_sub (fun w h => (List.mem_cons_of_mem _ (List.mem_append_right _ (List.mem_append_right _ (List.mem_append_left _ h))))) zg_m150_X12_in)) rfl rfl rfl (by decide +kernel) ⟨Nat.le_of_ble_eq_true rfl, Nat.le_of_ble_eq_true rfl⟩ rfl rfl (Nat.le_of_ble_eq_true rfl) ⟨Nat.le_of_ble_eq_true rfl, Nat.le_of_ble_eq_true rfl⟩ dX12_set_71 (fun v ty' w' hp hk' => ?_)
        rcases hp with ⟨c440, rfl, rfl⟩ | ⟨c441, c442, rfl, rfl⟩ | ⟨c443, c444, rfl, rfl⟩
        · show GW κ 5 0 0 (wM r g iM1 aM1 lM1) 74 [(4, .int 3), (3, .int 0), (0, .ref (r 0)), (1, .int 1), (2, .int a406)] [.int 0]
          refine g_if_ne (tgt := 79) (a := 0) hk dX12_set_74 (by decide) rfl (fun z9 => absurd z9 (show ¬ ((0 : Int) ≠ (0 : Int)) from by decide)) (fun _ => ?_)
          refine g_iconst (v := 0) hk dX12_set_77 (by decide) ?_
          exact g_iret hk hR rfl (Or.inr (Or.inr (Or.inr (Or.inr (Or.inr (Or.inr (Or.inl ⟨c413, c414, c415, c438, c439, c440, rfl, rfl⟩))))))) dX12_set_78
        · show GW κ 5 0 0 (wM r g iM1 aM1 lM1) 74 [(4, .int 3), (3, .int 0), (0, .ref (r 0)), (1, .int 1), (2, .int a406)] [.int 0]
          refine g_if_ne (tgt := 79) (a := 0) hk dX12_set_74 (by decide) rfl (fun z9 => absurd z9 (show ¬ ((0 : Int) ≠ (0 : Int)) from by decide)) (fun _ => ?_)
          refine g_iconst (v := 0) hk dX12_set_77 (by decide) ?_
          exact g_iret hk hR rfl (Or.inr (Or.inr (Or.inr (Or.inr (Or.inr (Or.inr (Or.inr (Or.inl ⟨c413, c414, c415, c438, c439, c441, c442, rfl, rfl⟩)))))))) dX12_set_78
        · show GW κ 5 0 0 (wM r g iM1 aM1 lM1) 74 [(4, .int 3), (3, .int 0), (0, .ref (r 0)), (1, .int 1), (2, .int a406)] [.int 1]
          refine g_if_ne (tgt := 79) (a := 1) hk dX12_set_74 (by decide) rfl (fun _ => ?_) (fun z9 => absurd (show (1 : Int) ≠ (0 : Int) from by decide) z9)
          refine g_aload_n hk dX12_set_79 rfl ?_
          refine g_callV (n := 0) hk (m139_X12_copies l D zt g r) (SP.same _) (fun _ h => h) (gi_V (List.mem_cons_of_mem _ (List.mem_append_left _ (List.mem_of_getElem? (i := 4) rfl))) (List.mem_cons_of_mem _ (List.mem_append_left _ (List.mem_of_getElem? (i := 5) rfl))) (List.mem_cons_of_mem _ (List.mem_append_left _ (List.mem_of_getElem? (i := 6) rfl))) (List.mem_cons_of_mem _ (List.mem_append_left _ (List.mem_of_getElem? (i := 2) rfl))) (gi_sub (fun w h => (List.mem_cons_of_mem _ (List.mem_append_right _ (List.mem_append_right _ (List.mem_append_right _ (List.mem_append_right _ (List.mem_append_left _ h))))))) zg_m139_X12_copies)) rfl rfl rfl (by decide +kernel) ⟨Nat.le_of_ble_eq_true rfl, Nat.le_of_ble_eq_true rfl⟩ 0 rfl rfl rfl rfl (Nat.le_of_ble_eq_true rfl) ⟨Nat.le_of_ble_eq_true rfl, Nat.le_of_ble_eq_true rfl⟩ dX12_set_80 (fun v ty' w' hp hk' => ?_)
          obtain ⟨rfl, rfl⟩ := hp
          show GW κ 5 0 0 (wM r g iM1 (up2 aM1 18 (cp (aM1 17) (aM1 18) 165)) lM1) 83 [(4, .int 3), (3, .int 0), (0, .ref (r 0)), (1, .int 1), (2, .int a406)] []
          refine g_aload_n hk dX12_set_83 rfl ?_
          refine gM_r0_36 hk hin12 (List.mem_cons_of_mem _ (List.mem_append_left _ (List.mem_of_getElem? (i := 7) rfl))) dX12_set_84 ?_
          refine g_sipush (v := 161) hk dX12_set_87 (by decide) ?_
          refine g_iload_n hk dX12_set_90 rfl ?_
          refine g_iadd hk dX12_set_91 ?_
          refine g_norm (v := 162) (by decide) ?_
          refine g_iload_n hk dX12_set_92 rfl ?_
          refine sM_18 (j := 162) hk (vp_in_iff.mpr ⟨by decide, by decide⟩) (by decide) dX12_set_93 ?_
          refine g_aload_n hk dX12_set_94 rfl ?_
          refine g_callV (n := 0) hk (m154_X12_records l D zt a406 g r) (SP.same _) (fun _ h => h) (gi_V (List.mem_cons_of_mem _ (List.mem_append_left _ (List.mem_of_getElem? (i := 8) rfl))) (List.mem_cons_of_mem _ (List.mem_append_left _ (List.mem_of_getElem? (i := 9) rfl))) (List.mem_cons_of_mem _ (List.mem_append_left _ (List.mem_of_getElem? (i := 10) rfl))) (List.mem_cons_of_mem _ (List.mem_append_left _ (List.mem_of_getElem? (i := 2) rfl))) (gi_sub (fun w h => (List.mem_cons_of_mem _ (List.mem_append_right _ (List.mem_append_right _ (List.mem_append_right _ (List.mem_append_right _ (List.mem_append_right _ (List.mem_append_right _ (List.mem_append_left _ h))))))))) zg_m154_X12_records)) rfl rfl rfl (by decide +kernel) ⟨Nat.le_of_ble_eq_true rfl, Nat.le_of_ble_eq_true rfl⟩ 0 rfl rfl rfl rfl (Nat.le_of_ble_eq_true rfl) ⟨Nat.le_of_ble_eq_true rfl, Nat.le_of_ble_eq_true rfl⟩ dX12_set_95 (fun v ty' w' hp hk' => ?_)
          obtain ⟨y457, rfl, rfl⟩ := hp
          show GW κ 5 0 0 (wM r g (upd iM1 22 1) (up2 (up2 (up3 (up2 aM1 18 (cp (aM1 17) (aM1 18) 165)) 18 162 a406) 22 y457) 17 (cp ((up2 (up3 (up2 aM1 18 (cp (aM1 17) (aM1 18) 165)) 18 162 a406) 22 y457) 18) ((up2 (up3 (up2 aM1 18 (cp (aM1 17) (aM1 18) 165)) 18 162 a406) 22 y457) 17) 165)) lM1) 98 [(4, .int 3), (3, .int 0), (0, .ref (r 0)), (1, .int 1), (2, .int a406)] []
          refine g_iconst (v := 1) hk dX12_set_98 (by decide) ?_
          exact g_iret hk hR rfl (Or.inr (Or.inr (Or.inr (Or.inr (Or.inr (Or.inr (Or.inr (Or.inr (Or.inl ⟨y457, c413, c414, c415, c438, c439, c443, c444, rfl, rfl⟩))))))))) dX12_set_99
      · skip
        refine g_iconst (v := 0) hk dX12_set_23 (by decide) ?_
        exact g_iret hk hR rfl (Or.inr (Or.inr (Or.inr (Or.inr (Or.inr (Or.inr (Or.inr (Or.inr (Or.inr (Or.inl ⟨c413, c414, c415, c438, c439, rfl, rfl⟩)))))))))) dX12_set_24
    by_cases c458 : a405.toInt = 2
    · obtain rfl : a405 = 2 := Int32.toInt_inj.mp c458
      refine g_iadd hk dX12_set_17 ?_
      refine g_norm (v := 163) (by decide) ?_
      refine lM_17 (v := 0) hk (vp_in_iff.mpr ⟨by decide, by decide⟩) rfl dX12_set_18 ?_
      refine g_iload_n hk dX12_set_19 rfl ?_
      refine g_icmp_ne (tgt := 25) (a := 0) (b := a406.toInt) hk dX12_set_20 (by decide) rfl rfl (fun c459 => ?_) (fun c459 => ?_)
      · skip
        refine g_iload_n hk dX12_set_25 rfl ?_
        refine g_iconst (v := 3) hk dX12_set_26 (by decide) ?_
        refine g_icmp_ne (tgt := 34) (a := 2) (b := 3) hk dX12_set_27 (by decide) rfl rfl (fun _ => ?_) (fun z9 => absurd (show (2 : Int) ≠ (3 : Int) from by decide) z9)
        refine g_iconst (v := 0) hk dX12_set_34 (by decide) ?_
        refine g_istore_n (lv' := [(3, .int 0), (0, .ref (r 0)), (1, .int 2), (2, .int a406)]) hk dX12_set_35 (by decide) rfl ?_
        refine g_iload_n hk dX12_set_36 rfl ?_
        refine g_if_ne (tgt := 45) (a := 2) hk dX12_set_37 (by decide) rfl (fun _ => ?_) (fun z9 => absurd (show (2 : Int) ≠ (0 : Int) from by decide) z9)
        refine g_iload_n hk dX12_set_45 rfl ?_
        refine g_iconst (v := 1) hk dX12_set_46 (by decide) ?_
        refine g_icmp_ne (tgt := 54) (a := 2) (b := 1) hk dX12_set_47 (by decide) rfl rfl (fun _ => ?_) (fun z9 => absurd (show (2 : Int) ≠ (1 : Int) from by decide) z9)
        refine g_iload_n hk dX12_set_54 rfl ?_
        refine g_iconst (v := 2) hk dX12_set_55 (by decide) ?_
        refine g_icmp_ne (tgt := 63) (a := 2) (b := 2) hk dX12_set_56 (by decide) rfl rfl (fun z9 => absurd z9 (show ¬ ((2 : Int) ≠ (2 : Int)) from by decide)) (fun _ => ?_)
        refine g_iconst (v := 1) hk dX12_set_59 (by decide) ?_
        refine g_goto (tgt := 65) hk dX12_set_60 (by decide) ?_
        refine g_istore (lv' := [(4, .int 1), (3, .int 0), (0, .ref (r 0)), (1, .int 2), (2, .int a406)]) hk dX12_set_65 (by decide) rfl ?_
        refine g_iload_n hk dX12_set_67 rfl ?_
        refine g_iload_n hk dX12_set_68 rfl ?_
        refine g_iload hk dX12_set_69 rfl ?_
        refine g_callS (n := 3) hk (m156_X12_in l D zt g r a406) (SP.same _) (fun _ h => h) (gi_S (List.mem_cons_of_mem _ (List.mem_append_left _ (List.mem_of_getElem? (i := 0) rfl))) (List.mem_cons_of_mem _ (List.mem_append_left _ (List.mem_of_getElem? (i := 1) rfl))) (List.mem_cons_of_mem _ (List.mem_append_left _ (List.mem_of_getElem? (i := 2) rfl))) (gi_sub (fun w h => (List.mem_cons_of_mem _ (List.mem_append_right _ (List.mem_append_right _ (List.mem_append_right _ (List.mem_append_right _ (List.mem_append_right _ (List.mem_append_right _ (List.mem_append_right _ (List.mem_append_left _ h)))))))))) zg_m156_X12_in)) rfl rfl rfl (by decide +kernel) ⟨Nat.le_of_ble_eq_true rfl, Nat.le_of_ble_eq_true rfl⟩ rfl rfl (Nat.le_of_ble_eq_true rfl) ⟨Nat.le_of_ble_eq_true rfl, Nat.le_of_ble_eq_true rfl⟩ dX12_set_71 (fun v ty' w' hp hk' => ?_)
        rcases hp with ⟨c463, rfl, rfl⟩ | ⟨c464, c465, rfl, rfl⟩ | ⟨c466, c467, rfl, rfl⟩
        · show GW κ 5 0 0 (wM r g iM1 aM1 lM1) 74 [(4, .int 1), (3, .int 0), (0, .ref (r 0)), (1, .int 2), (2, .int a406)] [.int 0]
          refine g_if_ne (tgt := 79) (a := 0) hk dX12_set_74 (by decide) rfl (fun z9 => absurd z9 (show ¬ ((0 : Int) ≠ (0 : Int)) from by decide)) (fun _ => ?_)
          refine g_iconst (v := 0) hk dX12_set_77 (by decide) ?_
          exact g_iret hk hR rfl (Or.inr (Or.inr (Or.inr (Or.inr (Or.inr (Or.inr (Or.inr (Or.inr (Or.inr (Or.inr (Or.inl ⟨c413, c414, c415, c438, c458, c459, c463, rfl, rfl⟩))))))))))) dX12_set_78
        · show GW κ 5 0 0 (wM r g iM1 aM1 lM1) 74 [(4, .int 1), (3, .int 0), (0, .ref (r 0)), (1, .int 2), (2, .int a406)] [.int 0]
          refine g_if_ne (tgt := 79) (a := 0) hk dX12_set_74 (by decide) rfl (fun z9 => absurd z9 (show ¬ ((0 : Int) ≠ (0 : Int)) from by decide)) (fun _ => ?_)
          refine g_iconst (v := 0) hk dX12_set_77 (by decide) ?_
          exact g_iret hk hR rfl (Or.inr (Or.inr (Or.inr (Or.inr (Or.inr (Or.inr (Or.inr (Or.inr (Or.inr (Or.inr (Or.inr (Or.inl ⟨c413, c414, c415, c438, c458, c459, c464, c465, rfl, rfl⟩)))))))))))) dX12_set_78
        · show GW κ 5 0 0 (wM r g iM1 aM1 lM1) 74 [(4, .int 1), (3, .int 0), (0, .ref (r 0)), (1, .int 2), (2, .int a406)] [.int 1]
          refine g_if_ne (tgt := 79) (a := 1) hk dX12_set_74 (by decide) rfl (fun _ => ?_) (fun z9 => absurd (show (1 : Int) ≠ (0 : Int) from by decide) z9)
          refine g_aload_n hk dX12_set_79 rfl ?_
          refine g_callV (n := 0) hk (m139_X12_copies l D zt g r) (SP.same _) (fun _ h => h) (gi_V (List.mem_cons_of_mem _ (List.mem_append_left _ (List.mem_of_getElem? (i := 4) rfl))) (List.mem_cons_of_mem _ (List.mem_append_left _ (List.mem_of_getElem? (i := 5) rfl))) (List.mem_cons_of_mem _ (List.mem_append_left _ (List.mem_of_getElem? (i := 6) rfl))) (List.mem_cons_of_mem _ (List.mem_append_left _ (List.mem_of_getElem? (i := 2) rfl))) (gi_sub (fun w h => (List.mem_cons_of_mem _ (List.mem_append_right _ (List.mem_append_right _ (List.mem_append_right _ (List.mem_append_right _ (List.mem_append_left _ h))))))) zg_m139_X12_copies)) rfl rfl rfl (by decide +kernel) ⟨Nat.le_of_ble_eq_true rfl, Nat.le_of_ble_eq_true rfl⟩ 0 rfl rfl rfl rfl (Nat.le_of_ble_eq_true rfl) ⟨Nat.le_of_ble_eq_true rfl, Nat.le_of_ble_eq_true rfl⟩ dX12_set_80 (fun v ty' w' hp hk' => ?_)
          obtain ⟨rfl, rfl⟩ := hp
          show GW κ 5 0 0 (wM r g iM1 (up2 aM1 18 (cp (aM1 17) (aM1 18) 165)) lM1) 83 [(4, .int 1), (3, .int 0), (0, .ref (r 0)), (1, .int 2), (2, .int a406)] []
          refine g_aload_n hk dX12_set_83 rfl ?_
          refine gM_r0_36 hk hin12 (List.mem_cons_of_mem _ (List.mem_append_left _ (List.mem_of_getElem? (i := 7) rfl))) dX12_set_84 ?_
          refine g_sipush (v := 161) hk dX12_set_87 (by decide) ?_
          refine g_iload_n hk dX12_set_90 rfl ?_
          refine g_iadd hk dX12_set_91 ?_
          refine g_norm (v := 163) (by decide) ?_
          refine g_iload_n hk dX12_set_92 rfl ?_
          refine sM_18 (j := 163) hk (vp_in_iff.mpr ⟨by decide, by decide⟩) (by decide) dX12_set_93 ?_
          refine g_aload_n hk dX12_set_94 rfl ?_
          refine g_callV (n := 0) hk (m157_X12_records l D zt a406 g r) (SP.same _) (fun _ h => h) (gi_V (List.mem_cons_of_mem _ (List.mem_append_left _ (List.mem_of_getElem? (i := 8) rfl))) (List.mem_cons_of_mem _ (List.mem_append_left _ (List.mem_of_getElem? (i := 9) rfl))) (List.mem_cons_of_mem _ (List.mem_append_left _ (List.mem_of_getElem? (i := 10) rfl))) (List.mem_cons_of_mem _ (List.mem_append_left _ (List.mem_of_getElem? (i := 2) rfl))) (gi_sub (fun w h => (List.mem_cons_of_mem _ (List.mem_append_right _ (List.mem_append_right _ (List.mem_append_right _ (List.mem_append_right _ (List.mem_append_right _ (List.mem_append_right _ (List.mem_append_right _ (List.mem_append_right _ (List.mem_append_left _ h))))))))))) zg_m157_X12_records)) rfl rfl rfl (by decide +kernel) ⟨Nat.le_of_ble_eq_true rfl, Nat.le_of_ble_eq_true rfl⟩ 0 rfl rfl rfl rfl (Nat.le_of_ble_eq_true rfl) ⟨Nat.le_of_ble_eq_true rfl, Nat.le_of_ble_eq_true rfl⟩ dX12_set_95 (fun v ty' w' hp hk' => ?_)
          obtain ⟨y480, rfl, rfl⟩ := hp
          show GW κ 5 0 0 (wM r g (upd iM1 22 1) (up2 (up2 (up3 (up2 aM1 18 (cp (aM1 17) (aM1 18) 165)) 18 163 a406) 22 y480) 17 (cp ((up2 (up3 (up2 aM1 18 (cp (aM1 17) (aM1 18) 165)) 18 163 a406) 22 y480) 18) ((up2 (up3 (up2 aM1 18 (cp (aM1 17) (aM1 18) 165)) 18 163 a406) 22 y480) 17) 165)) lM1) 98 [(4, .int 1), (3, .int 0), (0, .ref (r 0)), (1, .int 2), (2, .int a406)] []
          refine g_iconst (v := 1) hk dX12_set_98 (by decide) ?_
          exact g_iret hk hR rfl (Or.inr (Or.inr (Or.inr (Or.inr (Or.inr (Or.inr (Or.inr (Or.inr (Or.inr (Or.inr (Or.inr (Or.inr (Or.inl ⟨y480, c413, c414, c415, c438, c458, c459, c466, c467, rfl, rfl⟩))))))))))))) dX12_set_99
      · skip
        refine g_iconst (v := 0) hk dX12_set_23 (by decide) ?_
        exact g_iret hk hR rfl (Or.inr (Or.inr (Or.inr (Or.inr (Or.inr (Or.inr (Or.inr (Or.inr (Or.inr (Or.inr (Or.inr (Or.inr (Or.inr (Or.inl ⟨c413, c414, c415, c438, c458, c459, rfl, rfl⟩)))))))))))))) dX12_set_24
    by_cases c481 : a405.toInt = 3
    · obtain rfl : a405 = 3 := Int32.toInt_inj.mp c481
      refine g_iadd hk dX12_set_17 ?_
      refine g_norm (v := 164) (by decide) ?_
      refine lM_17 (v := 8) hk (vp_in_iff.mpr ⟨by decide, by decide⟩) rfl dX12_set_18 ?_
      refine g_iload_n hk dX12_set_19 rfl ?_
      refine g_icmp_ne (tgt := 25) (a := 8) (b := a406.toInt) hk dX12_set_20 (by decide) rfl rfl (fun c482 => ?_) (fun c482 => ?_)
      · skip
        refine g_iload_n hk dX12_set_25 rfl ?_
        refine g_iconst (v := 3) hk dX12_set_26 (by decide) ?_
        refine g_icmp_ne (tgt := 34) (a := 3) (b := 3) hk dX12_set_27 (by decide) rfl rfl (fun z9 => absurd z9 (show ¬ ((3 : Int) ≠ (3 : Int)) from by decide)) (fun _ => ?_)
        refine g_iconst (v := 1) hk dX12_set_30 (by decide) ?_
        refine g_goto (tgt := 35) hk dX12_set_31 (by decide) ?_
        refine g_istore_n (lv' := [(3, .int 1), (0, .ref (r 0)), (1, .int 3), (2, .int a406)]) hk dX12_set_35 (by decide) rfl ?_
        refine g_iload_n hk dX12_set_36 rfl ?_
        refine g_if_ne (tgt := 45) (a := 3) hk dX12_set_37 (by decide) rfl (fun _ => ?_) (fun z9 => absurd (show (3 : Int) ≠ (0 : Int) from by decide) z9)
        refine g_iload_n hk dX12_set_45 rfl ?_
        refine g_iconst (v := 1) hk dX12_set_46 (by decide) ?_
        refine g_icmp_ne (tgt := 54) (a := 3) (b := 1) hk dX12_set_47 (by decide) rfl rfl (fun _ => ?_) (fun z9 => absurd (show (3 : Int) ≠ (1 : Int) from by decide) z9)
        refine g_iload_n hk dX12_set_54 rfl ?_
        refine g_iconst (v := 2) hk dX12_set_55 (by decide) ?_
        refine g_icmp_ne (tgt := 63) (a := 3) (b := 2) hk dX12_set_56 (by decide) rfl rfl (fun _ => ?_) (fun z9 => absurd (show (3 : Int) ≠ (2 : Int) from by decide) z9)
        refine g_bipush (v := 99) hk dX12_set_63 (by decide) ?_
        refine g_istore (lv' := [(4, .int 99), (3, .int 1), (0, .ref (r 0)), (1, .int 3), (2, .int a406)]) hk dX12_set_65 (by decide) rfl ?_
        refine g_iload_n hk dX12_set_67 rfl ?_
        refine g_iload_n hk dX12_set_68 rfl ?_
        refine g_iload hk dX12_set_69 rfl ?_
        refine g_callS (n := 3) hk (m159_X12_in l D zt g r a406) (SP.same _) (fun _ h => h) (gi_S (List.mem_cons_of_mem _ (List.mem_append_left _ (List.mem_of_getElem? (i := 0) rfl))) (List.mem_cons_of_mem _ (List.mem_append_left _ (List.mem_of_getElem? (i := 1) rfl))) (List.mem_cons_of_mem _ (List.mem_append_left _ (List.mem_of_getElem? (i := 2) rfl))) (gi_sub (fun w h => (List.mem_cons_of_mem _ (List.mem_append_right _ (List.mem_append_right _ (List.mem_append_right _ (List.mem_append_right _ (List.mem_append_right _ (List.mem_append_right _ (List.mem_append_right _ (List.mem_append_right _ (List.mem_append_right _ (List.mem_append_left _ h)))))))))))) zg_m159_X12_in)) rfl rfl rfl (by decide +kernel) ⟨Nat.le_of_ble_eq_true rfl, Nat.le_of_ble_eq_true rfl⟩ rfl rfl (Nat.le_of_ble_eq_true rfl) ⟨Nat.le_of_ble_eq_true rfl, Nat.le_of_ble_eq_true rfl⟩ dX12_set_71 (fun v ty' w' hp hk' => ?_)
        rcases hp with ⟨c486, rfl, rfl⟩ | ⟨c487, c488, rfl, rfl⟩ | ⟨c489, c490, rfl, rfl⟩
        · show GW κ 5 0 0 (wM r g iM1 aM1 lM1) 74 [(4, .int 99), (3, .int 1), (0, .ref (r 0)), (1, .int 3), (2, .int a406)] [.int 0]
          refine g_if_ne (tgt := 79) (a := 0) hk dX12_set_74 (by decide) rfl (fun z9 => absurd z9 (show ¬ ((0 : Int) ≠ (0 : Int)) from by decide)) (fun _ => ?_)
          refine g_iconst (v := 0) hk dX12_set_77 (by decide) ?_
          exact g_iret hk hR rfl (Or.inr (Or.inr (Or.inr (Or.inr (Or.inr (Or.inr (Or.inr (Or.inr (Or.inr (Or.inr (Or.inr (Or.inr (Or.inr (Or.inr (Or.inl ⟨c413, c414, c415, c438, c458, c481, c482, c486, rfl, rfl⟩))))))))))))))) dX12_set_78
        · show GW κ 5 0 0 (wM r g iM1 aM1 lM1) 74 [(4, .int 99), (3, .int 1), (0, .ref (r 0)), (1, .int 3), (2, .int a406)] [.int 0]
          refine g_if_ne (tgt := 79) (a := 0) hk dX12_set_74 (by decide) rfl (fun z9 => absurd z9 (show ¬ ((0 : Int) ≠ (0 : Int)) from by decide)) (fun _ => ?_)
          refine g_iconst (v := 0) hk dX12_set_77 (by decide) ?_
          exact g_iret hk hR rfl (Or.inr (Or.inr (Or.inr (Or.inr (Or.inr (Or.inr (Or.inr (Or.inr (Or.inr (Or.inr (Or.inr (Or.inr (Or.inr (Or.inr (Or.inr (Or.inl ⟨c413, c414, c415, c438, c458, c481, c482, c487, c488, rfl, rfl⟩)))))))))))))))) dX12_set_78
        · show GW κ 5 0 0 (wM r g iM1 aM1 lM1) 74 [(4, .int 99), (3, .int 1), (0, .ref (r 0)), (1, .int 3), (2, .int a406)] [.int 1]
          refine g_if_ne (tgt := 79) (a := 1) hk dX12_set_74 (by decide) rfl (fun _ => ?_) (fun z9 => absurd (show (1 : Int) ≠ (0 : Int) from by decide) z9)
          refine g_aload_n hk dX12_set_79 rfl ?_
          refine g_callV (n := 0) hk (m139_X12_copies l D zt g r) (SP.same _) (fun _ h => h) (gi_V (List.mem_cons_of_mem _ (List.mem_append_left _ (List.mem_of_getElem? (i := 4) rfl))) (List.mem_cons_of_mem _ (List.mem_append_left _ (List.mem_of_getElem? (i := 5) rfl))) (List.mem_cons_of_mem _ (List.mem_append_left _ (List.mem_of_getElem? (i := 6) rfl))) (List.mem_cons_of_mem _ (List.mem_append_left _ (List.mem_of_getElem? (i := 2) rfl))) (gi_sub (fun w h => (List.mem_cons_of_mem _ (List.mem_append_right _ (List.mem_append_right _ (List.mem_append_right _ (List.mem_append_right _ (List.mem_append_left _ h))))))) zg_m139_X12_copies)) rfl rfl rfl (by decide +kernel) ⟨Nat.le_of_ble_eq_true rfl, Nat.le_of_ble_eq_true rfl⟩ 0 rfl rfl rfl rfl (Nat.le_of_ble_eq_true rfl) ⟨Nat.le_of_ble_eq_true rfl, Nat.le_of_ble_eq_true rfl⟩ dX12_set_80 (fun v ty' w' hp hk' => ?_)
          obtain ⟨rfl, rfl⟩ := hp
          show GW κ 5 0 0 (wM r g iM1 (up2 aM1 18 (cp (aM1 17) (aM1 18) 165)) lM1) 83 [(4, .int 99), (3, .int 1), (0, .ref (r 0)), (1, .int 3), (2, .int a406)] []
          refine g_aload_n hk dX12_set_83 rfl ?_
          refine gM_r0_36 hk hin12 (List.mem_cons_of_mem _ (List.mem_append_left _ (List.mem_of_getElem? (i := 7) rfl))) dX12_set_84 ?_
          refine g_sipush (v := 161) hk dX12_set_87 (by decide) ?_
          refine g_iload_n hk dX12_set_90 rfl ?_
          refine g_iadd hk dX12_set_91 ?_
          refine g_norm (v := 164) (by decide) ?_
          refine g_iload_n hk dX12_set_92 rfl ?_
          refine sM_18 (j := 164) hk (vp_in_iff.mpr ⟨by decide, by decide⟩) (by decide) dX12_set_93 ?_
          refine g_aload_n hk dX12_set_94 rfl ?_
          refine g_callV (n := 0) hk (m160_X12_records l D zt a406 g r) (SP.same _) (fun _ h => h) (gi_V (List.mem_cons_of_mem _ (List.mem_append_left _ (List.mem_of_getElem? (i := 8) rfl))) (List.mem_cons_of_mem _ (List.mem_append_left _ (List.mem_of_getElem? (i := 9) rfl))) (List.mem_cons_of_mem _ (List.mem_append_left _ (List.mem_of_getElem? (i := 10) rfl))) (List.mem_cons_of_mem _ (List.mem_append_left _ (List.mem_of_getElem? (i := 2) rfl))) (gi_sub (fun w h => (List.mem_cons_of_mem _ (List.mem_append_right _ (List.mem_append_right _ (List.mem_append_right _ (List.mem_append_right _ (List.mem_append_right _ (List.mem_append_right _ (List.mem_append_right _ (List.mem_append_right _ (List.mem_append_right _ (List.mem_append_right _ (List.mem_append_left _ h))))))))))))) zg_m160_X12_records)) rfl rfl rfl (by decide +kernel) ⟨Nat.le_of_ble_eq_true rfl, Nat.le_of_ble_eq_true rfl⟩ 0 rfl rfl rfl rfl (Nat.le_of_ble_eq_true rfl) ⟨Nat.le_of_ble_eq_true rfl, Nat.le_of_ble_eq_true rfl⟩ dX12_set_95 (fun v ty' w' hp hk' => ?_)
          obtain ⟨y503, rfl, rfl⟩ := hp
          show GW κ 5 0 0 (wM r g (upd iM1 22 1) (up2 (up2 (up3 (up2 aM1 18 (cp (aM1 17) (aM1 18) 165)) 18 164 a406) 22 y503) 17 (cp ((up2 (up3 (up2 aM1 18 (cp (aM1 17) (aM1 18) 165)) 18 164 a406) 22 y503) 18) ((up2 (up3 (up2 aM1 18 (cp (aM1 17) (aM1 18) 165)) 18 164 a406) 22 y503) 17) 165)) lM1) 98 [(4, .int 99), (3, .int 1), (0, .ref (r 0)), (1, .int 3), (2, .int a406)] []
          refine g_iconst (v := 1) hk dX12_set_98 (by decide) ?_
          exact g_iret hk hR rfl (Or.inr (Or.inr (Or.inr (Or.inr (Or.inr (Or.inr (Or.inr (Or.inr (Or.inr (Or.inr (Or.inr (Or.inr (Or.inr (Or.inr (Or.inr (Or.inr (Or.inl ⟨y503, c413, c414, c415, c438, c458, c481, c482, c489, c490, rfl, rfl⟩))))))))))))))))) dX12_set_99
      · skip
        refine g_iconst (v := 0) hk dX12_set_23 (by decide) ?_
        exact g_iret hk hR rfl (Or.inr (Or.inr (Or.inr (Or.inr (Or.inr (Or.inr (Or.inr (Or.inr (Or.inr (Or.inr (Or.inr (Or.inr (Or.inr (Or.inr (Or.inr (Or.inr (Or.inr (⟨c413, c414, c415, c438, c458, c481, c482, rfl, rfl⟩)))))))))))))))))) dX12_set_24
    exfalso; omega
def wo_m162_X12_undo : List Cond := [Cond.fieldLink RX12 209 "WarpDeskModel" "undos" "I"]
def wz_m162_X12_undo : List Cond := .code yX12_undo cX12_undo 2 (some .boolean) :: (wo_m162_X12_undo ++ (wsX120 ++ ([] : List Cond)))
theorem zg_m162_X12_undo : ∀ w ∈ wz_m162_X12_undo, goodWord w = true := zg_cons rfl (zg_app (by decide +kernel) (zg_app zgU_wsX120 zg_nil))
theorem zi_m162_X12_undo : ∀ w ∈ wz_m162_X12_undo, w ∈ lw_tbl := zi_cons zw_1709 (zi_app (zi_cons zw_1422 zi_nil) (zi_app inX12 zi_nil))
set_option maxHeartbeats 4000000 in
set_option maxRecDepth 100000 in
theorem m162_X12_undo (l : Launch) (D : va_G) (zt : Nat × Nat × Nat) (g : Nat → ClassId) (r : Nat → Nat) : GM l D zt (tyM g) yX12_undo wz_m162_X12_undo ({ frames := 0, cells := 0, slots := 0, locals := 0 } : Room) [.ref (r 0)] (wM r g iM1 aM1 lM1) (fun v _ w' => v = some (.int 0) ∧ w' = wM r g iM1 aM1 lM1) 0 0 := by
  refine GM.of (cc := cX12_undo) (maxL := 2) (ret := (some .boolean)) (own := RX12) (lv := [(0, .ref (r 0))]) (by decide) rfl rfl (Nat.le_of_ble_eq_true rfl) rfl (fun κ sz hk hR hN => ?_)
  have hin12 : ∀ w ∈ u_ws RX12 TX12 55, w ∈ wz_m162_X12_undo := fun w h => (List.mem_cons_of_mem _ (List.mem_append_right _ (List.mem_append_left _ h)))
  refine g_aload_n hk dX12_undo_0 rfl ?_
  refine gM_i22 (v := 0) hk hin12 (List.mem_cons_of_mem _ (List.mem_append_left _ (List.mem_of_getElem? (i := 0) rfl))) dX12_undo_1 rfl ?_
  refine g_if_ne (tgt := 9) (a := 0) hk dX12_undo_4 (by decide) rfl (fun z9 => absurd z9 (show ¬ ((0 : Int) ≠ (0 : Int)) from by decide)) (fun _ => ?_)
  refine g_iconst (v := 0) hk dX12_undo_7 (by decide) ?_
  exact g_iret hk hR rfl ⟨rfl, rfl⟩ dX12_undo_8
def wo_m164_X12_isWindow : List Cond := [Cond.fieldLink RX12 70 "WarpDeskModel" "now" "[I"]
def wz_m164_X12_isWindow : List Cond := .code yX12_isWindow cX12_isWindow 4 (some .boolean) :: (wo_m164_X12_isWindow ++ (wsX120 ++ ([] : List Cond)))
theorem zg_m164_X12_isWindow : ∀ w ∈ wz_m164_X12_isWindow, goodWord w = true := zg_cons rfl (zg_app (by decide +kernel) (zg_app zgU_wsX120 zg_nil))
theorem zi_m164_X12_isWindow : ∀ w ∈ wz_m164_X12_isWindow, w ∈ lw_tbl := zi_cons zw_1717 (zi_app (zi_cons zw_1413 zi_nil) (zi_app inX12 zi_nil))
set_option maxHeartbeats 4000000 in
set_option maxRecDepth 100000 in
theorem m164_X12_isWindow (l : Launch) (D : va_G) (zt : Nat × Nat × Nat) (g : Nat → ClassId) (r : Nat → Nat) (a507 : Int32) (a508 : Int32) : GM l D zt (tyM g) yX12_isWindow wz_m164_X12_isWindow ({ frames := 0, cells := 0, slots := 0, locals := 0 } : Room) [.ref (r 0), .int a507, .int a508] (wM r g iM1 aM1 lM1) (fun v _ w' => v = some (.int 0) ∧ w' = wM r g iM1 aM1 lM1) 0 0 := by
  refine GM.of (cc := cX12_isWindow) (maxL := 4) (ret := (some .boolean)) (own := RX12) (lv := [(0, .ref (r 0)), (1, .int a507), (2, .int a508)]) (by decide) rfl rfl (Nat.le_of_ble_eq_true rfl) rfl (fun κ sz hk hR hN => ?_)
  have hin12 : ∀ w ∈ u_ws RX12 TX12 55, w ∈ wz_m164_X12_isWindow := fun w h => (List.mem_cons_of_mem _ (List.mem_append_right _ (List.mem_append_left _ h)))
  refine g_iload_n hk dX12_isWindow_0 rfl ?_
  refine g_if_lt (tgt := 21) (a := a507.toInt) hk dX12_isWindow_1 (by decide) rfl (fun c509 => ?_) (fun c509 => ?_)
  · skip
    refine g_iconst (v := 0) hk dX12_isWindow_21 (by decide) ?_
    exact g_iret hk hR rfl ⟨rfl, rfl⟩ dX12_isWindow_22
  · skip
    refine g_iload_n hk dX12_isWindow_4 rfl ?_
    refine g_iconst (v := 1) hk dX12_isWindow_5 (by decide) ?_
    refine g_icmp_lt (tgt := 21) (a := a508.toInt) (b := 1) hk dX12_isWindow_6 (by decide) rfl rfl (fun c510 => ?_) (fun c510 => ?_)
    · skip
      refine g_iconst (v := 0) hk dX12_isWindow_21 (by decide) ?_
      exact g_iret hk hR rfl ⟨rfl, rfl⟩ dX12_isWindow_22
    · skip
      refine g_iload_n hk dX12_isWindow_9 rfl ?_
      refine g_aload_n hk dX12_isWindow_10 rfl ?_
      refine gM_r0_35 hk hin12 (List.mem_cons_of_mem _ (List.mem_append_left _ (List.mem_of_getElem? (i := 0) rfl))) dX12_isWindow_11 ?_
      refine g_iconst (v := 0) hk dX12_isWindow_14 (by decide) ?_
      refine lM_17 (v := 0) hk (vp_in_iff.mpr ⟨by decide, by decide⟩) rfl dX12_isWindow_15 ?_
      refine g_iload_n hk dX12_isWindow_16 rfl ?_
      refine g_isub hk dX12_isWindow_17 ?_
      refine g_topi (fun y511 ey511 => ?_)
      have hy511 : y511.toInt = 0 - a508.toInt := i32_sub ey511 rfl rfl (by have := Int32.toInt_lt a508; omega) (by have := Int32.le_toInt a508; omega)
      refine g_icmp_le (tgt := 23) (a := a507.toInt) (b := y511.toInt) hk dX12_isWindow_18 (by decide) rfl rfl (fun z9 => absurd z9 (show ¬ (a507.toInt ≤ y511.toInt) from by omega)) (fun _ => ?_)
      refine g_iconst (v := 0) hk dX12_isWindow_21 (by decide) ?_
      exact g_iret hk hR rfl ⟨rfl, rfl⟩ dX12_isWindow_22
def wo_m163_X12_window : List Cond := [Cond.methodLink RX12 257 yX12_isWindow, Cond.instanceMethod yX12_isWindow, Cond.selects RX12 yX12_isWindow yX12_isWindow, Cond.initialized RX12, Cond.constant RX12 332 (-1000000)]
def wz_m163_X12_window : List Cond := .code yX12_window cX12_window 4 (some .int) :: (wo_m163_X12_window ++ (wz_m164_X12_isWindow ++ ([] : List Cond)))
theorem zg_m163_X12_window : ∀ w ∈ wz_m163_X12_window, goodWord w = true := zg_cons rfl (zg_app (by decide +kernel) (zg_app zg_m164_X12_isWindow zg_nil))
theorem zi_m163_X12_window : ∀ w ∈ wz_m163_X12_window, w ∈ lw_tbl := zi_cons zw_1713 (zi_app (zi_cons zw_1714 (zi_cons zw_1716 (zi_cons zw_72 (zi_cons zw_115 (zi_cons zw_1718 zi_nil))))) (zi_app zi_m164_X12_isWindow zi_nil))
set_option maxHeartbeats 4000000 in
set_option maxRecDepth 100000 in
theorem m163_X12_window (l : Launch) (D : va_G) (zt : Nat × Nat × Nat) (g : Nat → ClassId) (r : Nat → Nat) (a504 : Int32) (a505 : Int32) (a506 : Int32) : GM l D zt (tyM g) yX12_window wz_m163_X12_window ({ frames := 1, cells := 0, slots := 0, locals := 23 } : Room) [.ref (r 0), .int a504, .int a505, .int a506] (wM r g iM1 aM1 lM1) (fun v _ w' => v = some (.int (-1000000)) ∧ w' = wM r g iM1 aM1 lM1) 0 0 := by
  refine GM.of (cc := cX12_window) (maxL := 4) (ret := (some .int)) (own := RX12) (lv := [(0, .ref (r 0)), (1, .int a504), (2, .int a505), (3, .int a506)]) (by decide) rfl rfl (Nat.le_of_ble_eq_true rfl) rfl (fun κ sz hk hR hN => ?_)
  refine g_aload_n hk dX12_window_0 rfl ?_
  refine g_iload_n hk dX12_window_1 rfl ?_
  refine g_iload_n hk dX12_window_2 rfl ?_
  refine g_callV (n := 2) hk (m164_X12_isWindow l D zt g r a504 a505) (SP.same _) (fun _ h => h) (gi_V (List.mem_cons_of_mem _ (List.mem_append_left _ (List.mem_of_getElem? (i := 0) rfl))) (List.mem_cons_of_mem _ (List.mem_append_left _ (List.mem_of_getElem? (i := 1) rfl))) (List.mem_cons_of_mem _ (List.mem_append_left _ (List.mem_of_getElem? (i := 2) rfl))) (List.mem_cons_of_mem _ (List.mem_append_left _ (List.mem_of_getElem? (i := 3) rfl))) (gi_sub (fun w h => (List.mem_cons_of_mem _ (List.mem_append_right _ (List.mem_append_left _ h)))) zg_m164_X12_isWindow)) rfl rfl rfl (by decide +kernel) ⟨Nat.le_of_ble_eq_true rfl, Nat.le_of_ble_eq_true rfl⟩ 0 rfl rfl rfl rfl (Nat.le_of_ble_eq_true rfl) ⟨Nat.le_of_ble_eq_true rfl, Nat.le_of_ble_eq_true rfl⟩ dX12_window_3 (fun v ty' w' hp hk' => ?_)
  obtain ⟨rfl, rfl⟩ := hp
  show GW κ 4 0 0 (wM r g iM1 aM1 lM1) 6 [(0, .ref (r 0)), (1, .int a504), (2, .int a505), (3, .int a506)] [.int 0]
  refine g_if_ne (tgt := 13) (a := 0) hk dX12_window_6 (by decide) rfl (fun z9 => absurd z9 (show ¬ ((0 : Int) ≠ (0 : Int)) from by decide)) (fun _ => ?_)
  refine g_ldcw (v := (-1000000)) hk (List.mem_cons_of_mem _ (List.mem_append_left _ (List.mem_of_getElem? (i := 4) rfl))) dX12_window_9 ?_
  exact g_iret hk hR rfl ⟨rfl, rfl⟩ dX12_window_12
def wo_m166_X12_in : List Cond := []
def wz_m166_X12_in : List Cond := .code yX12_in cX12_in 3 (some .boolean) :: (wo_m166_X12_in ++ ([] : List Cond))
theorem zg_m166_X12_in : ∀ w ∈ wz_m166_X12_in, goodWord w = true := zg_cons rfl (zg_app (by decide +kernel) zg_nil)
theorem zi_m166_X12_in : ∀ w ∈ wz_m166_X12_in, w ∈ lw_tbl := zi_cons zw_1658 (zi_app zi_nil zi_nil)
set_option maxHeartbeats 4000000 in
set_option maxRecDepth 100000 in
theorem m166_X12_in (l : Launch) (D : va_G) (zt : Nat × Nat × Nat) (g : Nat → ClassId) (r : Nat → Nat) (a515 : Int32) : GM l D zt (tyM g) yX12_in wz_m166_X12_in ({ frames := 0, cells := 0, slots := 0, locals := 0 } : Room) [.int a515, .int 2, .int 16] (wM r g iM1 aM1 lM1) (fun v _ w' => ((a515.toInt < 2) ∧ v = some (.int 0) ∧ w' = wM r g iM1 aM1 lM1) ∨ ((¬ (a515.toInt < 2)) ∧ (16 < a515.toInt) ∧ v = some (.int 0) ∧ w' = wM r g iM1 aM1 lM1) ∨ ((¬ (a515.toInt < 2)) ∧ (¬ (16 < a515.toInt)) ∧ v = some (.int 1) ∧ w' = wM r g iM1 aM1 lM1)) 0 0 := by
  refine GM.of (cc := cX12_in) (maxL := 3) (ret := (some .boolean)) (own := RX12) (lv := [(0, .int a515), (1, .int 2), (2, .int 16)]) (by decide) rfl rfl (Nat.le_of_ble_eq_true rfl) rfl (fun κ sz hk hR hN => ?_)
  refine g_iload_n hk dX12_in_0 rfl ?_
  refine g_iload_n hk dX12_in_1 rfl ?_
  refine g_icmp_lt (tgt := 14) (a := a515.toInt) (b := 2) hk dX12_in_2 (by decide) rfl rfl (fun c516 => ?_) (fun c516 => ?_)
  · skip
    refine g_iconst (v := 0) hk dX12_in_14 (by decide) ?_
    exact g_iret hk hR rfl (Or.inl ⟨c516, rfl, rfl⟩) dX12_in_15
  · skip
    refine g_iload_n hk dX12_in_5 rfl ?_
    refine g_iload_n hk dX12_in_6 rfl ?_
    refine g_icmp_gt (tgt := 14) (a := a515.toInt) (b := 16) hk dX12_in_7 (by decide) rfl rfl (fun c517 => ?_) (fun c517 => ?_)
    · skip
      refine g_iconst (v := 0) hk dX12_in_14 (by decide) ?_
      exact g_iret hk hR rfl (Or.inr (Or.inl ⟨c516, c517, rfl, rfl⟩)) dX12_in_15
    · skip
      refine g_iconst (v := 1) hk dX12_in_10 (by decide) ?_
      refine g_goto (tgt := 15) hk dX12_in_11 (by decide) ?_
      exact g_iret hk hR rfl (Or.inr (Or.inr (⟨c516, c517, rfl, rfl⟩))) dX12_in_15
def wo_m167_X12_isWindow : List Cond := [Cond.fieldLink RX12 70 "WarpDeskModel" "now" "[I"]
def wz_m167_X12_isWindow : List Cond := .code yX12_isWindow cX12_isWindow 4 (some .boolean) :: (wo_m167_X12_isWindow ++ (wsX120 ++ ([] : List Cond)))
theorem zg_m167_X12_isWindow : ∀ w ∈ wz_m167_X12_isWindow, goodWord w = true := zg_cons rfl (zg_app (by decide +kernel) (zg_app zgU_wsX120 zg_nil))
theorem zi_m167_X12_isWindow : ∀ w ∈ wz_m167_X12_isWindow, w ∈ lw_tbl := zi_cons zw_1717 (zi_app (zi_cons zw_1413 zi_nil) (zi_app inX12 zi_nil))
set_option maxHeartbeats 4000000 in
set_option maxRecDepth 100000 in
theorem m167_X12_isWindow (l : Launch) (D : va_G) (zt : Nat × Nat × Nat) (g : Nat → ClassId) (r : Nat → Nat) (a523 : Int32) (a524 : Int32) (h0 : 2 ≤ a524.toInt) (h1 : a524.toInt ≤ 16) : GM l D zt (tyM g) yX12_isWindow wz_m167_X12_isWindow ({ frames := 0, cells := 0, slots := 0, locals := 0 } : Room) [.ref (r 0), .int a523, .int a524] (wM r g iM1 aM1 lM1) (fun v _ w' => v = some (.int 0) ∧ w' = wM r g iM1 aM1 lM1) 0 0 := by
  refine GM.of (cc := cX12_isWindow) (maxL := 4) (ret := (some .boolean)) (own := RX12) (lv := [(0, .ref (r 0)), (1, .int a523), (2, .int a524)]) (by decide) rfl rfl (Nat.le_of_ble_eq_true rfl) rfl (fun κ sz hk hR hN => ?_)
  have hin12 : ∀ w ∈ u_ws RX12 TX12 55, w ∈ wz_m167_X12_isWindow := fun w h => (List.mem_cons_of_mem _ (List.mem_append_right _ (List.mem_append_left _ h)))
  refine g_iload_n hk dX12_isWindow_0 rfl ?_
  refine g_if_lt (tgt := 21) (a := a523.toInt) hk dX12_isWindow_1 (by decide) rfl (fun c525 => ?_) (fun c525 => ?_)
  · skip
    refine g_iconst (v := 0) hk dX12_isWindow_21 (by decide) ?_
    exact g_iret hk hR rfl ⟨rfl, rfl⟩ dX12_isWindow_22
  · skip
    refine g_iload_n hk dX12_isWindow_4 rfl ?_
    refine g_iconst (v := 1) hk dX12_isWindow_5 (by decide) ?_
    refine g_icmp_lt (tgt := 21) (a := a524.toInt) (b := 1) hk dX12_isWindow_6 (by decide) rfl rfl (fun z9 => absurd z9 (show ¬ (a524.toInt < 1) from by omega)) (fun _ => ?_)
    refine g_iload_n hk dX12_isWindow_9 rfl ?_
    refine g_aload_n hk dX12_isWindow_10 rfl ?_
    refine gM_r0_35 hk hin12 (List.mem_cons_of_mem _ (List.mem_append_left _ (List.mem_of_getElem? (i := 0) rfl))) dX12_isWindow_11 ?_
    refine g_iconst (v := 0) hk dX12_isWindow_14 (by decide) ?_
    refine lM_17 (v := 0) hk (vp_in_iff.mpr ⟨by decide, by decide⟩) rfl dX12_isWindow_15 ?_
    refine g_iload_n hk dX12_isWindow_16 rfl ?_
    refine g_isub hk dX12_isWindow_17 ?_
    refine g_topi (fun y526 ey526 => ?_)
    have hy526 : y526.toInt = 0 - a524.toInt := i32_sub ey526 rfl rfl (by have := Int32.toInt_lt a524; omega) (by have := Int32.le_toInt a524; omega)
    refine g_icmp_le (tgt := 23) (a := a523.toInt) (b := y526.toInt) hk dX12_isWindow_18 (by decide) rfl rfl (fun z9 => absurd z9 (show ¬ (a523.toInt ≤ y526.toInt) from by omega)) (fun _ => ?_)
    refine g_iconst (v := 0) hk dX12_isWindow_21 (by decide) ?_
    exact g_iret hk hR rfl ⟨rfl, rfl⟩ dX12_isWindow_22
def wo_m165_X12_level : List Cond := [Cond.methodLink RX12 244 yX12_in, Cond.static yX12_in, Cond.initialized RX12, Cond.constant RX12 332 (-1000000), Cond.methodLink RX12 257 yX12_isWindow, Cond.instanceMethod yX12_isWindow, Cond.selects RX12 yX12_isWindow yX12_isWindow]
def wz_m165_X12_level : List Cond := .code yX12_level cX12_level 4 (some .int) :: (wo_m165_X12_level ++ (wz_m166_X12_in ++ (wz_m167_X12_isWindow ++ ([] : List Cond))))
theorem zg_m165_X12_level : ∀ w ∈ wz_m165_X12_level, goodWord w = true := zg_cons rfl (zg_app (by decide +kernel) (zg_app zg_m166_X12_in (zg_app zg_m167_X12_isWindow zg_nil)))
theorem zi_m165_X12_level : ∀ w ∈ wz_m165_X12_level, w ∈ lw_tbl := zi_cons zw_1734 (zi_app (zi_cons zw_1656 (zi_cons zw_1657 (zi_cons zw_115 (zi_cons zw_1718 (zi_cons zw_1714 (zi_cons zw_1716 (zi_cons zw_72 zi_nil))))))) (zi_app zi_m166_X12_in (zi_app zi_m167_X12_isWindow zi_nil)))
set_option maxHeartbeats 4000000 in
set_option maxRecDepth 100000 in
theorem m165_X12_level (l : Launch) (D : va_G) (zt : Nat × Nat × Nat) (g : Nat → ClassId) (r : Nat → Nat) (a512 : Int32) (a513 : Int32) (a514 : Int32) : GM l D zt (tyM g) yX12_level wz_m165_X12_level ({ frames := 1, cells := 0, slots := 0, locals := 23 } : Room) [.ref (r 0), .int a512, .int a513, .int a514] (wM r g iM1 aM1 lM1) (fun v _ w' => v = some (.int (-1000000)) ∧ w' = wM r g iM1 aM1 lM1) 0 0 := by
  refine GM.of (cc := cX12_level) (maxL := 4) (ret := (some .int)) (own := RX12) (lv := [(0, .ref (r 0)), (1, .int a512), (2, .int a513), (3, .int a514)]) (by decide) rfl rfl (Nat.le_of_ble_eq_true rfl) rfl (fun κ sz hk hR hN => ?_)
  refine g_iload_n hk dX12_level_0 rfl ?_
  refine g_iconst (v := 2) hk dX12_level_1 (by decide) ?_
  refine g_bipush (v := 16) hk dX12_level_2 (by decide) ?_
  refine g_callS (n := 3) hk (m166_X12_in l D zt g r a513) (SP.same _) (fun _ h => h) (gi_S (List.mem_cons_of_mem _ (List.mem_append_left _ (List.mem_of_getElem? (i := 0) rfl))) (List.mem_cons_of_mem _ (List.mem_append_left _ (List.mem_of_getElem? (i := 1) rfl))) (List.mem_cons_of_mem _ (List.mem_append_left _ (List.mem_of_getElem? (i := 2) rfl))) (gi_sub (fun w h => (List.mem_cons_of_mem _ (List.mem_append_right _ (List.mem_append_left _ h)))) zg_m166_X12_in)) rfl rfl rfl (by decide +kernel) ⟨Nat.le_of_ble_eq_true rfl, Nat.le_of_ble_eq_true rfl⟩ rfl rfl (Nat.le_of_ble_eq_true rfl) ⟨Nat.le_of_ble_eq_true rfl, Nat.le_of_ble_eq_true rfl⟩ dX12_level_4 (fun v ty' w' hp hk' => ?_)
  rcases hp with ⟨c518, rfl, rfl⟩ | ⟨c519, c520, rfl, rfl⟩ | ⟨c521, c522, rfl, rfl⟩
  · show GW κ 4 0 0 (wM r g iM1 aM1 lM1) 7 [(0, .ref (r 0)), (1, .int a512), (2, .int a513), (3, .int a514)] [.int 0]
    refine g_if_eq (tgt := 30) (a := 0) hk dX12_level_7 (by decide) rfl (fun _ => ?_) (fun z9 => absurd (show (0 : Int) = (0 : Int) from by decide) z9)
    refine g_ldcw (v := (-1000000)) hk (List.mem_cons_of_mem _ (List.mem_append_left _ (List.mem_of_getElem? (i := 3) rfl))) dX12_level_30 ?_
    exact g_iret hk hR rfl ⟨rfl, rfl⟩ dX12_level_33
  · show GW κ 4 0 0 (wM r g iM1 aM1 lM1) 7 [(0, .ref (r 0)), (1, .int a512), (2, .int a513), (3, .int a514)] [.int 0]
    refine g_if_eq (tgt := 30) (a := 0) hk dX12_level_7 (by decide) rfl (fun _ => ?_) (fun z9 => absurd (show (0 : Int) = (0 : Int) from by decide) z9)
    refine g_ldcw (v := (-1000000)) hk (List.mem_cons_of_mem _ (List.mem_append_left _ (List.mem_of_getElem? (i := 3) rfl))) dX12_level_30 ?_
    exact g_iret hk hR rfl ⟨rfl, rfl⟩ dX12_level_33
  · show GW κ 4 0 0 (wM r g iM1 aM1 lM1) 7 [(0, .ref (r 0)), (1, .int a512), (2, .int a513), (3, .int a514)] [.int 1]
    refine g_if_eq (tgt := 30) (a := 1) hk dX12_level_7 (by decide) rfl (fun z9 => absurd z9 (show ¬ ((1 : Int) = (0 : Int)) from by decide)) (fun _ => ?_)
    refine g_aload_n hk dX12_level_10 rfl ?_
    refine g_iload_n hk dX12_level_11 rfl ?_
    refine g_iload_n hk dX12_level_12 rfl ?_
    refine g_callV (n := 2) hk (m167_X12_isWindow l D zt g r a512 a513 (by omega) (by omega)) (SP.same _) (fun _ h => h) (gi_V (List.mem_cons_of_mem _ (List.mem_append_left _ (List.mem_of_getElem? (i := 4) rfl))) (List.mem_cons_of_mem _ (List.mem_append_left _ (List.mem_of_getElem? (i := 5) rfl))) (List.mem_cons_of_mem _ (List.mem_append_left _ (List.mem_of_getElem? (i := 6) rfl))) (List.mem_cons_of_mem _ (List.mem_append_left _ (List.mem_of_getElem? (i := 2) rfl))) (gi_sub (fun w h => (List.mem_cons_of_mem _ (List.mem_append_right _ (List.mem_append_right _ (List.mem_append_left _ h))))) zg_m167_X12_isWindow)) rfl rfl rfl (by decide +kernel) ⟨Nat.le_of_ble_eq_true rfl, Nat.le_of_ble_eq_true rfl⟩ 0 rfl rfl rfl rfl (Nat.le_of_ble_eq_true rfl) ⟨Nat.le_of_ble_eq_true rfl, Nat.le_of_ble_eq_true rfl⟩ dX12_level_13 (fun v ty' w' hp hk' => ?_)
    obtain ⟨rfl, rfl⟩ := hp
    show GW κ 4 0 0 (wM r g iM1 aM1 lM1) 16 [(0, .ref (r 0)), (1, .int a512), (2, .int a513), (3, .int a514)] [.int 0]
    refine g_if_eq (tgt := 30) (a := 0) hk dX12_level_16 (by decide) rfl (fun _ => ?_) (fun z9 => absurd (show (0 : Int) = (0 : Int) from by decide) z9)
    refine g_ldcw (v := (-1000000)) hk (List.mem_cons_of_mem _ (List.mem_append_left _ (List.mem_of_getElem? (i := 3) rfl))) dX12_level_30 ?_
    exact g_iret hk hR rfl ⟨rfl, rfl⟩ dX12_level_33
def wo_m169_X12_isOf : List Cond := [Cond.methodLink RX12 251 yX12_isQuery, Cond.instanceMethod yX12_isQuery, Cond.selects RX12 yX12_isQuery yX12_isQuery, Cond.initialized RX12]
def wz_m169_X12_isOf : List Cond := .code yX12_isOf cX12_isOf 3 (some .boolean) :: (wo_m169_X12_isOf ++ (wz_m135_X12_isQuery ++ ([] : List Cond)))
theorem zg_m169_X12_isOf : ∀ w ∈ wz_m169_X12_isOf, goodWord w = true := zg_cons rfl (zg_app (by decide +kernel) (zg_app zg_m135_X12_isQuery zg_nil))
theorem zi_m169_X12_isOf : ∀ w ∈ wz_m169_X12_isOf, w ∈ lw_tbl := zi_cons zw_1758 (zi_app (zi_cons zw_1663 (zi_cons zw_1665 (zi_cons zw_67 (zi_cons zw_115 zi_nil)))) (zi_app zi_m135_X12_isQuery zi_nil))
set_option maxHeartbeats 4000000 in
set_option maxRecDepth 100000 in
theorem m169_X12_isOf (l : Launch) (D : va_G) (zt : Nat × Nat × Nat) (g : Nat → ClassId) (r : Nat → Nat) (a529 : Int32) (a530 : Int32) : GM l D zt (tyM g) yX12_isOf wz_m169_X12_isOf ({ frames := 2, cells := 0, slots := 0, locals := 43 } : Room) [.ref (r 0), .int a529, .int a530] (wM r g iM1 aM1 lM1) (fun v _ w' => v = some (.int 0) ∧ w' = wM r g iM1 aM1 lM1) 0 0 := by
  refine GM.of (cc := cX12_isOf) (maxL := 3) (ret := (some .boolean)) (own := RX12) (lv := [(0, .ref (r 0)), (1, .int a529), (2, .int a530)]) (by decide) rfl rfl (Nat.le_of_ble_eq_true rfl) rfl (fun κ sz hk hR hN => ?_)
  refine g_aload_n hk dX12_isOf_0 rfl ?_
  refine g_iload_n hk dX12_isOf_1 rfl ?_
  refine g_callV (n := 1) hk (m135_X12_isQuery l D zt g r a529) (SP.same _) (fun _ h => h) (gi_V (List.mem_cons_of_mem _ (List.mem_append_left _ (List.mem_of_getElem? (i := 0) rfl))) (List.mem_cons_of_mem _ (List.mem_append_left _ (List.mem_of_getElem? (i := 1) rfl))) (List.mem_cons_of_mem _ (List.mem_append_left _ (List.mem_of_getElem? (i := 2) rfl))) (List.mem_cons_of_mem _ (List.mem_append_left _ (List.mem_of_getElem? (i := 3) rfl))) (gi_sub (fun w h => (List.mem_cons_of_mem _ (List.mem_append_right _ (List.mem_append_left _ h)))) zg_m135_X12_isQuery)) rfl rfl rfl (by decide +kernel) ⟨Nat.le_of_ble_eq_true rfl, Nat.le_of_ble_eq_true rfl⟩ 0 rfl rfl rfl rfl (Nat.le_of_ble_eq_true rfl) ⟨Nat.le_of_ble_eq_true rfl, Nat.le_of_ble_eq_true rfl⟩ dX12_isOf_2 (fun v ty' w' hp hk' => ?_)
  obtain ⟨rfl, rfl⟩ := hp
  show GW κ 3 0 0 (wM r g iM1 aM1 lM1) 5 [(0, .ref (r 0)), (1, .int a529), (2, .int a530)] [.int 0]
  refine g_if_eq (tgt := 25) (a := 0) hk dX12_isOf_5 (by decide) rfl (fun _ => ?_) (fun z9 => absurd (show (0 : Int) = (0 : Int) from by decide) z9)
  refine g_iconst (v := 0) hk dX12_isOf_25 (by decide) ?_
  exact g_iret hk hR rfl ⟨rfl, rfl⟩ dX12_isOf_26
def wo_m168_X12_distance : List Cond := [Cond.methodLink RX12 342 yX12_isOf, Cond.instanceMethod yX12_isOf, Cond.selects RX12 yX12_isOf yX12_isOf, Cond.initialized RX12]
def wz_m168_X12_distance : List Cond := .code yX12_distance cX12_distance 3 (some .int) :: (wo_m168_X12_distance ++ (wz_m169_X12_isOf ++ ([] : List Cond)))
theorem zg_m168_X12_distance : ∀ w ∈ wz_m168_X12_distance, goodWord w = true := zg_cons rfl (zg_app (by decide +kernel) (zg_app zg_m169_X12_isOf zg_nil))
theorem zi_m168_X12_distance : ∀ w ∈ wz_m168_X12_distance, w ∈ lw_tbl := zi_cons zw_1754 (zi_app (zi_cons zw_1755 (zi_cons zw_1757 (zi_cons zw_78 (zi_cons zw_115 zi_nil)))) (zi_app zi_m169_X12_isOf zi_nil))
set_option maxHeartbeats 4000000 in
set_option maxRecDepth 100000 in
theorem m168_X12_distance (l : Launch) (D : va_G) (zt : Nat × Nat × Nat) (g : Nat → ClassId) (r : Nat → Nat) (a527 : Int32) (a528 : Int32) : GM l D zt (tyM g) yX12_distance wz_m168_X12_distance ({ frames := 3, cells := 0, slots := 0, locals := 65 } : Room) [.ref (r 0), .int a527, .int a528] (wM r g iM1 aM1 lM1) (fun v _ w' => v = some (.int (-1)) ∧ w' = wM r g iM1 aM1 lM1) 0 0 := by
  refine GM.of (cc := cX12_distance) (maxL := 3) (ret := (some .int)) (own := RX12) (lv := [(0, .ref (r 0)), (1, .int a527), (2, .int a528)]) (by decide) rfl rfl (Nat.le_of_ble_eq_true rfl) rfl (fun κ sz hk hR hN => ?_)
  refine g_aload_n hk dX12_distance_0 rfl ?_
  refine g_iload_n hk dX12_distance_1 rfl ?_
  refine g_iload_n hk dX12_distance_2 rfl ?_
  refine g_callV (n := 2) hk (m169_X12_isOf l D zt g r a527 a528) (SP.same _) (fun _ h => h) (gi_V (List.mem_cons_of_mem _ (List.mem_append_left _ (List.mem_of_getElem? (i := 0) rfl))) (List.mem_cons_of_mem _ (List.mem_append_left _ (List.mem_of_getElem? (i := 1) rfl))) (List.mem_cons_of_mem _ (List.mem_append_left _ (List.mem_of_getElem? (i := 2) rfl))) (List.mem_cons_of_mem _ (List.mem_append_left _ (List.mem_of_getElem? (i := 3) rfl))) (gi_sub (fun w h => (List.mem_cons_of_mem _ (List.mem_append_right _ (List.mem_append_left _ h)))) zg_m169_X12_isOf)) rfl rfl rfl (by decide +kernel) ⟨Nat.le_of_ble_eq_true rfl, Nat.le_of_ble_eq_true rfl⟩ 0 rfl rfl rfl rfl (Nat.le_of_ble_eq_true rfl) ⟨Nat.le_of_ble_eq_true rfl, Nat.le_of_ble_eq_true rfl⟩ dX12_distance_3 (fun v ty' w' hp hk' => ?_)
  obtain ⟨rfl, rfl⟩ := hp
  show GW κ 3 0 0 (wM r g iM1 aM1 lM1) 6 [(0, .ref (r 0)), (1, .int a527), (2, .int a528)] [.int 0]
  refine g_if_ne (tgt := 11) (a := 0) hk dX12_distance_6 (by decide) rfl (fun z9 => absurd z9 (show ¬ ((0 : Int) ≠ (0 : Int)) from by decide)) (fun _ => ?_)
  refine g_iconst (v := (-1)) hk dX12_distance_9 (by decide) ?_
  exact g_iret hk hR rfl ⟨rfl, rfl⟩ dX12_distance_10
def wo_m170_X12_bound : List Cond := [Cond.methodLink RX12 342 yX12_isOf, Cond.instanceMethod yX12_isOf, Cond.selects RX12 yX12_isOf yX12_isOf, Cond.initialized RX12]
def wz_m170_X12_bound : List Cond := .code yX12_bound cX12_bound 4 (some .int) :: (wo_m170_X12_bound ++ (wz_m169_X12_isOf ++ ([] : List Cond)))
theorem zg_m170_X12_bound : ∀ w ∈ wz_m170_X12_bound, goodWord w = true := zg_cons rfl (zg_app (by decide +kernel) (zg_app zg_m169_X12_isOf zg_nil))
theorem zi_m170_X12_bound : ∀ w ∈ wz_m170_X12_bound, w ∈ lw_tbl := zi_cons zw_1802 (zi_app (zi_cons zw_1755 (zi_cons zw_1757 (zi_cons zw_78 (zi_cons zw_115 zi_nil)))) (zi_app zi_m169_X12_isOf zi_nil))
set_option maxHeartbeats 4000000 in
set_option maxRecDepth 100000 in
theorem m170_X12_bound (l : Launch) (D : va_G) (zt : Nat × Nat × Nat) (g : Nat → ClassId) (r : Nat → Nat) (a531 : Int32) (a532 : Int32) (a533 : Int32) : GM l D zt (tyM g) yX12_bound wz_m170_X12_bound ({ frames := 3, cells := 0, slots := 0, locals := 65 } : Room) [.ref (r 0), .int a531, .int a532, .int a533] (wM r g iM1 aM1 lM1) (fun v _ w' => v = some (.int (-1)) ∧ w' = wM r g iM1 aM1 lM1) 0 0 := by
  refine GM.of (cc := cX12_bound) (maxL := 4) (ret := (some .int)) (own := RX12) (lv := [(0, .ref (r 0)), (1, .int a531), (2, .int a532), (3, .int a533)]) (by decide) rfl rfl (Nat.le_of_ble_eq_true rfl) rfl (fun κ sz hk hR hN => ?_)
  refine g_aload_n hk dX12_bound_0 rfl ?_
  refine g_iload_n hk dX12_bound_1 rfl ?_
  refine g_iload_n hk dX12_bound_2 rfl ?_
  refine g_callV (n := 2) hk (m169_X12_isOf l D zt g r a531 a532) (SP.same _) (fun _ h => h) (gi_V (List.mem_cons_of_mem _ (List.mem_append_left _ (List.mem_of_getElem? (i := 0) rfl))) (List.mem_cons_of_mem _ (List.mem_append_left _ (List.mem_of_getElem? (i := 1) rfl))) (List.mem_cons_of_mem _ (List.mem_append_left _ (List.mem_of_getElem? (i := 2) rfl))) (List.mem_cons_of_mem _ (List.mem_append_left _ (List.mem_of_getElem? (i := 3) rfl))) (gi_sub (fun w h => (List.mem_cons_of_mem _ (List.mem_append_right _ (List.mem_append_left _ h)))) zg_m169_X12_isOf)) rfl rfl rfl (by decide +kernel) ⟨Nat.le_of_ble_eq_true rfl, Nat.le_of_ble_eq_true rfl⟩ 0 rfl rfl rfl rfl (Nat.le_of_ble_eq_true rfl) ⟨Nat.le_of_ble_eq_true rfl, Nat.le_of_ble_eq_true rfl⟩ dX12_bound_3 (fun v ty' w' hp hk' => ?_)
  obtain ⟨rfl, rfl⟩ := hp
  show GW κ 4 0 0 (wM r g iM1 aM1 lM1) 6 [(0, .ref (r 0)), (1, .int a531), (2, .int a532), (3, .int a533)] [.int 0]
  refine g_if_eq (tgt := 18) (a := 0) hk dX12_bound_6 (by decide) rfl (fun _ => ?_) (fun z9 => absurd (show (0 : Int) = (0 : Int) from by decide) z9)
  refine g_iconst (v := (-1)) hk dX12_bound_18 (by decide) ?_
  exact g_iret hk hR rfl ⟨rfl, rfl⟩ dX12_bound_19
def wo_m171_X12_look : List Cond := [Cond.methodLink RX12 342 yX12_isOf, Cond.instanceMethod yX12_isOf, Cond.selects RX12 yX12_isOf yX12_isOf, Cond.initialized RX12]
def wz_m171_X12_look : List Cond := .code yX12_look cX12_look 6 (some .int) :: (wo_m171_X12_look ++ (wz_m169_X12_isOf ++ ([] : List Cond)))
theorem zg_m171_X12_look : ∀ w ∈ wz_m171_X12_look, goodWord w = true := zg_cons rfl (zg_app (by decide +kernel) (zg_app zg_m169_X12_isOf zg_nil))
theorem zi_m171_X12_look : ∀ w ∈ wz_m171_X12_look, w ∈ lw_tbl := zi_cons zw_1819 (zi_app (zi_cons zw_1755 (zi_cons zw_1757 (zi_cons zw_78 (zi_cons zw_115 zi_nil)))) (zi_app zi_m169_X12_isOf zi_nil))
set_option maxHeartbeats 4000000 in
set_option maxRecDepth 100000 in
theorem m171_X12_look (l : Launch) (D : va_G) (zt : Nat × Nat × Nat) (g : Nat → ClassId) (r : Nat → Nat) (a534 : Int32) (a535 : Int32) (a536 : Int32) (a537 : Int32) : GM l D zt (tyM g) yX12_look wz_m171_X12_look ({ frames := 3, cells := 0, slots := 0, locals := 65 } : Room) [.ref (r 0), .int a534, .int a535, .int a536, .int a537] (wM r g iM1 aM1 lM1) (fun v _ w' => v = some (.int (-1)) ∧ w' = wM r g iM1 aM1 lM1) 0 0 := by
  refine GM.of (cc := cX12_look) (maxL := 6) (ret := (some .int)) (own := RX12) (lv := [(0, .ref (r 0)), (1, .int a534), (2, .int a535), (3, .int a536), (4, .int a537)]) (by decide) rfl rfl (Nat.le_of_ble_eq_true rfl) rfl (fun κ sz hk hR hN => ?_)
  refine g_aload_n hk dX12_look_0 rfl ?_
  refine g_iload_n hk dX12_look_1 rfl ?_
  refine g_iload_n hk dX12_look_2 rfl ?_
  refine g_callV (n := 2) hk (m169_X12_isOf l D zt g r a534 a535) (SP.same _) (fun _ h => h) (gi_V (List.mem_cons_of_mem _ (List.mem_append_left _ (List.mem_of_getElem? (i := 0) rfl))) (List.mem_cons_of_mem _ (List.mem_append_left _ (List.mem_of_getElem? (i := 1) rfl))) (List.mem_cons_of_mem _ (List.mem_append_left _ (List.mem_of_getElem? (i := 2) rfl))) (List.mem_cons_of_mem _ (List.mem_append_left _ (List.mem_of_getElem? (i := 3) rfl))) (gi_sub (fun w h => (List.mem_cons_of_mem _ (List.mem_append_right _ (List.mem_append_left _ h)))) zg_m169_X12_isOf)) rfl rfl rfl (by decide +kernel) ⟨Nat.le_of_ble_eq_true rfl, Nat.le_of_ble_eq_true rfl⟩ 0 rfl rfl rfl rfl (Nat.le_of_ble_eq_true rfl) ⟨Nat.le_of_ble_eq_true rfl, Nat.le_of_ble_eq_true rfl⟩ dX12_look_3 (fun v ty' w' hp hk' => ?_)
  obtain ⟨rfl, rfl⟩ := hp
  show GW κ 6 0 0 (wM r g iM1 aM1 lM1) 6 [(0, .ref (r 0)), (1, .int a534), (2, .int a535), (3, .int a536), (4, .int a537)] [.int 0]
  refine g_if_eq (tgt := 23) (a := 0) hk dX12_look_6 (by decide) rfl (fun _ => ?_) (fun z9 => absurd (show (0 : Int) = (0 : Int) from by decide) z9)
  refine g_iconst (v := (-1)) hk dX12_look_23 (by decide) ?_
  exact g_iret hk hR rfl ⟨rfl, rfl⟩ dX12_look_24
def wo_m172_X12_best : List Cond := [Cond.methodLink RX12 251 yX12_isQuery, Cond.instanceMethod yX12_isQuery, Cond.selects RX12 yX12_isQuery yX12_isQuery, Cond.initialized RX12]
def wz_m172_X12_best : List Cond := .code yX12_best cX12_best 4 (some .int) :: (wo_m172_X12_best ++ (wz_m135_X12_isQuery ++ ([] : List Cond)))
theorem zg_m172_X12_best : ∀ w ∈ wz_m172_X12_best, goodWord w = true := zg_cons rfl (zg_app (by decide +kernel) (zg_app zg_m135_X12_isQuery zg_nil))
theorem zi_m172_X12_best : ∀ w ∈ wz_m172_X12_best, w ∈ lw_tbl := zi_cons zw_1843 (zi_app (zi_cons zw_1663 (zi_cons zw_1665 (zi_cons zw_67 (zi_cons zw_115 zi_nil)))) (zi_app zi_m135_X12_isQuery zi_nil))
set_option maxHeartbeats 4000000 in
set_option maxRecDepth 100000 in
theorem m172_X12_best (l : Launch) (D : va_G) (zt : Nat × Nat × Nat) (g : Nat → ClassId) (r : Nat → Nat) (a538 : Int32) (a539 : Int32) : GM l D zt (tyM g) yX12_best wz_m172_X12_best ({ frames := 2, cells := 0, slots := 0, locals := 43 } : Room) [.ref (r 0), .int a538, .int a539] (wM r g iM1 aM1 lM1) (fun v _ w' => v = some (.int (-1)) ∧ w' = wM r g iM1 aM1 lM1) 0 0 := by
  refine GM.of (cc := cX12_best) (maxL := 4) (ret := (some .int)) (own := RX12) (lv := [(0, .ref (r 0)), (1, .int a538), (2, .int a539)]) (by decide) rfl rfl (Nat.le_of_ble_eq_true rfl) rfl (fun κ sz hk hR hN => ?_)
  refine g_aload_n hk dX12_best_0 rfl ?_
  refine g_iload_n hk dX12_best_1 rfl ?_
  refine g_callV (n := 1) hk (m135_X12_isQuery l D zt g r a538) (SP.same _) (fun _ h => h) (gi_V (List.mem_cons_of_mem _ (List.mem_append_left _ (List.mem_of_getElem? (i := 0) rfl))) (List.mem_cons_of_mem _ (List.mem_append_left _ (List.mem_of_getElem? (i := 1) rfl))) (List.mem_cons_of_mem _ (List.mem_append_left _ (List.mem_of_getElem? (i := 2) rfl))) (List.mem_cons_of_mem _ (List.mem_append_left _ (List.mem_of_getElem? (i := 3) rfl))) (gi_sub (fun w h => (List.mem_cons_of_mem _ (List.mem_append_right _ (List.mem_append_left _ h)))) zg_m135_X12_isQuery)) rfl rfl rfl (by decide +kernel) ⟨Nat.le_of_ble_eq_true rfl, Nat.le_of_ble_eq_true rfl⟩ 0 rfl rfl rfl rfl (Nat.le_of_ble_eq_true rfl) ⟨Nat.le_of_ble_eq_true rfl, Nat.le_of_ble_eq_true rfl⟩ dX12_best_2 (fun v ty' w' hp hk' => ?_)
  obtain ⟨rfl, rfl⟩ := hp
  show GW κ 4 0 0 (wM r g iM1 aM1 lM1) 5 [(0, .ref (r 0)), (1, .int a538), (2, .int a539)] [.int 0]
  refine g_if_eq (tgt := 17) (a := 0) hk dX12_best_5 (by decide) rfl (fun _ => ?_) (fun z9 => absurd (show (0 : Int) = (0 : Int) from by decide) z9)
  refine g_iconst (v := (-1)) hk dX12_best_17 (by decide) ?_
  exact g_iret hk hR rfl ⟨rfl, rfl⟩ dX12_best_18
def wo_m173_X12_search : List Cond := [Cond.methodLink RX12 251 yX12_isQuery, Cond.instanceMethod yX12_isQuery, Cond.selects RX12 yX12_isQuery yX12_isQuery, Cond.initialized RX12]
def wz_m173_X12_search : List Cond := .code yX12_search cX12_search 3 (some .int) :: (wo_m173_X12_search ++ (wz_m135_X12_isQuery ++ ([] : List Cond)))
theorem zg_m173_X12_search : ∀ w ∈ wz_m173_X12_search, goodWord w = true := zg_cons rfl (zg_app (by decide +kernel) (zg_app zg_m135_X12_isQuery zg_nil))
theorem zi_m173_X12_search : ∀ w ∈ wz_m173_X12_search, w ∈ lw_tbl := zi_cons zw_1859 (zi_app (zi_cons zw_1663 (zi_cons zw_1665 (zi_cons zw_67 (zi_cons zw_115 zi_nil)))) (zi_app zi_m135_X12_isQuery zi_nil))
set_option maxHeartbeats 4000000 in
set_option maxRecDepth 100000 in
theorem m173_X12_search (l : Launch) (D : va_G) (zt : Nat × Nat × Nat) (g : Nat → ClassId) (r : Nat → Nat) (a540 : Int32) (a541 : Int32) : GM l D zt (tyM g) yX12_search wz_m173_X12_search ({ frames := 2, cells := 0, slots := 0, locals := 43 } : Room) [.ref (r 0), .int a540, .int a541] (wM r g iM1 aM1 lM1) (fun v _ w' => v = some (.int (-1)) ∧ w' = wM r g iM1 aM1 lM1) 0 0 := by
  refine GM.of (cc := cX12_search) (maxL := 3) (ret := (some .int)) (own := RX12) (lv := [(0, .ref (r 0)), (1, .int a540), (2, .int a541)]) (by decide) rfl rfl (Nat.le_of_ble_eq_true rfl) rfl (fun κ sz hk hR hN => ?_)
  refine g_aload_n hk dX12_search_0 rfl ?_
  refine g_iload_n hk dX12_search_1 rfl ?_
  refine g_callV (n := 1) hk (m135_X12_isQuery l D zt g r a540) (SP.same _) (fun _ h => h) (gi_V (List.mem_cons_of_mem _ (List.mem_append_left _ (List.mem_of_getElem? (i := 0) rfl))) (List.mem_cons_of_mem _ (List.mem_append_left _ (List.mem_of_getElem? (i := 1) rfl))) (List.mem_cons_of_mem _ (List.mem_append_left _ (List.mem_of_getElem? (i := 2) rfl))) (List.mem_cons_of_mem _ (List.mem_append_left _ (List.mem_of_getElem? (i := 3) rfl))) (gi_sub (fun w h => (List.mem_cons_of_mem _ (List.mem_append_right _ (List.mem_append_left _ h)))) zg_m135_X12_isQuery)) rfl rfl rfl (by decide +kernel) ⟨Nat.le_of_ble_eq_true rfl, Nat.le_of_ble_eq_true rfl⟩ 0 rfl rfl rfl rfl (Nat.le_of_ble_eq_true rfl) ⟨Nat.le_of_ble_eq_true rfl, Nat.le_of_ble_eq_true rfl⟩ dX12_search_2 (fun v ty' w' hp hk' => ?_)
  obtain ⟨rfl, rfl⟩ := hp
  show GW κ 3 0 0 (wM r g iM1 aM1 lM1) 5 [(0, .ref (r 0)), (1, .int a540), (2, .int a541)] [.int 0]
  refine g_if_eq (tgt := 18) (a := 0) hk dX12_search_5 (by decide) rfl (fun _ => ?_) (fun z9 => absurd (show (0 : Int) = (0 : Int) from by decide) z9)
  refine g_iconst (v := (-1)) hk dX12_search_18 (by decide) ?_
  exact g_iret hk hR rfl ⟨rfl, rfl⟩ dX12_search_19
def wo_m174_X12_match : List Cond := [Cond.methodLink RX12 251 yX12_isQuery, Cond.instanceMethod yX12_isQuery, Cond.selects RX12 yX12_isQuery yX12_isQuery, Cond.initialized RX12]
def wz_m174_X12_match : List Cond := .code yX12_match cX12_match 4 (some .int) :: (wo_m174_X12_match ++ (wz_m135_X12_isQuery ++ ([] : List Cond)))
theorem zg_m174_X12_match : ∀ w ∈ wz_m174_X12_match, goodWord w = true := zg_cons rfl (zg_app (by decide +kernel) (zg_app zg_m135_X12_isQuery zg_nil))
theorem zi_m174_X12_match : ∀ w ∈ wz_m174_X12_match, w ∈ lw_tbl := zi_cons zw_1867 (zi_app (zi_cons zw_1663 (zi_cons zw_1665 (zi_cons zw_67 (zi_cons zw_115 zi_nil)))) (zi_app zi_m135_X12_isQuery zi_nil))
set_option maxHeartbeats 4000000 in
set_option maxRecDepth 100000 in
theorem m174_X12_match (l : Launch) (D : va_G) (zt : Nat × Nat × Nat) (g : Nat → ClassId) (r : Nat → Nat) (a542 : Int32) (a543 : Int32) (a544 : Int32) : GM l D zt (tyM g) yX12_match wz_m174_X12_match ({ frames := 2, cells := 0, slots := 0, locals := 43 } : Room) [.ref (r 0), .int a542, .int a543, .int a544] (wM r g iM1 aM1 lM1) (fun v _ w' => v = some (.int (-1)) ∧ w' = wM r g iM1 aM1 lM1) 0 0 := by
  refine GM.of (cc := cX12_match) (maxL := 4) (ret := (some .int)) (own := RX12) (lv := [(0, .ref (r 0)), (1, .int a542), (2, .int a543), (3, .int a544)]) (by decide) rfl rfl (Nat.le_of_ble_eq_true rfl) rfl (fun κ sz hk hR hN => ?_)
  refine g_aload_n hk dX12_match_0 rfl ?_
  refine g_iload_n hk dX12_match_1 rfl ?_
  refine g_callV (n := 1) hk (m135_X12_isQuery l D zt g r a542) (SP.same _) (fun _ h => h) (gi_V (List.mem_cons_of_mem _ (List.mem_append_left _ (List.mem_of_getElem? (i := 0) rfl))) (List.mem_cons_of_mem _ (List.mem_append_left _ (List.mem_of_getElem? (i := 1) rfl))) (List.mem_cons_of_mem _ (List.mem_append_left _ (List.mem_of_getElem? (i := 2) rfl))) (List.mem_cons_of_mem _ (List.mem_append_left _ (List.mem_of_getElem? (i := 3) rfl))) (gi_sub (fun w h => (List.mem_cons_of_mem _ (List.mem_append_right _ (List.mem_append_left _ h)))) zg_m135_X12_isQuery)) rfl rfl rfl (by decide +kernel) ⟨Nat.le_of_ble_eq_true rfl, Nat.le_of_ble_eq_true rfl⟩ 0 rfl rfl rfl rfl (Nat.le_of_ble_eq_true rfl) ⟨Nat.le_of_ble_eq_true rfl, Nat.le_of_ble_eq_true rfl⟩ dX12_match_2 (fun v ty' w' hp hk' => ?_)
  obtain ⟨rfl, rfl⟩ := hp
  show GW κ 4 0 0 (wM r g iM1 aM1 lM1) 5 [(0, .ref (r 0)), (1, .int a542), (2, .int a543), (3, .int a544)] [.int 0]
  refine g_if_eq (tgt := 21) (a := 0) hk dX12_match_5 (by decide) rfl (fun _ => ?_) (fun z9 => absurd (show (0 : Int) = (0 : Int) from by decide) z9)
  refine g_iconst (v := (-1)) hk dX12_match_21 (by decide) ?_
  exact g_iret hk hR rfl ⟨rfl, rfl⟩ dX12_match_22
def wo_m175_X12_within : List Cond := [Cond.methodLink RX12 251 yX12_isQuery, Cond.instanceMethod yX12_isQuery, Cond.selects RX12 yX12_isQuery yX12_isQuery, Cond.initialized RX12]
def wz_m175_X12_within : List Cond := .code yX12_within cX12_within 5 (some .int) :: (wo_m175_X12_within ++ (wz_m135_X12_isQuery ++ ([] : List Cond)))
theorem zg_m175_X12_within : ∀ w ∈ wz_m175_X12_within, goodWord w = true := zg_cons rfl (zg_app (by decide +kernel) (zg_app zg_m135_X12_isQuery zg_nil))
theorem zi_m175_X12_within : ∀ w ∈ wz_m175_X12_within, w ∈ lw_tbl := zi_cons zw_1879 (zi_app (zi_cons zw_1663 (zi_cons zw_1665 (zi_cons zw_67 (zi_cons zw_115 zi_nil)))) (zi_app zi_m135_X12_isQuery zi_nil))
set_option maxHeartbeats 4000000 in
set_option maxRecDepth 100000 in
theorem m175_X12_within (l : Launch) (D : va_G) (zt : Nat × Nat × Nat) (g : Nat → ClassId) (r : Nat → Nat) (a545 : Int32) (a546 : Int32) : GM l D zt (tyM g) yX12_within wz_m175_X12_within ({ frames := 2, cells := 0, slots := 0, locals := 43 } : Room) [.ref (r 0), .int a545, .int a546] (wM r g iM1 aM1 lM1) (fun v _ w' => v = some (.int (-1)) ∧ w' = wM r g iM1 aM1 lM1) 0 0 := by
  refine GM.of (cc := cX12_within) (maxL := 5) (ret := (some .int)) (own := RX12) (lv := [(0, .ref (r 0)), (1, .int a545), (2, .int a546)]) (by decide) rfl rfl (Nat.le_of_ble_eq_true rfl) rfl (fun κ sz hk hR hN => ?_)
  refine g_aload_n hk dX12_within_0 rfl ?_
  refine g_iload_n hk dX12_within_1 rfl ?_
  refine g_callV (n := 1) hk (m135_X12_isQuery l D zt g r a545) (SP.same _) (fun _ h => h) (gi_V (List.mem_cons_of_mem _ (List.mem_append_left _ (List.mem_of_getElem? (i := 0) rfl))) (List.mem_cons_of_mem _ (List.mem_append_left _ (List.mem_of_getElem? (i := 1) rfl))) (List.mem_cons_of_mem _ (List.mem_append_left _ (List.mem_of_getElem? (i := 2) rfl))) (List.mem_cons_of_mem _ (List.mem_append_left _ (List.mem_of_getElem? (i := 3) rfl))) (gi_sub (fun w h => (List.mem_cons_of_mem _ (List.mem_append_right _ (List.mem_append_left _ h)))) zg_m135_X12_isQuery)) rfl rfl rfl (by decide +kernel) ⟨Nat.le_of_ble_eq_true rfl, Nat.le_of_ble_eq_true rfl⟩ 0 rfl rfl rfl rfl (Nat.le_of_ble_eq_true rfl) ⟨Nat.le_of_ble_eq_true rfl, Nat.le_of_ble_eq_true rfl⟩ dX12_within_2 (fun v ty' w' hp hk' => ?_)
  obtain ⟨rfl, rfl⟩ := hp
  show GW κ 5 0 0 (wM r g iM1 aM1 lM1) 5 [(0, .ref (r 0)), (1, .int a545), (2, .int a546)] [.int 0]
  refine g_if_eq (tgt := 12) (a := 0) hk dX12_within_5 (by decide) rfl (fun _ => ?_) (fun z9 => absurd (show (0 : Int) = (0 : Int) from by decide) z9)
  refine g_iconst (v := (-1)) hk dX12_within_12 (by decide) ?_
  exact g_iret hk hR rfl ⟨rfl, rfl⟩ dX12_within_13
def wo_m176_X12_way : List Cond := [Cond.methodLink RX12 342 yX12_isOf, Cond.instanceMethod yX12_isOf, Cond.selects RX12 yX12_isOf yX12_isOf, Cond.initialized RX12]
def wz_m176_X12_way : List Cond := .code yX12_way cX12_way 4 (some .int) :: (wo_m176_X12_way ++ (wz_m169_X12_isOf ++ ([] : List Cond)))
theorem zg_m176_X12_way : ∀ w ∈ wz_m176_X12_way, goodWord w = true := zg_cons rfl (zg_app (by decide +kernel) (zg_app zg_m169_X12_isOf zg_nil))
theorem zi_m176_X12_way : ∀ w ∈ wz_m176_X12_way, w ∈ lw_tbl := zi_cons zw_1831 (zi_app (zi_cons zw_1755 (zi_cons zw_1757 (zi_cons zw_78 (zi_cons zw_115 zi_nil)))) (zi_app zi_m169_X12_isOf zi_nil))
set_option maxHeartbeats 4000000 in
set_option maxRecDepth 100000 in
theorem m176_X12_way (l : Launch) (D : va_G) (zt : Nat × Nat × Nat) (g : Nat → ClassId) (r : Nat → Nat) (a547 : Int32) (a548 : Int32) (a549 : Int32) : GM l D zt (tyM g) yX12_way wz_m176_X12_way ({ frames := 3, cells := 0, slots := 0, locals := 65 } : Room) [.ref (r 0), .int a547, .int a548, .int a549] (wM r g iM1 aM1 lM1) (fun v _ w' => v = some (.int (-1)) ∧ w' = wM r g iM1 aM1 lM1) 0 0 := by
  refine GM.of (cc := cX12_way) (maxL := 4) (ret := (some .int)) (own := RX12) (lv := [(0, .ref (r 0)), (1, .int a547), (2, .int a548), (3, .int a549)]) (by decide) rfl rfl (Nat.le_of_ble_eq_true rfl) rfl (fun κ sz hk hR hN => ?_)
  refine g_aload_n hk dX12_way_0 rfl ?_
  refine g_iload_n hk dX12_way_1 rfl ?_
  refine g_iload_n hk dX12_way_2 rfl ?_
  refine g_callV (n := 2) hk (m169_X12_isOf l D zt g r a547 a548) (SP.same _) (fun _ h => h) (gi_V (List.mem_cons_of_mem _ (List.mem_append_left _ (List.mem_of_getElem? (i := 0) rfl))) (List.mem_cons_of_mem _ (List.mem_append_left _ (List.mem_of_getElem? (i := 1) rfl))) (List.mem_cons_of_mem _ (List.mem_append_left _ (List.mem_of_getElem? (i := 2) rfl))) (List.mem_cons_of_mem _ (List.mem_append_left _ (List.mem_of_getElem? (i := 3) rfl))) (gi_sub (fun w h => (List.mem_cons_of_mem _ (List.mem_append_right _ (List.mem_append_left _ h)))) zg_m169_X12_isOf)) rfl rfl rfl (by decide +kernel) ⟨Nat.le_of_ble_eq_true rfl, Nat.le_of_ble_eq_true rfl⟩ 0 rfl rfl rfl rfl (Nat.le_of_ble_eq_true rfl) ⟨Nat.le_of_ble_eq_true rfl, Nat.le_of_ble_eq_true rfl⟩ dX12_way_3 (fun v ty' w' hp hk' => ?_)
  obtain ⟨rfl, rfl⟩ := hp
  show GW κ 4 0 0 (wM r g iM1 aM1 lM1) 6 [(0, .ref (r 0)), (1, .int a547), (2, .int a548), (3, .int a549)] [.int 0]
  refine g_if_eq (tgt := 14) (a := 0) hk dX12_way_6 (by decide) rfl (fun _ => ?_) (fun z9 => absurd (show (0 : Int) = (0 : Int) from by decide) z9)
  refine g_iconst (v := (-1)) hk dX12_way_14 (by decide) ?_
  exact g_iret hk hR rfl ⟨rfl, rfl⟩ dX12_way_15
def wo_m177_X12_needs : List Cond := [Cond.methodLink RX12 342 yX12_isOf, Cond.instanceMethod yX12_isOf, Cond.selects RX12 yX12_isOf yX12_isOf, Cond.initialized RX12]
def wz_m177_X12_needs : List Cond := .code yX12_needs cX12_needs 6 (some .int) :: (wo_m177_X12_needs ++ (wz_m169_X12_isOf ++ ([] : List Cond)))
theorem zg_m177_X12_needs : ∀ w ∈ wz_m177_X12_needs, goodWord w = true := zg_cons rfl (zg_app (by decide +kernel) (zg_app zg_m169_X12_isOf zg_nil))
theorem zi_m177_X12_needs : ∀ w ∈ wz_m177_X12_needs, w ∈ lw_tbl := zi_cons zw_1855 (zi_app (zi_cons zw_1755 (zi_cons zw_1757 (zi_cons zw_78 (zi_cons zw_115 zi_nil)))) (zi_app zi_m169_X12_isOf zi_nil))
set_option maxHeartbeats 4000000 in
set_option maxRecDepth 100000 in
theorem m177_X12_needs (l : Launch) (D : va_G) (zt : Nat × Nat × Nat) (g : Nat → ClassId) (r : Nat → Nat) (a550 : Int32) (a551 : Int32) : GM l D zt (tyM g) yX12_needs wz_m177_X12_needs ({ frames := 3, cells := 0, slots := 0, locals := 65 } : Room) [.ref (r 0), .int a550, .int a551] (wM r g iM1 aM1 lM1) (fun v _ w' => v = some (.int (-1)) ∧ w' = wM r g iM1 aM1 lM1) 0 0 := by
  refine GM.of (cc := cX12_needs) (maxL := 6) (ret := (some .int)) (own := RX12) (lv := [(0, .ref (r 0)), (1, .int a550), (2, .int a551)]) (by decide) rfl rfl (Nat.le_of_ble_eq_true rfl) rfl (fun κ sz hk hR hN => ?_)
  refine g_aload_n hk dX12_needs_0 rfl ?_
  refine g_iload_n hk dX12_needs_1 rfl ?_
  refine g_iload_n hk dX12_needs_2 rfl ?_
  refine g_callV (n := 2) hk (m169_X12_isOf l D zt g r a550 a551) (SP.same _) (fun _ h => h) (gi_V (List.mem_cons_of_mem _ (List.mem_append_left _ (List.mem_of_getElem? (i := 0) rfl))) (List.mem_cons_of_mem _ (List.mem_append_left _ (List.mem_of_getElem? (i := 1) rfl))) (List.mem_cons_of_mem _ (List.mem_append_left _ (List.mem_of_getElem? (i := 2) rfl))) (List.mem_cons_of_mem _ (List.mem_append_left _ (List.mem_of_getElem? (i := 3) rfl))) (gi_sub (fun w h => (List.mem_cons_of_mem _ (List.mem_append_right _ (List.mem_append_left _ h)))) zg_m169_X12_isOf)) rfl rfl rfl (by decide +kernel) ⟨Nat.le_of_ble_eq_true rfl, Nat.le_of_ble_eq_true rfl⟩ 0 rfl rfl rfl rfl (Nat.le_of_ble_eq_true rfl) ⟨Nat.le_of_ble_eq_true rfl, Nat.le_of_ble_eq_true rfl⟩ dX12_needs_3 (fun v ty' w' hp hk' => ?_)
  obtain ⟨rfl, rfl⟩ := hp
  show GW κ 6 0 0 (wM r g iM1 aM1 lM1) 6 [(0, .ref (r 0)), (1, .int a550), (2, .int a551)] [.int 0]
  refine g_if_ne (tgt := 11) (a := 0) hk dX12_needs_6 (by decide) rfl (fun z9 => absurd z9 (show ¬ ((0 : Int) ≠ (0 : Int)) from by decide)) (fun _ => ?_)
  refine g_iconst (v := (-1)) hk dX12_needs_9 (by decide) ?_
  exact g_iret hk hR rfl ⟨rfl, rfl⟩ dX12_needs_10
def wo_m178_X12_alike : List Cond := [Cond.methodLink RX12 251 yX12_isQuery, Cond.instanceMethod yX12_isQuery, Cond.selects RX12 yX12_isQuery yX12_isQuery, Cond.initialized RX12]
def wz_m178_X12_alike : List Cond := .code yX12_alike cX12_alike 3 (some .int) :: (wo_m178_X12_alike ++ (wz_m135_X12_isQuery ++ ([] : List Cond)))
theorem zg_m178_X12_alike : ∀ w ∈ wz_m178_X12_alike, goodWord w = true := zg_cons rfl (zg_app (by decide +kernel) (zg_app zg_m135_X12_isQuery zg_nil))
theorem zi_m178_X12_alike : ∀ w ∈ wz_m178_X12_alike, w ∈ lw_tbl := zi_cons zw_1827 (zi_app (zi_cons zw_1663 (zi_cons zw_1665 (zi_cons zw_67 (zi_cons zw_115 zi_nil)))) (zi_app zi_m135_X12_isQuery zi_nil))
set_option maxHeartbeats 4000000 in
set_option maxRecDepth 100000 in
theorem m178_X12_alike (l : Launch) (D : va_G) (zt : Nat × Nat × Nat) (g : Nat → ClassId) (r : Nat → Nat) (a552 : Int32) (a553 : Int32) : GM l D zt (tyM g) yX12_alike wz_m178_X12_alike ({ frames := 2, cells := 0, slots := 0, locals := 43 } : Room) [.ref (r 0), .int a552, .int a553] (wM r g iM1 aM1 lM1) (fun v _ w' => v = some (.int (-1)) ∧ w' = wM r g iM1 aM1 lM1) 0 0 := by
  refine GM.of (cc := cX12_alike) (maxL := 3) (ret := (some .int)) (own := RX12) (lv := [(0, .ref (r 0)), (1, .int a552), (2, .int a553)]) (by decide) rfl rfl (Nat.le_of_ble_eq_true rfl) rfl (fun κ sz hk hR hN => ?_)
  refine g_aload_n hk dX12_alike_0 rfl ?_
  refine g_iload_n hk dX12_alike_1 rfl ?_
  refine g_callV (n := 1) hk (m135_X12_isQuery l D zt g r a552) (SP.same _) (fun _ h => h) (gi_V (List.mem_cons_of_mem _ (List.mem_append_left _ (List.mem_of_getElem? (i := 0) rfl))) (List.mem_cons_of_mem _ (List.mem_append_left _ (List.mem_of_getElem? (i := 1) rfl))) (List.mem_cons_of_mem _ (List.mem_append_left _ (List.mem_of_getElem? (i := 2) rfl))) (List.mem_cons_of_mem _ (List.mem_append_left _ (List.mem_of_getElem? (i := 3) rfl))) (gi_sub (fun w h => (List.mem_cons_of_mem _ (List.mem_append_right _ (List.mem_append_left _ h)))) zg_m135_X12_isQuery)) rfl rfl rfl (by decide +kernel) ⟨Nat.le_of_ble_eq_true rfl, Nat.le_of_ble_eq_true rfl⟩ 0 rfl rfl rfl rfl (Nat.le_of_ble_eq_true rfl) ⟨Nat.le_of_ble_eq_true rfl, Nat.le_of_ble_eq_true rfl⟩ dX12_alike_2 (fun v ty' w' hp hk' => ?_)
  obtain ⟨rfl, rfl⟩ := hp
  show GW κ 3 0 0 (wM r g iM1 aM1 lM1) 5 [(0, .ref (r 0)), (1, .int a552), (2, .int a553)] [.int 0]
  refine g_if_eq (tgt := 16) (a := 0) hk dX12_alike_5 (by decide) rfl (fun _ => ?_) (fun z9 => absurd (show (0 : Int) = (0 : Int) from by decide) z9)
  refine g_iconst (v := (-1)) hk dX12_alike_16 (by decide) ?_
  exact g_iret hk hR rfl ⟨rfl, rfl⟩ dX12_alike_17
def wo_m179_X12_near : List Cond := [Cond.methodLink RX12 244 yX12_in, Cond.static yX12_in, Cond.initialized RX12, Cond.methodLink RX12 257 yX12_isWindow, Cond.instanceMethod yX12_isWindow, Cond.selects RX12 yX12_isWindow yX12_isWindow]
def wz_m179_X12_near : List Cond := .code yX12_near cX12_near 5 (some .int) :: (wo_m179_X12_near ++ (wz_m166_X12_in ++ (wz_m167_X12_isWindow ++ ([] : List Cond))))
theorem zg_m179_X12_near : ∀ w ∈ wz_m179_X12_near, goodWord w = true := zg_cons rfl (zg_app (by decide +kernel) (zg_app zg_m166_X12_in (zg_app zg_m167_X12_isWindow zg_nil)))
theorem zi_m179_X12_near : ∀ w ∈ wz_m179_X12_near, w ∈ lw_tbl := zi_cons zw_1918 (zi_app (zi_cons zw_1656 (zi_cons zw_1657 (zi_cons zw_115 (zi_cons zw_1714 (zi_cons zw_1716 (zi_cons zw_72 zi_nil)))))) (zi_app zi_m166_X12_in (zi_app zi_m167_X12_isWindow zi_nil)))
set_option maxHeartbeats 4000000 in
set_option maxRecDepth 100000 in
theorem m179_X12_near (l : Launch) (D : va_G) (zt : Nat × Nat × Nat) (g : Nat → ClassId) (r : Nat → Nat) (a554 : Int32) (a555 : Int32) (a556 : Int32) : GM l D zt (tyM g) yX12_near wz_m179_X12_near ({ frames := 1, cells := 0, slots := 0, locals := 23 } : Room) [.ref (r 0), .int a554, .int a555, .int a556] (wM r g iM1 aM1 lM1) (fun v _ w' => v = some (.int (-1)) ∧ w' = wM r g iM1 aM1 lM1) 0 0 := by
  refine GM.of (cc := cX12_near) (maxL := 5) (ret := (some .int)) (own := RX12) (lv := [(0, .ref (r 0)), (1, .int a554), (2, .int a555), (3, .int a556)]) (by decide) rfl rfl (Nat.le_of_ble_eq_true rfl) rfl (fun κ sz hk hR hN => ?_)
  refine g_iload_n hk dX12_near_0 rfl ?_
  refine g_iconst (v := 2) hk dX12_near_1 (by decide) ?_
  refine g_bipush (v := 16) hk dX12_near_2 (by decide) ?_
  refine g_callS (n := 3) hk (m166_X12_in l D zt g r a555) (SP.same _) (fun _ h => h) (gi_S (List.mem_cons_of_mem _ (List.mem_append_left _ (List.mem_of_getElem? (i := 0) rfl))) (List.mem_cons_of_mem _ (List.mem_append_left _ (List.mem_of_getElem? (i := 1) rfl))) (List.mem_cons_of_mem _ (List.mem_append_left _ (List.mem_of_getElem? (i := 2) rfl))) (gi_sub (fun w h => (List.mem_cons_of_mem _ (List.mem_append_right _ (List.mem_append_left _ h)))) zg_m166_X12_in)) rfl rfl rfl (by decide +kernel) ⟨Nat.le_of_ble_eq_true rfl, Nat.le_of_ble_eq_true rfl⟩ rfl rfl (Nat.le_of_ble_eq_true rfl) ⟨Nat.le_of_ble_eq_true rfl, Nat.le_of_ble_eq_true rfl⟩ dX12_near_4 (fun v ty' w' hp hk' => ?_)
  rcases hp with ⟨c557, rfl, rfl⟩ | ⟨c558, c559, rfl, rfl⟩ | ⟨c560, c561, rfl, rfl⟩
  · show GW κ 5 0 0 (wM r g iM1 aM1 lM1) 7 [(0, .ref (r 0)), (1, .int a554), (2, .int a555), (3, .int a556)] [.int 0]
    refine g_if_eq (tgt := 28) (a := 0) hk dX12_near_7 (by decide) rfl (fun _ => ?_) (fun z9 => absurd (show (0 : Int) = (0 : Int) from by decide) z9)
    refine g_iconst (v := (-1)) hk dX12_near_28 (by decide) ?_
    exact g_iret hk hR rfl ⟨rfl, rfl⟩ dX12_near_29
  · show GW κ 5 0 0 (wM r g iM1 aM1 lM1) 7 [(0, .ref (r 0)), (1, .int a554), (2, .int a555), (3, .int a556)] [.int 0]
    refine g_if_eq (tgt := 28) (a := 0) hk dX12_near_7 (by decide) rfl (fun _ => ?_) (fun z9 => absurd (show (0 : Int) = (0 : Int) from by decide) z9)
    refine g_iconst (v := (-1)) hk dX12_near_28 (by decide) ?_
    exact g_iret hk hR rfl ⟨rfl, rfl⟩ dX12_near_29
  · show GW κ 5 0 0 (wM r g iM1 aM1 lM1) 7 [(0, .ref (r 0)), (1, .int a554), (2, .int a555), (3, .int a556)] [.int 1]
    refine g_if_eq (tgt := 28) (a := 1) hk dX12_near_7 (by decide) rfl (fun z9 => absurd z9 (show ¬ ((1 : Int) = (0 : Int)) from by decide)) (fun _ => ?_)
    refine g_aload_n hk dX12_near_10 rfl ?_
    refine g_iload_n hk dX12_near_11 rfl ?_
    refine g_iload_n hk dX12_near_12 rfl ?_
    refine g_callV (n := 2) hk (m167_X12_isWindow l D zt g r a554 a555 (by omega) (by omega)) (SP.same _) (fun _ h => h) (gi_V (List.mem_cons_of_mem _ (List.mem_append_left _ (List.mem_of_getElem? (i := 3) rfl))) (List.mem_cons_of_mem _ (List.mem_append_left _ (List.mem_of_getElem? (i := 4) rfl))) (List.mem_cons_of_mem _ (List.mem_append_left _ (List.mem_of_getElem? (i := 5) rfl))) (List.mem_cons_of_mem _ (List.mem_append_left _ (List.mem_of_getElem? (i := 2) rfl))) (gi_sub (fun w h => (List.mem_cons_of_mem _ (List.mem_append_right _ (List.mem_append_right _ (List.mem_append_left _ h))))) zg_m167_X12_isWindow)) rfl rfl rfl (by decide +kernel) ⟨Nat.le_of_ble_eq_true rfl, Nat.le_of_ble_eq_true rfl⟩ 0 rfl rfl rfl rfl (Nat.le_of_ble_eq_true rfl) ⟨Nat.le_of_ble_eq_true rfl, Nat.le_of_ble_eq_true rfl⟩ dX12_near_13 (fun v ty' w' hp hk' => ?_)
    obtain ⟨rfl, rfl⟩ := hp
    show GW κ 5 0 0 (wM r g iM1 aM1 lM1) 16 [(0, .ref (r 0)), (1, .int a554), (2, .int a555), (3, .int a556)] [.int 0]
    refine g_if_eq (tgt := 28) (a := 0) hk dX12_near_16 (by decide) rfl (fun _ => ?_) (fun z9 => absurd (show (0 : Int) = (0 : Int) from by decide) z9)
    refine g_iconst (v := (-1)) hk dX12_near_28 (by decide) ?_
    exact g_iret hk hR rfl ⟨rfl, rfl⟩ dX12_near_29
def wo_m181_X12_in : List Cond := []
def wz_m181_X12_in : List Cond := .code yX12_in cX12_in 3 (some .boolean) :: (wo_m181_X12_in ++ ([] : List Cond))
theorem zg_m181_X12_in : ∀ w ∈ wz_m181_X12_in, goodWord w = true := zg_cons rfl (zg_app (by decide +kernel) zg_nil)
theorem zi_m181_X12_in : ∀ w ∈ wz_m181_X12_in, w ∈ lw_tbl := zi_cons zw_1658 (zi_app zi_nil zi_nil)
set_option maxHeartbeats 4000000 in
set_option maxRecDepth 100000 in
theorem m181_X12_in (l : Launch) (D : va_G) (zt : Nat × Nat × Nat) (g : Nat → ClassId) (r : Nat → Nat) (a569 : Int32) : GM l D zt (tyM g) yX12_in wz_m181_X12_in ({ frames := 0, cells := 0, slots := 0, locals := 0 } : Room) [.int a569, .int 0, .int 2] (wM r g iM1 aM1 lM1) (fun v _ w' => ((a569.toInt < 0) ∧ v = some (.int 0) ∧ w' = wM r g iM1 aM1 lM1) ∨ ((¬ (a569.toInt < 0)) ∧ (2 < a569.toInt) ∧ v = some (.int 0) ∧ w' = wM r g iM1 aM1 lM1) ∨ ((¬ (a569.toInt < 0)) ∧ (¬ (2 < a569.toInt)) ∧ v = some (.int 1) ∧ w' = wM r g iM1 aM1 lM1)) 0 0 := by
  refine GM.of (cc := cX12_in) (maxL := 3) (ret := (some .boolean)) (own := RX12) (lv := [(0, .int a569), (1, .int 0), (2, .int 2)]) (by decide) rfl rfl (Nat.le_of_ble_eq_true rfl) rfl (fun κ sz hk hR hN => ?_)
  refine g_iload_n hk dX12_in_0 rfl ?_
  refine g_iload_n hk dX12_in_1 rfl ?_
  refine g_icmp_lt (tgt := 14) (a := a569.toInt) (b := 0) hk dX12_in_2 (by decide) rfl rfl (fun c570 => ?_) (fun c570 => ?_)
  · skip
    refine g_iconst (v := 0) hk dX12_in_14 (by decide) ?_
    exact g_iret hk hR rfl (Or.inl ⟨c570, rfl, rfl⟩) dX12_in_15
  · skip
    refine g_iload_n hk dX12_in_5 rfl ?_
    refine g_iload_n hk dX12_in_6 rfl ?_
    refine g_icmp_gt (tgt := 14) (a := a569.toInt) (b := 2) hk dX12_in_7 (by decide) rfl rfl (fun c571 => ?_) (fun c571 => ?_)
    · skip
      refine g_iconst (v := 0) hk dX12_in_14 (by decide) ?_
      exact g_iret hk hR rfl (Or.inr (Or.inl ⟨c570, c571, rfl, rfl⟩)) dX12_in_15
    · skip
      refine g_iconst (v := 1) hk dX12_in_10 (by decide) ?_
      refine g_goto (tgt := 15) hk dX12_in_11 (by decide) ?_
      exact g_iret hk hR rfl (Or.inr (Or.inr (⟨c570, c571, rfl, rfl⟩))) dX12_in_15
def wo_m180_X12_pair : List Cond := [Cond.methodLink RX12 244 yX12_in, Cond.static yX12_in, Cond.initialized RX12, Cond.methodLink RX12 323 yX12_copies, Cond.instanceMethod yX12_copies, Cond.selects RX12 yX12_copies yX12_copies, Cond.fieldLink RX12 70 "WarpDeskModel" "now" "[I"]
def wz_m180_X12_pair : List Cond := .code yX12_pair cX12_pair 9 (some .int) :: (wo_m180_X12_pair ++ (wsX120 ++ (wz_m166_X12_in ++ (wz_m181_X12_in ++ (wz_m139_X12_copies ++ ([] : List Cond))))))
theorem zg_m180_X12_pair : ∀ w ∈ wz_m180_X12_pair, goodWord w = true := zg_cons rfl (zg_app (by decide +kernel) (zg_app zgU_wsX120 (zg_app zg_m166_X12_in (zg_app zg_m181_X12_in (zg_app zg_m139_X12_copies zg_nil)))))
theorem zi_m180_X12_pair : ∀ w ∈ wz_m180_X12_pair, w ∈ lw_tbl := zi_cons zw_1930 (zi_app (zi_cons zw_1656 (zi_cons zw_1657 (zi_cons zw_115 (zi_cons zw_1679 (zi_cons zw_1681 (zi_cons zw_70 (zi_cons zw_1413 zi_nil))))))) (zi_app inX12 (zi_app zi_m166_X12_in (zi_app zi_m181_X12_in (zi_app zi_m139_X12_copies zi_nil)))))
set_option maxHeartbeats 4000000 in
set_option maxRecDepth 100000 in
theorem m180_X12_pair (l : Launch) (D : va_G) (zt : Nat × Nat × Nat) (g : Nat → ClassId) (r : Nat → Nat) (a562 : Int32) (a563 : Int32) : GM l D zt (tyM g) yX12_pair wz_m180_X12_pair ({ frames := 1, cells := 0, slots := 0, locals := 22 } : Room) [.ref (r 0), .int a562, .int a563] (wM r g iM1 aM1 lM1) (fun v _ w' => ((a562.toInt < 2) ∧ v = some (.int (-1)) ∧ w' = wM r g iM1 aM1 lM1) ∨ ((¬ (a562.toInt < 2)) ∧ (16 < a562.toInt) ∧ v = some (.int (-1)) ∧ w' = wM r g iM1 aM1 lM1) ∨ ((¬ (a562.toInt < 2)) ∧ (¬ (16 < a562.toInt)) ∧ (a563.toInt < 0) ∧ v = some (.int (-1)) ∧ w' = wM r g iM1 aM1 lM1) ∨ ((¬ (a562.toInt < 2)) ∧ (¬ (16 < a562.toInt)) ∧ (¬ (a563.toInt < 0)) ∧ (2 < a563.toInt) ∧ v = some (.int (-1)) ∧ w' = wM r g iM1 aM1 lM1) ∨ ((¬ (a562.toInt < 2)) ∧ (¬ (16 < a562.toInt)) ∧ (¬ (a563.toInt < 0)) ∧ (¬ (2 < a563.toInt)) ∧ (a563.toInt ≠ 0) ∧ (a563.toInt ≠ 1) ∧ v = some (.int (-2)) ∧ w' = wM r g iM1 (up2 aM1 18 (cp (aM1 17) (aM1 18) 165)) lM1) ∨ ((¬ (a562.toInt < 2)) ∧ (¬ (16 < a562.toInt)) ∧ (¬ (a563.toInt < 0)) ∧ (¬ (2 < a563.toInt)) ∧ (a563.toInt ≠ 0) ∧ (¬ (a563.toInt ≠ 1)) ∧ v = some (.int (-2)) ∧ w' = wM r g iM1 (up2 aM1 18 (cp (aM1 17) (aM1 18) 165)) lM1) ∨ ((¬ (a562.toInt < 2)) ∧ (¬ (16 < a562.toInt)) ∧ (¬ (a563.toInt < 0)) ∧ (¬ (2 < a563.toInt)) ∧ (¬ (a563.toInt ≠ 0)) ∧ v = some (.int (-2)) ∧ w' = wM r g iM1 (up2 aM1 18 (cp (aM1 17) (aM1 18) 165)) lM1)) 0 0 := by
  refine GM.of (cc := cX12_pair) (maxL := 9) (ret := (some .int)) (own := RX12) (lv := [(0, .ref (r 0)), (1, .int a562), (2, .int a563)]) (by decide) rfl rfl (Nat.le_of_ble_eq_true rfl) rfl (fun κ sz hk hR hN => ?_)
  have hin12 : ∀ w ∈ u_ws RX12 TX12 55, w ∈ wz_m180_X12_pair := fun w h => (List.mem_cons_of_mem _ (List.mem_append_right _ (List.mem_append_left _ h)))
  refine g_iload_n hk dX12_pair_0 rfl ?_
  refine g_iconst (v := 2) hk dX12_pair_1 (by decide) ?_
  refine g_bipush (v := 16) hk dX12_pair_2 (by decide) ?_
  refine g_callS (n := 3) hk (m166_X12_in l D zt g r a562) (SP.same _) (fun _ h => h) (gi_S (List.mem_cons_of_mem _ (List.mem_append_left _ (List.mem_of_getElem? (i := 0) rfl))) (List.mem_cons_of_mem _ (List.mem_append_left _ (List.mem_of_getElem? (i := 1) rfl))) (List.mem_cons_of_mem _ (List.mem_append_left _ (List.mem_of_getElem? (i := 2) rfl))) (gi_sub (fun w h => (List.mem_cons_of_mem _ (List.mem_append_right _ (List.mem_append_right _ (List.mem_append_left _ h))))) zg_m166_X12_in)) rfl rfl rfl (by decide +kernel) ⟨Nat.le_of_ble_eq_true rfl, Nat.le_of_ble_eq_true rfl⟩ rfl rfl (Nat.le_of_ble_eq_true rfl) ⟨Nat.le_of_ble_eq_true rfl, Nat.le_of_ble_eq_true rfl⟩ dX12_pair_4 (fun v ty' w' hp hk' => ?_)
  rcases hp with ⟨c564, rfl, rfl⟩ | ⟨c565, c566, rfl, rfl⟩ | ⟨c567, c568, rfl, rfl⟩
  · show GW κ 9 0 0 (wM r g iM1 aM1 lM1) 7 [(0, .ref (r 0)), (1, .int a562), (2, .int a563)] [.int 0]
    refine g_if_eq (tgt := 19) (a := 0) hk dX12_pair_7 (by decide) rfl (fun _ => ?_) (fun z9 => absurd (show (0 : Int) = (0 : Int) from by decide) z9)
    refine g_iconst (v := (-1)) hk dX12_pair_19 (by decide) ?_
    exact g_iret hk hR rfl (Or.inl ⟨c564, rfl, rfl⟩) dX12_pair_20
  · show GW κ 9 0 0 (wM r g iM1 aM1 lM1) 7 [(0, .ref (r 0)), (1, .int a562), (2, .int a563)] [.int 0]
    refine g_if_eq (tgt := 19) (a := 0) hk dX12_pair_7 (by decide) rfl (fun _ => ?_) (fun z9 => absurd (show (0 : Int) = (0 : Int) from by decide) z9)
    refine g_iconst (v := (-1)) hk dX12_pair_19 (by decide) ?_
    exact g_iret hk hR rfl (Or.inr (Or.inl ⟨c565, c566, rfl, rfl⟩)) dX12_pair_20
  · show GW κ 9 0 0 (wM r g iM1 aM1 lM1) 7 [(0, .ref (r 0)), (1, .int a562), (2, .int a563)] [.int 1]
    refine g_if_eq (tgt := 19) (a := 1) hk dX12_pair_7 (by decide) rfl (fun z9 => absurd z9 (show ¬ ((1 : Int) = (0 : Int)) from by decide)) (fun _ => ?_)
    refine g_iload_n hk dX12_pair_10 rfl ?_
    refine g_iconst (v := 0) hk dX12_pair_11 (by decide) ?_
    refine g_iconst (v := 2) hk dX12_pair_12 (by decide) ?_
    refine g_callS (n := 3) hk (m181_X12_in l D zt g r a563) (SP.same _) (fun _ h => h) (gi_S (List.mem_cons_of_mem _ (List.mem_append_left _ (List.mem_of_getElem? (i := 0) rfl))) (List.mem_cons_of_mem _ (List.mem_append_left _ (List.mem_of_getElem? (i := 1) rfl))) (List.mem_cons_of_mem _ (List.mem_append_left _ (List.mem_of_getElem? (i := 2) rfl))) (gi_sub (fun w h => (List.mem_cons_of_mem _ (List.mem_append_right _ (List.mem_append_right _ (List.mem_append_right _ (List.mem_append_left _ h)))))) zg_m181_X12_in)) rfl rfl rfl (by decide +kernel) ⟨Nat.le_of_ble_eq_true rfl, Nat.le_of_ble_eq_true rfl⟩ rfl rfl (Nat.le_of_ble_eq_true rfl) ⟨Nat.le_of_ble_eq_true rfl, Nat.le_of_ble_eq_true rfl⟩ dX12_pair_13 (fun v ty' w' hp hk' => ?_)
    rcases hp with ⟨c572, rfl, rfl⟩ | ⟨c573, c574, rfl, rfl⟩ | ⟨c575, c576, rfl, rfl⟩
    · show GW κ 9 0 0 (wM r g iM1 aM1 lM1) 16 [(0, .ref (r 0)), (1, .int a562), (2, .int a563)] [.int 0]
      refine g_if_ne (tgt := 21) (a := 0) hk dX12_pair_16 (by decide) rfl (fun z9 => absurd z9 (show ¬ ((0 : Int) ≠ (0 : Int)) from by decide)) (fun _ => ?_)
      refine g_iconst (v := (-1)) hk dX12_pair_19 (by decide) ?_
      exact g_iret hk hR rfl (Or.inr (Or.inr (Or.inl ⟨c567, c568, c572, rfl, rfl⟩))) dX12_pair_20
    · show GW κ 9 0 0 (wM r g iM1 aM1 lM1) 16 [(0, .ref (r 0)), (1, .int a562), (2, .int a563)] [.int 0]
      refine g_if_ne (tgt := 21) (a := 0) hk dX12_pair_16 (by decide) rfl (fun z9 => absurd z9 (show ¬ ((0 : Int) ≠ (0 : Int)) from by decide)) (fun _ => ?_)
      refine g_iconst (v := (-1)) hk dX12_pair_19 (by decide) ?_
      exact g_iret hk hR rfl (Or.inr (Or.inr (Or.inr (Or.inl ⟨c567, c568, c573, c574, rfl, rfl⟩)))) dX12_pair_20
    · show GW κ 9 0 0 (wM r g iM1 aM1 lM1) 16 [(0, .ref (r 0)), (1, .int a562), (2, .int a563)] [.int 1]
      refine g_if_ne (tgt := 21) (a := 1) hk dX12_pair_16 (by decide) rfl (fun _ => ?_) (fun z9 => absurd (show (1 : Int) ≠ (0 : Int) from by decide) z9)
      refine g_aload_n hk dX12_pair_21 rfl ?_
      refine g_callV (n := 0) hk (m139_X12_copies l D zt g r) (SP.same _) (fun _ h => h) (gi_V (List.mem_cons_of_mem _ (List.mem_append_left _ (List.mem_of_getElem? (i := 3) rfl))) (List.mem_cons_of_mem _ (List.mem_append_left _ (List.mem_of_getElem? (i := 4) rfl))) (List.mem_cons_of_mem _ (List.mem_append_left _ (List.mem_of_getElem? (i := 5) rfl))) (List.mem_cons_of_mem _ (List.mem_append_left _ (List.mem_of_getElem? (i := 2) rfl))) (gi_sub (fun w h => (List.mem_cons_of_mem _ (List.mem_append_right _ (List.mem_append_right _ (List.mem_append_right _ (List.mem_append_right _ (List.mem_append_left _ h))))))) zg_m139_X12_copies)) rfl rfl rfl (by decide +kernel) ⟨Nat.le_of_ble_eq_true rfl, Nat.le_of_ble_eq_true rfl⟩ 0 rfl rfl rfl rfl (Nat.le_of_ble_eq_true rfl) ⟨Nat.le_of_ble_eq_true rfl, Nat.le_of_ble_eq_true rfl⟩ dX12_pair_22 (fun v ty' w' hp hk' => ?_)
      obtain ⟨rfl, rfl⟩ := hp
      show GW κ 9 0 0 (wM r g iM1 (up2 aM1 18 (cp (aM1 17) (aM1 18) 165)) lM1) 25 [(0, .ref (r 0)), (1, .int a562), (2, .int a563)] []
      refine g_bipush (v := (-2)) hk dX12_pair_25 (by decide) ?_
      refine g_istore_n (lv' := [(3, .int (-2)), (0, .ref (r 0)), (1, .int a562), (2, .int a563)]) hk dX12_pair_27 (by decide) rfl ?_
      refine g_bipush (v := (-2)) hk dX12_pair_28 (by decide) ?_
      refine g_istore (lv' := [(4, .int (-2)), (3, .int (-2)), (0, .ref (r 0)), (1, .int a562), (2, .int a563)]) hk dX12_pair_30 (by decide) rfl ?_
      refine g_bipush (v := (-2)) hk dX12_pair_32 (by decide) ?_
      refine g_istore (lv' := [(5, .int (-2)), (4, .int (-2)), (3, .int (-2)), (0, .ref (r 0)), (1, .int a562), (2, .int a563)]) hk dX12_pair_34 (by decide) rfl ?_
      refine g_iconst (v := 0) hk dX12_pair_36 (by decide) ?_
      refine g_istore (lv' := [(6, .int 0), (5, .int (-2)), (4, .int (-2)), (3, .int (-2)), (0, .ref (r 0)), (1, .int a562), (2, .int a563)]) hk dX12_pair_37 (by decide) rfl ?_
      refine g_iload hk dX12_pair_39 rfl ?_
      refine g_aload_n hk dX12_pair_41 rfl ?_
      refine gM_r0_35 hk hin12 (List.mem_cons_of_mem _ (List.mem_append_left _ (List.mem_of_getElem? (i := 6) rfl))) dX12_pair_42 ?_
      refine g_iconst (v := 0) hk dX12_pair_45 (by decide) ?_
      refine lM_17 (v := 0) hk (vp_in_iff.mpr ⟨by decide, by decide⟩) rfl dX12_pair_46 ?_
      refine g_icmp_ge (tgt := 148) (a := 0) (b := 0) hk dX12_pair_47 (by decide) rfl rfl (fun _ => ?_) (fun z9 => absurd (show (0 : Int) ≤ (0 : Int) from by decide) z9)
      refine g_iload_n hk dX12_pair_148 rfl ?_
      refine g_if_ne (tgt := 156) (a := a563.toInt) hk dX12_pair_149 (by decide) rfl (fun c577 => ?_) (fun c577 => ?_)
      · skip
        refine g_iload_n hk dX12_pair_156 rfl ?_
        refine g_iconst (v := 1) hk dX12_pair_157 (by decide) ?_
        refine g_icmp_ne (tgt := 166) (a := a563.toInt) (b := 1) hk dX12_pair_158 (by decide) rfl rfl (fun c578 => ?_) (fun c578 => ?_)
        · skip
          refine g_iload hk dX12_pair_166 rfl ?_
          exact g_iret hk hR rfl (Or.inr (Or.inr (Or.inr (Or.inr (Or.inl ⟨c567, c568, c575, c576, c577, c578, rfl, rfl⟩))))) dX12_pair_168
        · skip
          refine g_iload hk dX12_pair_161 rfl ?_
          refine g_goto (tgt := 168) hk dX12_pair_163 (by decide) ?_
          exact g_iret hk hR rfl (Or.inr (Or.inr (Or.inr (Or.inr (Or.inr (Or.inl ⟨c567, c568, c575, c576, c577, c578, rfl, rfl⟩)))))) dX12_pair_168
      · skip
        refine g_iload_n hk dX12_pair_152 rfl ?_
        refine g_goto (tgt := 168) hk dX12_pair_153 (by decide) ?_
        exact g_iret hk hR rfl (Or.inr (Or.inr (Or.inr (Or.inr (Or.inr (Or.inr (⟨c567, c568, c575, c576, c577, rfl, rfl⟩))))))) dX12_pair_168
def wo_m182_X12_odd : List Cond := [Cond.methodLink RX12 244 yX12_in, Cond.static yX12_in, Cond.initialized RX12, Cond.methodLink RX12 323 yX12_copies, Cond.instanceMethod yX12_copies, Cond.selects RX12 yX12_copies yX12_copies, Cond.fieldLink RX12 70 "WarpDeskModel" "now" "[I"]
def wz_m182_X12_odd : List Cond := .code yX12_odd cX12_odd 6 (some .int) :: (wo_m182_X12_odd ++ (wsX120 ++ (wz_m166_X12_in ++ (wz_m156_X12_in ++ (wz_m139_X12_copies ++ ([] : List Cond))))))
theorem zg_m182_X12_odd : ∀ w ∈ wz_m182_X12_odd, goodWord w = true := zg_cons rfl (zg_app (by decide +kernel) (zg_app zgU_wsX120 (zg_app zg_m166_X12_in (zg_app zg_m156_X12_in (zg_app zg_m139_X12_copies zg_nil)))))
theorem zi_m182_X12_odd : ∀ w ∈ wz_m182_X12_odd, w ∈ lw_tbl := zi_cons zw_1934 (zi_app (zi_cons zw_1656 (zi_cons zw_1657 (zi_cons zw_115 (zi_cons zw_1679 (zi_cons zw_1681 (zi_cons zw_70 (zi_cons zw_1413 zi_nil))))))) (zi_app inX12 (zi_app zi_m166_X12_in (zi_app zi_m156_X12_in (zi_app zi_m139_X12_copies zi_nil)))))
set_option maxHeartbeats 4000000 in
set_option maxRecDepth 100000 in
theorem m182_X12_odd (l : Launch) (D : va_G) (zt : Nat × Nat × Nat) (g : Nat → ClassId) (r : Nat → Nat) (a579 : Int32) (a580 : Int32) : GM l D zt (tyM g) yX12_odd wz_m182_X12_odd ({ frames := 1, cells := 0, slots := 0, locals := 22 } : Room) [.ref (r 0), .int a579, .int a580] (wM r g iM1 aM1 lM1) (fun v _ w' => ((a579.toInt < 2) ∧ v = some (.int (-1)) ∧ w' = wM r g iM1 aM1 lM1) ∨ ((¬ (a579.toInt < 2)) ∧ (16 < a579.toInt) ∧ v = some (.int (-1)) ∧ w' = wM r g iM1 aM1 lM1) ∨ ((¬ (a579.toInt < 2)) ∧ (¬ (16 < a579.toInt)) ∧ (a580.toInt < 0) ∧ v = some (.int (-1)) ∧ w' = wM r g iM1 aM1 lM1) ∨ ((¬ (a579.toInt < 2)) ∧ (¬ (16 < a579.toInt)) ∧ (¬ (a580.toInt < 0)) ∧ (1 < a580.toInt) ∧ v = some (.int (-1)) ∧ w' = wM r g iM1 aM1 lM1) ∨ ((¬ (a579.toInt < 2)) ∧ (¬ (16 < a579.toInt)) ∧ (¬ (a580.toInt < 0)) ∧ (¬ (1 < a580.toInt)) ∧ (a580.toInt ≠ 0) ∧ v = some (.int (-2)) ∧ w' = wM r g iM1 (up2 aM1 18 (cp (aM1 17) (aM1 18) 165)) lM1) ∨ ((¬ (a579.toInt < 2)) ∧ (¬ (16 < a579.toInt)) ∧ (¬ (a580.toInt < 0)) ∧ (¬ (1 < a580.toInt)) ∧ (¬ (a580.toInt ≠ 0)) ∧ v = some (.int (-2)) ∧ w' = wM r g iM1 (up2 aM1 18 (cp (aM1 17) (aM1 18) 165)) lM1)) 0 0 := by
  refine GM.of (cc := cX12_odd) (maxL := 6) (ret := (some .int)) (own := RX12) (lv := [(0, .ref (r 0)), (1, .int a579), (2, .int a580)]) (by decide) rfl rfl (Nat.le_of_ble_eq_true rfl) rfl (fun κ sz hk hR hN => ?_)
  have hin12 : ∀ w ∈ u_ws RX12 TX12 55, w ∈ wz_m182_X12_odd := fun w h => (List.mem_cons_of_mem _ (List.mem_append_right _ (List.mem_append_left _ h)))
  refine g_iload_n hk dX12_odd_0 rfl ?_
  refine g_iconst (v := 2) hk dX12_odd_1 (by decide) ?_
  refine g_bipush (v := 16) hk dX12_odd_2 (by decide) ?_
  refine g_callS (n := 3) hk (m166_X12_in l D zt g r a579) (SP.same _) (fun _ h => h) (gi_S (List.mem_cons_of_mem _ (List.mem_append_left _ (List.mem_of_getElem? (i := 0) rfl))) (List.mem_cons_of_mem _ (List.mem_append_left _ (List.mem_of_getElem? (i := 1) rfl))) (List.mem_cons_of_mem _ (List.mem_append_left _ (List.mem_of_getElem? (i := 2) rfl))) (gi_sub (fun w h => (List.mem_cons_of_mem _ (List.mem_append_right _ (List.mem_append_right _ (List.mem_append_left _ h))))) zg_m166_X12_in)) rfl rfl rfl (by decide +kernel) ⟨Nat.le_of_ble_eq_true rfl, Nat.le_of_ble_eq_true rfl⟩ rfl rfl (Nat.le_of_ble_eq_true rfl) ⟨Nat.le_of_ble_eq_true rfl, Nat.le_of_ble_eq_true rfl⟩ dX12_odd_4 (fun v ty' w' hp hk' => ?_)
  rcases hp with ⟨c581, rfl, rfl⟩ | ⟨c582, c583, rfl, rfl⟩ | ⟨c584, c585, rfl, rfl⟩
  · show GW κ 6 0 0 (wM r g iM1 aM1 lM1) 7 [(0, .ref (r 0)), (1, .int a579), (2, .int a580)] [.int 0]
    refine g_if_eq (tgt := 19) (a := 0) hk dX12_odd_7 (by decide) rfl (fun _ => ?_) (fun z9 => absurd (show (0 : Int) = (0 : Int) from by decide) z9)
    refine g_iconst (v := (-1)) hk dX12_odd_19 (by decide) ?_
    exact g_iret hk hR rfl (Or.inl ⟨c581, rfl, rfl⟩) dX12_odd_20
  · show GW κ 6 0 0 (wM r g iM1 aM1 lM1) 7 [(0, .ref (r 0)), (1, .int a579), (2, .int a580)] [.int 0]
    refine g_if_eq (tgt := 19) (a := 0) hk dX12_odd_7 (by decide) rfl (fun _ => ?_) (fun z9 => absurd (show (0 : Int) = (0 : Int) from by decide) z9)
    refine g_iconst (v := (-1)) hk dX12_odd_19 (by decide) ?_
    exact g_iret hk hR rfl (Or.inr (Or.inl ⟨c582, c583, rfl, rfl⟩)) dX12_odd_20
  · show GW κ 6 0 0 (wM r g iM1 aM1 lM1) 7 [(0, .ref (r 0)), (1, .int a579), (2, .int a580)] [.int 1]
    refine g_if_eq (tgt := 19) (a := 1) hk dX12_odd_7 (by decide) rfl (fun z9 => absurd z9 (show ¬ ((1 : Int) = (0 : Int)) from by decide)) (fun _ => ?_)
    refine g_iload_n hk dX12_odd_10 rfl ?_
    refine g_iconst (v := 0) hk dX12_odd_11 (by decide) ?_
    refine g_iconst (v := 1) hk dX12_odd_12 (by decide) ?_
    refine g_callS (n := 3) hk (m156_X12_in l D zt g r a580) (SP.same _) (fun _ h => h) (gi_S (List.mem_cons_of_mem _ (List.mem_append_left _ (List.mem_of_getElem? (i := 0) rfl))) (List.mem_cons_of_mem _ (List.mem_append_left _ (List.mem_of_getElem? (i := 1) rfl))) (List.mem_cons_of_mem _ (List.mem_append_left _ (List.mem_of_getElem? (i := 2) rfl))) (gi_sub (fun w h => (List.mem_cons_of_mem _ (List.mem_append_right _ (List.mem_append_right _ (List.mem_append_right _ (List.mem_append_left _ h)))))) zg_m156_X12_in)) rfl rfl rfl (by decide +kernel) ⟨Nat.le_of_ble_eq_true rfl, Nat.le_of_ble_eq_true rfl⟩ rfl rfl (Nat.le_of_ble_eq_true rfl) ⟨Nat.le_of_ble_eq_true rfl, Nat.le_of_ble_eq_true rfl⟩ dX12_odd_13 (fun v ty' w' hp hk' => ?_)
    rcases hp with ⟨c586, rfl, rfl⟩ | ⟨c587, c588, rfl, rfl⟩ | ⟨c589, c590, rfl, rfl⟩
    · show GW κ 6 0 0 (wM r g iM1 aM1 lM1) 16 [(0, .ref (r 0)), (1, .int a579), (2, .int a580)] [.int 0]
      refine g_if_ne (tgt := 21) (a := 0) hk dX12_odd_16 (by decide) rfl (fun z9 => absurd z9 (show ¬ ((0 : Int) ≠ (0 : Int)) from by decide)) (fun _ => ?_)
      refine g_iconst (v := (-1)) hk dX12_odd_19 (by decide) ?_
      exact g_iret hk hR rfl (Or.inr (Or.inr (Or.inl ⟨c584, c585, c586, rfl, rfl⟩))) dX12_odd_20
    · show GW κ 6 0 0 (wM r g iM1 aM1 lM1) 16 [(0, .ref (r 0)), (1, .int a579), (2, .int a580)] [.int 0]
      refine g_if_ne (tgt := 21) (a := 0) hk dX12_odd_16 (by decide) rfl (fun z9 => absurd z9 (show ¬ ((0 : Int) ≠ (0 : Int)) from by decide)) (fun _ => ?_)
      refine g_iconst (v := (-1)) hk dX12_odd_19 (by decide) ?_
      exact g_iret hk hR rfl (Or.inr (Or.inr (Or.inr (Or.inl ⟨c584, c585, c587, c588, rfl, rfl⟩)))) dX12_odd_20
    · show GW κ 6 0 0 (wM r g iM1 aM1 lM1) 16 [(0, .ref (r 0)), (1, .int a579), (2, .int a580)] [.int 1]
      refine g_if_ne (tgt := 21) (a := 1) hk dX12_odd_16 (by decide) rfl (fun _ => ?_) (fun z9 => absurd (show (1 : Int) ≠ (0 : Int) from by decide) z9)
      refine g_aload_n hk dX12_odd_21 rfl ?_
      refine g_callV (n := 0) hk (m139_X12_copies l D zt g r) (SP.same _) (fun _ h => h) (gi_V (List.mem_cons_of_mem _ (List.mem_append_left _ (List.mem_of_getElem? (i := 3) rfl))) (List.mem_cons_of_mem _ (List.mem_append_left _ (List.mem_of_getElem? (i := 4) rfl))) (List.mem_cons_of_mem _ (List.mem_append_left _ (List.mem_of_getElem? (i := 5) rfl))) (List.mem_cons_of_mem _ (List.mem_append_left _ (List.mem_of_getElem? (i := 2) rfl))) (gi_sub (fun w h => (List.mem_cons_of_mem _ (List.mem_append_right _ (List.mem_append_right _ (List.mem_append_right _ (List.mem_append_right _ (List.mem_append_left _ h))))))) zg_m139_X12_copies)) rfl rfl rfl (by decide +kernel) ⟨Nat.le_of_ble_eq_true rfl, Nat.le_of_ble_eq_true rfl⟩ 0 rfl rfl rfl rfl (Nat.le_of_ble_eq_true rfl) ⟨Nat.le_of_ble_eq_true rfl, Nat.le_of_ble_eq_true rfl⟩ dX12_odd_22 (fun v ty' w' hp hk' => ?_)
      obtain ⟨rfl, rfl⟩ := hp
      show GW κ 6 0 0 (wM r g iM1 (up2 aM1 18 (cp (aM1 17) (aM1 18) 165)) lM1) 25 [(0, .ref (r 0)), (1, .int a579), (2, .int a580)] []
      refine g_bipush (v := (-2)) hk dX12_odd_25 (by decide) ?_
      refine g_istore_n (lv' := [(3, .int (-2)), (0, .ref (r 0)), (1, .int a579), (2, .int a580)]) hk dX12_odd_27 (by decide) rfl ?_
      refine g_bipush (v := (-2)) hk dX12_odd_28 (by decide) ?_
      refine g_istore (lv' := [(4, .int (-2)), (3, .int (-2)), (0, .ref (r 0)), (1, .int a579), (2, .int a580)]) hk dX12_odd_30 (by decide) rfl ?_
      refine g_iconst (v := 0) hk dX12_odd_32 (by decide) ?_
      refine g_istore (lv' := [(5, .int 0), (4, .int (-2)), (3, .int (-2)), (0, .ref (r 0)), (1, .int a579), (2, .int a580)]) hk dX12_odd_33 (by decide) rfl ?_
      refine g_iload hk dX12_odd_35 rfl ?_
      refine g_aload_n hk dX12_odd_37 rfl ?_
      refine gM_r0_35 hk hin12 (List.mem_cons_of_mem _ (List.mem_append_left _ (List.mem_of_getElem? (i := 6) rfl))) dX12_odd_38 ?_
      refine g_iconst (v := 0) hk dX12_odd_41 (by decide) ?_
      refine lM_17 (v := 0) hk (vp_in_iff.mpr ⟨by decide, by decide⟩) rfl dX12_odd_42 ?_
      refine g_icmp_ge (tgt := 93) (a := 0) (b := 0) hk dX12_odd_43 (by decide) rfl rfl (fun _ => ?_) (fun z9 => absurd (show (0 : Int) ≤ (0 : Int) from by decide) z9)
      refine g_iload_n hk dX12_odd_93 rfl ?_
      refine g_if_ne (tgt := 101) (a := a580.toInt) hk dX12_odd_94 (by decide) rfl (fun c591 => ?_) (fun c591 => ?_)
      · skip
        refine g_iload hk dX12_odd_101 rfl ?_
        exact g_iret hk hR rfl (Or.inr (Or.inr (Or.inr (Or.inr (Or.inl ⟨c584, c585, c589, c590, c591, rfl, rfl⟩))))) dX12_odd_103
      · skip
        refine g_iload_n hk dX12_odd_97 rfl ?_
        refine g_goto (tgt := 103) hk dX12_odd_98 (by decide) ?_
        exact g_iret hk hR rfl (Or.inr (Or.inr (Or.inr (Or.inr (Or.inr (⟨c584, c585, c589, c590, c591, rfl, rfl⟩)))))) dX12_odd_103
def wo_m183_X12_cover : List Cond := [Cond.methodLink RX12 251 yX12_isQuery, Cond.instanceMethod yX12_isQuery, Cond.selects RX12 yX12_isQuery yX12_isQuery, Cond.initialized RX12]
def wz_m183_X12_cover : List Cond := .code yX12_cover cX12_cover 7 (some .int) :: (wo_m183_X12_cover ++ (wz_m135_X12_isQuery ++ ([] : List Cond)))
theorem zg_m183_X12_cover : ∀ w ∈ wz_m183_X12_cover, goodWord w = true := zg_cons rfl (zg_app (by decide +kernel) (zg_app zg_m135_X12_isQuery zg_nil))
theorem zi_m183_X12_cover : ∀ w ∈ wz_m183_X12_cover, w ∈ lw_tbl := zi_cons zw_1883 (zi_app (zi_cons zw_1663 (zi_cons zw_1665 (zi_cons zw_67 (zi_cons zw_115 zi_nil)))) (zi_app zi_m135_X12_isQuery zi_nil))
set_option maxHeartbeats 4000000 in
set_option maxRecDepth 100000 in
theorem m183_X12_cover (l : Launch) (D : va_G) (zt : Nat × Nat × Nat) (g : Nat → ClassId) (r : Nat → Nat) (a592 : Int32) (a593 : Int32) : GM l D zt (tyM g) yX12_cover wz_m183_X12_cover ({ frames := 2, cells := 0, slots := 0, locals := 43 } : Room) [.ref (r 0), .int a592, .int a593] (wM r g iM1 aM1 lM1) (fun v _ w' => v = some (.int (-1)) ∧ w' = wM r g iM1 aM1 lM1) 0 0 := by
  refine GM.of (cc := cX12_cover) (maxL := 7) (ret := (some .int)) (own := RX12) (lv := [(0, .ref (r 0)), (1, .int a592), (2, .int a593)]) (by decide) rfl rfl (Nat.le_of_ble_eq_true rfl) rfl (fun κ sz hk hR hN => ?_)
  refine g_aload_n hk dX12_cover_0 rfl ?_
  refine g_iload_n hk dX12_cover_1 rfl ?_
  refine g_callV (n := 1) hk (m135_X12_isQuery l D zt g r a592) (SP.same _) (fun _ h => h) (gi_V (List.mem_cons_of_mem _ (List.mem_append_left _ (List.mem_of_getElem? (i := 0) rfl))) (List.mem_cons_of_mem _ (List.mem_append_left _ (List.mem_of_getElem? (i := 1) rfl))) (List.mem_cons_of_mem _ (List.mem_append_left _ (List.mem_of_getElem? (i := 2) rfl))) (List.mem_cons_of_mem _ (List.mem_append_left _ (List.mem_of_getElem? (i := 3) rfl))) (gi_sub (fun w h => (List.mem_cons_of_mem _ (List.mem_append_right _ (List.mem_append_left _ h)))) zg_m135_X12_isQuery)) rfl rfl rfl (by decide +kernel) ⟨Nat.le_of_ble_eq_true rfl, Nat.le_of_ble_eq_true rfl⟩ 0 rfl rfl rfl rfl (Nat.le_of_ble_eq_true rfl) ⟨Nat.le_of_ble_eq_true rfl, Nat.le_of_ble_eq_true rfl⟩ dX12_cover_2 (fun v ty' w' hp hk' => ?_)
  obtain ⟨rfl, rfl⟩ := hp
  show GW κ 7 0 0 (wM r g iM1 aM1 lM1) 5 [(0, .ref (r 0)), (1, .int a592), (2, .int a593)] [.int 0]
  refine g_if_eq (tgt := 12) (a := 0) hk dX12_cover_5 (by decide) rfl (fun _ => ?_) (fun z9 => absurd (show (0 : Int) = (0 : Int) from by decide) z9)
  refine g_iconst (v := (-1)) hk dX12_cover_12 (by decide) ?_
  exact g_iret hk hR rfl ⟨rfl, rfl⟩ dX12_cover_13
def wo_m184_X12_lean : List Cond := [Cond.methodLink RX12 342 yX12_isOf, Cond.instanceMethod yX12_isOf, Cond.selects RX12 yX12_isOf yX12_isOf, Cond.initialized RX12]
def wz_m184_X12_lean : List Cond := .code yX12_lean cX12_lean 8 (some .int) :: (wo_m184_X12_lean ++ (wz_m169_X12_isOf ++ ([] : List Cond)))
theorem zg_m184_X12_lean : ∀ w ∈ wz_m184_X12_lean, goodWord w = true := zg_cons rfl (zg_app (by decide +kernel) (zg_app zg_m169_X12_isOf zg_nil))
theorem zi_m184_X12_lean : ∀ w ∈ wz_m184_X12_lean, w ∈ lw_tbl := zi_cons zw_1839 (zi_app (zi_cons zw_1755 (zi_cons zw_1757 (zi_cons zw_78 (zi_cons zw_115 zi_nil)))) (zi_app zi_m169_X12_isOf zi_nil))
set_option maxHeartbeats 4000000 in
set_option maxRecDepth 100000 in
theorem m184_X12_lean (l : Launch) (D : va_G) (zt : Nat × Nat × Nat) (g : Nat → ClassId) (r : Nat → Nat) (a594 : Int32) (a595 : Int32) (a596 : Int32) : GM l D zt (tyM g) yX12_lean wz_m184_X12_lean ({ frames := 3, cells := 0, slots := 0, locals := 65 } : Room) [.ref (r 0), .int a594, .int a595, .int a596] (wM r g iM1 aM1 lM1) (fun v _ w' => v = some (.int (-1)) ∧ w' = wM r g iM1 aM1 lM1) 0 0 := by
  refine GM.of (cc := cX12_lean) (maxL := 8) (ret := (some .int)) (own := RX12) (lv := [(0, .ref (r 0)), (1, .int a594), (2, .int a595), (3, .int a596)]) (by decide) rfl rfl (Nat.le_of_ble_eq_true rfl) rfl (fun κ sz hk hR hN => ?_)
  refine g_aload_n hk dX12_lean_0 rfl ?_
  refine g_iload_n hk dX12_lean_1 rfl ?_
  refine g_iload_n hk dX12_lean_2 rfl ?_
  refine g_callV (n := 2) hk (m169_X12_isOf l D zt g r a594 a595) (SP.same _) (fun _ h => h) (gi_V (List.mem_cons_of_mem _ (List.mem_append_left _ (List.mem_of_getElem? (i := 0) rfl))) (List.mem_cons_of_mem _ (List.mem_append_left _ (List.mem_of_getElem? (i := 1) rfl))) (List.mem_cons_of_mem _ (List.mem_append_left _ (List.mem_of_getElem? (i := 2) rfl))) (List.mem_cons_of_mem _ (List.mem_append_left _ (List.mem_of_getElem? (i := 3) rfl))) (gi_sub (fun w h => (List.mem_cons_of_mem _ (List.mem_append_right _ (List.mem_append_left _ h)))) zg_m169_X12_isOf)) rfl rfl rfl (by decide +kernel) ⟨Nat.le_of_ble_eq_true rfl, Nat.le_of_ble_eq_true rfl⟩ 0 rfl rfl rfl rfl (Nat.le_of_ble_eq_true rfl) ⟨Nat.le_of_ble_eq_true rfl, Nat.le_of_ble_eq_true rfl⟩ dX12_lean_3 (fun v ty' w' hp hk' => ?_)
  obtain ⟨rfl, rfl⟩ := hp
  show GW κ 8 0 0 (wM r g iM1 aM1 lM1) 6 [(0, .ref (r 0)), (1, .int a594), (2, .int a595), (3, .int a596)] [.int 0]
  refine g_if_eq (tgt := 18) (a := 0) hk dX12_lean_6 (by decide) rfl (fun _ => ?_) (fun z9 => absurd (show (0 : Int) = (0 : Int) from by decide) z9)
  refine g_iconst (v := (-1)) hk dX12_lean_18 (by decide) ?_
  exact g_iret hk hR rfl ⟨rfl, rfl⟩ dX12_lean_19
def wo_m185_X12_whose : List Cond := [Cond.methodLink RX12 244 yX12_in, Cond.static yX12_in, Cond.initialized RX12, Cond.methodLink RX12 257 yX12_isWindow, Cond.instanceMethod yX12_isWindow, Cond.selects RX12 yX12_isWindow yX12_isWindow]
def wz_m185_X12_whose : List Cond := .code yX12_whose cX12_whose 7 (some .int) :: (wo_m185_X12_whose ++ (wz_m166_X12_in ++ (wz_m167_X12_isWindow ++ ([] : List Cond))))
theorem zg_m185_X12_whose : ∀ w ∈ wz_m185_X12_whose, goodWord w = true := zg_cons rfl (zg_app (by decide +kernel) (zg_app zg_m166_X12_in (zg_app zg_m167_X12_isWindow zg_nil)))
theorem zi_m185_X12_whose : ∀ w ∈ wz_m185_X12_whose, w ∈ lw_tbl := zi_cons zw_1914 (zi_app (zi_cons zw_1656 (zi_cons zw_1657 (zi_cons zw_115 (zi_cons zw_1714 (zi_cons zw_1716 (zi_cons zw_72 zi_nil)))))) (zi_app zi_m166_X12_in (zi_app zi_m167_X12_isWindow zi_nil)))
set_option maxHeartbeats 4000000 in
set_option maxRecDepth 100000 in
theorem m185_X12_whose (l : Launch) (D : va_G) (zt : Nat × Nat × Nat) (g : Nat → ClassId) (r : Nat → Nat) (a597 : Int32) (a598 : Int32) : GM l D zt (tyM g) yX12_whose wz_m185_X12_whose ({ frames := 1, cells := 0, slots := 0, locals := 23 } : Room) [.ref (r 0), .int a597, .int a598] (wM r g iM1 aM1 lM1) (fun v _ w' => v = some (.int (-1)) ∧ w' = wM r g iM1 aM1 lM1) 0 0 := by
  refine GM.of (cc := cX12_whose) (maxL := 7) (ret := (some .int)) (own := RX12) (lv := [(0, .ref (r 0)), (1, .int a597), (2, .int a598)]) (by decide) rfl rfl (Nat.le_of_ble_eq_true rfl) rfl (fun κ sz hk hR hN => ?_)
  refine g_iload_n hk dX12_whose_0 rfl ?_
  refine g_iconst (v := 2) hk dX12_whose_1 (by decide) ?_
  refine g_bipush (v := 16) hk dX12_whose_2 (by decide) ?_
  refine g_callS (n := 3) hk (m166_X12_in l D zt g r a598) (SP.same _) (fun _ h => h) (gi_S (List.mem_cons_of_mem _ (List.mem_append_left _ (List.mem_of_getElem? (i := 0) rfl))) (List.mem_cons_of_mem _ (List.mem_append_left _ (List.mem_of_getElem? (i := 1) rfl))) (List.mem_cons_of_mem _ (List.mem_append_left _ (List.mem_of_getElem? (i := 2) rfl))) (gi_sub (fun w h => (List.mem_cons_of_mem _ (List.mem_append_right _ (List.mem_append_left _ h)))) zg_m166_X12_in)) rfl rfl rfl (by decide +kernel) ⟨Nat.le_of_ble_eq_true rfl, Nat.le_of_ble_eq_true rfl⟩ rfl rfl (Nat.le_of_ble_eq_true rfl) ⟨Nat.le_of_ble_eq_true rfl, Nat.le_of_ble_eq_true rfl⟩ dX12_whose_4 (fun v ty' w' hp hk' => ?_)
  rcases hp with ⟨c599, rfl, rfl⟩ | ⟨c600, c601, rfl, rfl⟩ | ⟨c602, c603, rfl, rfl⟩
  · show GW κ 7 0 0 (wM r g iM1 aM1 lM1) 7 [(0, .ref (r 0)), (1, .int a597), (2, .int a598)] [.int 0]
    refine g_if_eq (tgt := 19) (a := 0) hk dX12_whose_7 (by decide) rfl (fun _ => ?_) (fun z9 => absurd (show (0 : Int) = (0 : Int) from by decide) z9)
    refine g_iconst (v := (-1)) hk dX12_whose_19 (by decide) ?_
    exact g_iret hk hR rfl ⟨rfl, rfl⟩ dX12_whose_20
  · show GW κ 7 0 0 (wM r g iM1 aM1 lM1) 7 [(0, .ref (r 0)), (1, .int a597), (2, .int a598)] [.int 0]
    refine g_if_eq (tgt := 19) (a := 0) hk dX12_whose_7 (by decide) rfl (fun _ => ?_) (fun z9 => absurd (show (0 : Int) = (0 : Int) from by decide) z9)
    refine g_iconst (v := (-1)) hk dX12_whose_19 (by decide) ?_
    exact g_iret hk hR rfl ⟨rfl, rfl⟩ dX12_whose_20
  · show GW κ 7 0 0 (wM r g iM1 aM1 lM1) 7 [(0, .ref (r 0)), (1, .int a597), (2, .int a598)] [.int 1]
    refine g_if_eq (tgt := 19) (a := 1) hk dX12_whose_7 (by decide) rfl (fun z9 => absurd z9 (show ¬ ((1 : Int) = (0 : Int)) from by decide)) (fun _ => ?_)
    refine g_aload_n hk dX12_whose_10 rfl ?_
    refine g_iload_n hk dX12_whose_11 rfl ?_
    refine g_iload_n hk dX12_whose_12 rfl ?_
    refine g_callV (n := 2) hk (m167_X12_isWindow l D zt g r a597 a598 (by omega) (by omega)) (SP.same _) (fun _ h => h) (gi_V (List.mem_cons_of_mem _ (List.mem_append_left _ (List.mem_of_getElem? (i := 3) rfl))) (List.mem_cons_of_mem _ (List.mem_append_left _ (List.mem_of_getElem? (i := 4) rfl))) (List.mem_cons_of_mem _ (List.mem_append_left _ (List.mem_of_getElem? (i := 5) rfl))) (List.mem_cons_of_mem _ (List.mem_append_left _ (List.mem_of_getElem? (i := 2) rfl))) (gi_sub (fun w h => (List.mem_cons_of_mem _ (List.mem_append_right _ (List.mem_append_right _ (List.mem_append_left _ h))))) zg_m167_X12_isWindow)) rfl rfl rfl (by decide +kernel) ⟨Nat.le_of_ble_eq_true rfl, Nat.le_of_ble_eq_true rfl⟩ 0 rfl rfl rfl rfl (Nat.le_of_ble_eq_true rfl) ⟨Nat.le_of_ble_eq_true rfl, Nat.le_of_ble_eq_true rfl⟩ dX12_whose_13 (fun v ty' w' hp hk' => ?_)
    obtain ⟨rfl, rfl⟩ := hp
    show GW κ 7 0 0 (wM r g iM1 aM1 lM1) 16 [(0, .ref (r 0)), (1, .int a597), (2, .int a598)] [.int 0]
    refine g_if_ne (tgt := 21) (a := 0) hk dX12_whose_16 (by decide) rfl (fun z9 => absurd z9 (show ¬ ((0 : Int) ≠ (0 : Int)) from by decide)) (fun _ => ?_)
    refine g_iconst (v := (-1)) hk dX12_whose_19 (by decide) ?_
    exact g_iret hk hR rfl ⟨rfl, rfl⟩ dX12_whose_20
def wo_m186_X12_rank : List Cond := [Cond.methodLink RX12 342 yX12_isOf, Cond.instanceMethod yX12_isOf, Cond.selects RX12 yX12_isOf yX12_isOf, Cond.initialized RX12]
def wz_m186_X12_rank : List Cond := .code yX12_rank cX12_rank 3 (some .int) :: (wo_m186_X12_rank ++ (wz_m169_X12_isOf ++ ([] : List Cond)))
theorem zg_m186_X12_rank : ∀ w ∈ wz_m186_X12_rank, goodWord w = true := zg_cons rfl (zg_app (by decide +kernel) (zg_app zg_m169_X12_isOf zg_nil))
theorem zi_m186_X12_rank : ∀ w ∈ wz_m186_X12_rank, w ∈ lw_tbl := zi_cons zw_1887 (zi_app (zi_cons zw_1755 (zi_cons zw_1757 (zi_cons zw_78 (zi_cons zw_115 zi_nil)))) (zi_app zi_m169_X12_isOf zi_nil))
set_option maxHeartbeats 4000000 in
set_option maxRecDepth 100000 in
theorem m186_X12_rank (l : Launch) (D : va_G) (zt : Nat × Nat × Nat) (g : Nat → ClassId) (r : Nat → Nat) (a604 : Int32) (a605 : Int32) : GM l D zt (tyM g) yX12_rank wz_m186_X12_rank ({ frames := 3, cells := 0, slots := 0, locals := 65 } : Room) [.ref (r 0), .int a604, .int a605] (wM r g iM1 aM1 lM1) (fun v _ w' => v = some (.int (-1)) ∧ w' = wM r g iM1 aM1 lM1) 0 0 := by
  refine GM.of (cc := cX12_rank) (maxL := 3) (ret := (some .int)) (own := RX12) (lv := [(0, .ref (r 0)), (1, .int a604), (2, .int a605)]) (by decide) rfl rfl (Nat.le_of_ble_eq_true rfl) rfl (fun κ sz hk hR hN => ?_)
  refine g_aload_n hk dX12_rank_0 rfl ?_
  refine g_iload_n hk dX12_rank_1 rfl ?_
  refine g_iload_n hk dX12_rank_2 rfl ?_
  refine g_callV (n := 2) hk (m169_X12_isOf l D zt g r a604 a605) (SP.same _) (fun _ h => h) (gi_V (List.mem_cons_of_mem _ (List.mem_append_left _ (List.mem_of_getElem? (i := 0) rfl))) (List.mem_cons_of_mem _ (List.mem_append_left _ (List.mem_of_getElem? (i := 1) rfl))) (List.mem_cons_of_mem _ (List.mem_append_left _ (List.mem_of_getElem? (i := 2) rfl))) (List.mem_cons_of_mem _ (List.mem_append_left _ (List.mem_of_getElem? (i := 3) rfl))) (gi_sub (fun w h => (List.mem_cons_of_mem _ (List.mem_append_right _ (List.mem_append_left _ h)))) zg_m169_X12_isOf)) rfl rfl rfl (by decide +kernel) ⟨Nat.le_of_ble_eq_true rfl, Nat.le_of_ble_eq_true rfl⟩ 0 rfl rfl rfl rfl (Nat.le_of_ble_eq_true rfl) ⟨Nat.le_of_ble_eq_true rfl, Nat.le_of_ble_eq_true rfl⟩ dX12_rank_3 (fun v ty' w' hp hk' => ?_)
  obtain ⟨rfl, rfl⟩ := hp
  show GW κ 3 0 0 (wM r g iM1 aM1 lM1) 6 [(0, .ref (r 0)), (1, .int a604), (2, .int a605)] [.int 0]
  refine g_if_ne (tgt := 11) (a := 0) hk dX12_rank_6 (by decide) rfl (fun z9 => absurd z9 (show ¬ ((0 : Int) ≠ (0 : Int)) from by decide)) (fun _ => ?_)
  refine g_iconst (v := (-1)) hk dX12_rank_9 (by decide) ?_
  exact g_iret hk hR rfl ⟨rfl, rfl⟩ dX12_rank_10
def wo_m187_X12_kth : List Cond := [Cond.methodLink RX12 251 yX12_isQuery, Cond.instanceMethod yX12_isQuery, Cond.selects RX12 yX12_isQuery yX12_isQuery, Cond.initialized RX12]
def wz_m187_X12_kth : List Cond := .code yX12_kth cX12_kth 5 (some .int) :: (wo_m187_X12_kth ++ (wz_m135_X12_isQuery ++ ([] : List Cond)))
theorem zg_m187_X12_kth : ∀ w ∈ wz_m187_X12_kth, goodWord w = true := zg_cons rfl (zg_app (by decide +kernel) (zg_app zg_m135_X12_isQuery zg_nil))
theorem zi_m187_X12_kth : ∀ w ∈ wz_m187_X12_kth, w ∈ lw_tbl := zi_cons zw_1895 (zi_app (zi_cons zw_1663 (zi_cons zw_1665 (zi_cons zw_67 (zi_cons zw_115 zi_nil)))) (zi_app zi_m135_X12_isQuery zi_nil))
set_option maxHeartbeats 4000000 in
set_option maxRecDepth 100000 in
theorem m187_X12_kth (l : Launch) (D : va_G) (zt : Nat × Nat × Nat) (g : Nat → ClassId) (r : Nat → Nat) (a606 : Int32) (a607 : Int32) (a608 : Int32) : GM l D zt (tyM g) yX12_kth wz_m187_X12_kth ({ frames := 2, cells := 0, slots := 0, locals := 43 } : Room) [.ref (r 0), .int a606, .int a607, .int a608] (wM r g iM1 aM1 lM1) (fun v _ w' => v = some (.int (-1)) ∧ w' = wM r g iM1 aM1 lM1) 0 0 := by
  refine GM.of (cc := cX12_kth) (maxL := 5) (ret := (some .int)) (own := RX12) (lv := [(0, .ref (r 0)), (1, .int a606), (2, .int a607), (3, .int a608)]) (by decide) rfl rfl (Nat.le_of_ble_eq_true rfl) rfl (fun κ sz hk hR hN => ?_)
  refine g_aload_n hk dX12_kth_0 rfl ?_
  refine g_iload_n hk dX12_kth_1 rfl ?_
  refine g_callV (n := 1) hk (m135_X12_isQuery l D zt g r a606) (SP.same _) (fun _ h => h) (gi_V (List.mem_cons_of_mem _ (List.mem_append_left _ (List.mem_of_getElem? (i := 0) rfl))) (List.mem_cons_of_mem _ (List.mem_append_left _ (List.mem_of_getElem? (i := 1) rfl))) (List.mem_cons_of_mem _ (List.mem_append_left _ (List.mem_of_getElem? (i := 2) rfl))) (List.mem_cons_of_mem _ (List.mem_append_left _ (List.mem_of_getElem? (i := 3) rfl))) (gi_sub (fun w h => (List.mem_cons_of_mem _ (List.mem_append_right _ (List.mem_append_left _ h)))) zg_m135_X12_isQuery)) rfl rfl rfl (by decide +kernel) ⟨Nat.le_of_ble_eq_true rfl, Nat.le_of_ble_eq_true rfl⟩ 0 rfl rfl rfl rfl (Nat.le_of_ble_eq_true rfl) ⟨Nat.le_of_ble_eq_true rfl, Nat.le_of_ble_eq_true rfl⟩ dX12_kth_2 (fun v ty' w' hp hk' => ?_)
  obtain ⟨rfl, rfl⟩ := hp
  show GW κ 5 0 0 (wM r g iM1 aM1 lM1) 5 [(0, .ref (r 0)), (1, .int a606), (2, .int a607), (3, .int a608)] [.int 0]
  refine g_if_eq (tgt := 21) (a := 0) hk dX12_kth_5 (by decide) rfl (fun _ => ?_) (fun z9 => absurd (show (0 : Int) = (0 : Int) from by decide) z9)
  refine g_iconst (v := (-1)) hk dX12_kth_21 (by decide) ?_
  exact g_iret hk hR rfl ⟨rfl, rfl⟩ dX12_kth_22
def wo_m188_X12_slack : List Cond := [Cond.methodLink RX12 251 yX12_isQuery, Cond.instanceMethod yX12_isQuery, Cond.selects RX12 yX12_isQuery yX12_isQuery, Cond.initialized RX12]
def wz_m188_X12_slack : List Cond := .code yX12_slack cX12_slack 5 (some .int) :: (wo_m188_X12_slack ++ (wz_m135_X12_isQuery ++ ([] : List Cond)))
theorem zg_m188_X12_slack : ∀ w ∈ wz_m188_X12_slack, goodWord w = true := zg_cons rfl (zg_app (by decide +kernel) (zg_app zg_m135_X12_isQuery zg_nil))
theorem zi_m188_X12_slack : ∀ w ∈ wz_m188_X12_slack, w ∈ lw_tbl := zi_cons zw_1899 (zi_app (zi_cons zw_1663 (zi_cons zw_1665 (zi_cons zw_67 (zi_cons zw_115 zi_nil)))) (zi_app zi_m135_X12_isQuery zi_nil))
set_option maxHeartbeats 4000000 in
set_option maxRecDepth 100000 in
theorem m188_X12_slack (l : Launch) (D : va_G) (zt : Nat × Nat × Nat) (g : Nat → ClassId) (r : Nat → Nat) (a609 : Int32) : GM l D zt (tyM g) yX12_slack wz_m188_X12_slack ({ frames := 2, cells := 0, slots := 0, locals := 43 } : Room) [.ref (r 0), .int a609] (wM r g iM1 aM1 lM1) (fun v _ w' => v = some (.int (-1)) ∧ w' = wM r g iM1 aM1 lM1) 0 0 := by
  refine GM.of (cc := cX12_slack) (maxL := 5) (ret := (some .int)) (own := RX12) (lv := [(0, .ref (r 0)), (1, .int a609)]) (by decide) rfl rfl (Nat.le_of_ble_eq_true rfl) rfl (fun κ sz hk hR hN => ?_)
  refine g_aload_n hk dX12_slack_0 rfl ?_
  refine g_iload_n hk dX12_slack_1 rfl ?_
  refine g_callV (n := 1) hk (m135_X12_isQuery l D zt g r a609) (SP.same _) (fun _ h => h) (gi_V (List.mem_cons_of_mem _ (List.mem_append_left _ (List.mem_of_getElem? (i := 0) rfl))) (List.mem_cons_of_mem _ (List.mem_append_left _ (List.mem_of_getElem? (i := 1) rfl))) (List.mem_cons_of_mem _ (List.mem_append_left _ (List.mem_of_getElem? (i := 2) rfl))) (List.mem_cons_of_mem _ (List.mem_append_left _ (List.mem_of_getElem? (i := 3) rfl))) (gi_sub (fun w h => (List.mem_cons_of_mem _ (List.mem_append_right _ (List.mem_append_left _ h)))) zg_m135_X12_isQuery)) rfl rfl rfl (by decide +kernel) ⟨Nat.le_of_ble_eq_true rfl, Nat.le_of_ble_eq_true rfl⟩ 0 rfl rfl rfl rfl (Nat.le_of_ble_eq_true rfl) ⟨Nat.le_of_ble_eq_true rfl, Nat.le_of_ble_eq_true rfl⟩ dX12_slack_2 (fun v ty' w' hp hk' => ?_)
  obtain ⟨rfl, rfl⟩ := hp
  show GW κ 5 0 0 (wM r g iM1 aM1 lM1) 5 [(0, .ref (r 0)), (1, .int a609)] [.int 0]
  refine g_if_ne (tgt := 10) (a := 0) hk dX12_slack_5 (by decide) rfl (fun z9 => absurd z9 (show ¬ ((0 : Int) ≠ (0 : Int)) from by decide)) (fun _ => ?_)
  refine g_iconst (v := (-1)) hk dX12_slack_8 (by decide) ?_
  exact g_iret hk hR rfl ⟨rfl, rfl⟩ dX12_slack_9
def wo_m189_X12_turns : List Cond := [Cond.methodLink RX12 251 yX12_isQuery, Cond.instanceMethod yX12_isQuery, Cond.selects RX12 yX12_isQuery yX12_isQuery, Cond.initialized RX12]
def wz_m189_X12_turns : List Cond := .code yX12_turns cX12_turns 6 (some .int) :: (wo_m189_X12_turns ++ (wz_m135_X12_isQuery ++ ([] : List Cond)))
theorem zg_m189_X12_turns : ∀ w ∈ wz_m189_X12_turns, goodWord w = true := zg_cons rfl (zg_app (by decide +kernel) (zg_app zg_m135_X12_isQuery zg_nil))
theorem zi_m189_X12_turns : ∀ w ∈ wz_m189_X12_turns, w ∈ lw_tbl := zi_cons zw_1906 (zi_app (zi_cons zw_1663 (zi_cons zw_1665 (zi_cons zw_67 (zi_cons zw_115 zi_nil)))) (zi_app zi_m135_X12_isQuery zi_nil))
set_option maxHeartbeats 4000000 in
set_option maxRecDepth 100000 in
theorem m189_X12_turns (l : Launch) (D : va_G) (zt : Nat × Nat × Nat) (g : Nat → ClassId) (r : Nat → Nat) (a610 : Int32) : GM l D zt (tyM g) yX12_turns wz_m189_X12_turns ({ frames := 2, cells := 0, slots := 0, locals := 43 } : Room) [.ref (r 0), .int a610] (wM r g iM1 aM1 lM1) (fun v _ w' => v = some (.int (-1)) ∧ w' = wM r g iM1 aM1 lM1) 0 0 := by
  refine GM.of (cc := cX12_turns) (maxL := 6) (ret := (some .int)) (own := RX12) (lv := [(0, .ref (r 0)), (1, .int a610)]) (by decide) rfl rfl (Nat.le_of_ble_eq_true rfl) rfl (fun κ sz hk hR hN => ?_)
  refine g_aload_n hk dX12_turns_0 rfl ?_
  refine g_iload_n hk dX12_turns_1 rfl ?_
  refine g_callV (n := 1) hk (m135_X12_isQuery l D zt g r a610) (SP.same _) (fun _ h => h) (gi_V (List.mem_cons_of_mem _ (List.mem_append_left _ (List.mem_of_getElem? (i := 0) rfl))) (List.mem_cons_of_mem _ (List.mem_append_left _ (List.mem_of_getElem? (i := 1) rfl))) (List.mem_cons_of_mem _ (List.mem_append_left _ (List.mem_of_getElem? (i := 2) rfl))) (List.mem_cons_of_mem _ (List.mem_append_left _ (List.mem_of_getElem? (i := 3) rfl))) (gi_sub (fun w h => (List.mem_cons_of_mem _ (List.mem_append_right _ (List.mem_append_left _ h)))) zg_m135_X12_isQuery)) rfl rfl rfl (by decide +kernel) ⟨Nat.le_of_ble_eq_true rfl, Nat.le_of_ble_eq_true rfl⟩ 0 rfl rfl rfl rfl (Nat.le_of_ble_eq_true rfl) ⟨Nat.le_of_ble_eq_true rfl, Nat.le_of_ble_eq_true rfl⟩ dX12_turns_2 (fun v ty' w' hp hk' => ?_)
  obtain ⟨rfl, rfl⟩ := hp
  show GW κ 6 0 0 (wM r g iM1 aM1 lM1) 5 [(0, .ref (r 0)), (1, .int a610)] [.int 0]
  refine g_if_ne (tgt := 10) (a := 0) hk dX12_turns_5 (by decide) rfl (fun z9 => absurd z9 (show ¬ ((0 : Int) ≠ (0 : Int)) from by decide)) (fun _ => ?_)
  refine g_iconst (v := (-1)) hk dX12_turns_8 (by decide) ?_
  exact g_iret hk hR rfl ⟨rfl, rfl⟩ dX12_turns_9
def wo_m191_X12_in : List Cond := []
def wz_m191_X12_in : List Cond := .code yX12_in cX12_in 3 (some .boolean) :: (wo_m191_X12_in ++ ([] : List Cond))
theorem zg_m191_X12_in : ∀ w ∈ wz_m191_X12_in, goodWord w = true := zg_cons rfl (zg_app (by decide +kernel) zg_nil)
theorem zi_m191_X12_in : ∀ w ∈ wz_m191_X12_in, w ∈ lw_tbl := zi_cons zw_1658 (zi_app zi_nil zi_nil)
set_option maxHeartbeats 4000000 in
set_option maxRecDepth 100000 in
theorem m191_X12_in (l : Launch) (D : va_G) (zt : Nat × Nat × Nat) (g : Nat → ClassId) (r : Nat → Nat) (a612 : Int32) : GM l D zt (tyM g) yX12_in wz_m191_X12_in ({ frames := 0, cells := 0, slots := 0, locals := 0 } : Room) [.int a612, .int 1, .int 160] (wM r g iM1 aM1 lM1) (fun v _ w' => ((a612.toInt < 1) ∧ v = some (.int 0) ∧ w' = wM r g iM1 aM1 lM1) ∨ ((¬ (a612.toInt < 1)) ∧ (160 < a612.toInt) ∧ v = some (.int 0) ∧ w' = wM r g iM1 aM1 lM1) ∨ ((¬ (a612.toInt < 1)) ∧ (¬ (160 < a612.toInt)) ∧ v = some (.int 1) ∧ w' = wM r g iM1 aM1 lM1)) 0 0 := by
  refine GM.of (cc := cX12_in) (maxL := 3) (ret := (some .boolean)) (own := RX12) (lv := [(0, .int a612), (1, .int 1), (2, .int 160)]) (by decide) rfl rfl (Nat.le_of_ble_eq_true rfl) rfl (fun κ sz hk hR hN => ?_)
  refine g_iload_n hk dX12_in_0 rfl ?_
  refine g_iload_n hk dX12_in_1 rfl ?_
  refine g_icmp_lt (tgt := 14) (a := a612.toInt) (b := 1) hk dX12_in_2 (by decide) rfl rfl (fun c613 => ?_) (fun c613 => ?_)
  · skip
    refine g_iconst (v := 0) hk dX12_in_14 (by decide) ?_
    exact g_iret hk hR rfl (Or.inl ⟨c613, rfl, rfl⟩) dX12_in_15
  · skip
    refine g_iload_n hk dX12_in_5 rfl ?_
    refine g_iload_n hk dX12_in_6 rfl ?_
    refine g_icmp_gt (tgt := 14) (a := a612.toInt) (b := 160) hk dX12_in_7 (by decide) rfl rfl (fun c614 => ?_) (fun c614 => ?_)
    · skip
      refine g_iconst (v := 0) hk dX12_in_14 (by decide) ?_
      exact g_iret hk hR rfl (Or.inr (Or.inl ⟨c613, c614, rfl, rfl⟩)) dX12_in_15
    · skip
      refine g_iconst (v := 1) hk dX12_in_10 (by decide) ?_
      refine g_goto (tgt := 15) hk dX12_in_11 (by decide) ?_
      exact g_iret hk hR rfl (Or.inr (Or.inr (⟨c613, c614, rfl, rfl⟩))) dX12_in_15
def wo_m190_X12_flat : List Cond := [Cond.methodLink RX12 244 yX12_in, Cond.static yX12_in, Cond.initialized RX12, Cond.fieldLink RX12 70 "WarpDeskModel" "now" "[I"]
def wz_m190_X12_flat : List Cond := .code yX12_flat cX12_flat 4 (some .int) :: (wo_m190_X12_flat ++ (wsX120 ++ (wz_m191_X12_in ++ ([] : List Cond))))
theorem zg_m190_X12_flat : ∀ w ∈ wz_m190_X12_flat, goodWord w = true := zg_cons rfl (zg_app (by decide +kernel) (zg_app zgU_wsX120 (zg_app zg_m191_X12_in zg_nil)))
theorem zi_m190_X12_flat : ∀ w ∈ wz_m190_X12_flat, w ∈ lw_tbl := zi_cons zw_1746 (zi_app (zi_cons zw_1656 (zi_cons zw_1657 (zi_cons zw_115 (zi_cons zw_1413 zi_nil)))) (zi_app inX12 (zi_app zi_m191_X12_in zi_nil)))
set_option maxHeartbeats 4000000 in
set_option maxRecDepth 100000 in
theorem m190_X12_flat (l : Launch) (D : va_G) (zt : Nat × Nat × Nat) (g : Nat → ClassId) (r : Nat → Nat) (a611 : Int32) : GM l D zt (tyM g) yX12_flat wz_m190_X12_flat ({ frames := 1, cells := 0, slots := 0, locals := 22 } : Room) [.ref (r 0), .int a611] (wM r g iM1 aM1 lM1) (fun v _ w' => ((a611.toInt < 1) ∧ v = some (.int (-1)) ∧ w' = wM r g iM1 aM1 lM1) ∨ ((¬ (a611.toInt < 1)) ∧ (160 < a611.toInt) ∧ v = some (.int (-1)) ∧ w' = wM r g iM1 aM1 lM1) ∨ ((¬ (a611.toInt < 1)) ∧ (¬ (160 < a611.toInt)) ∧ v = some (.int 0) ∧ w' = wM r g iM1 aM1 lM1)) 0 0 := by
  refine GM.of (cc := cX12_flat) (maxL := 4) (ret := (some .int)) (own := RX12) (lv := [(0, .ref (r 0)), (1, .int a611)]) (by decide) rfl rfl (Nat.le_of_ble_eq_true rfl) rfl (fun κ sz hk hR hN => ?_)
  have hin12 : ∀ w ∈ u_ws RX12 TX12 55, w ∈ wz_m190_X12_flat := fun w h => (List.mem_cons_of_mem _ (List.mem_append_right _ (List.mem_append_left _ h)))
  refine g_iload_n hk dX12_flat_0 rfl ?_
  refine g_iconst (v := 1) hk dX12_flat_1 (by decide) ?_
  refine g_sipush (v := 160) hk dX12_flat_2 (by decide) ?_
  refine g_callS (n := 3) hk (m191_X12_in l D zt g r a611) (SP.same _) (fun _ h => h) (gi_S (List.mem_cons_of_mem _ (List.mem_append_left _ (List.mem_of_getElem? (i := 0) rfl))) (List.mem_cons_of_mem _ (List.mem_append_left _ (List.mem_of_getElem? (i := 1) rfl))) (List.mem_cons_of_mem _ (List.mem_append_left _ (List.mem_of_getElem? (i := 2) rfl))) (gi_sub (fun w h => (List.mem_cons_of_mem _ (List.mem_append_right _ (List.mem_append_right _ (List.mem_append_left _ h))))) zg_m191_X12_in)) rfl rfl rfl (by decide +kernel) ⟨Nat.le_of_ble_eq_true rfl, Nat.le_of_ble_eq_true rfl⟩ rfl rfl (Nat.le_of_ble_eq_true rfl) ⟨Nat.le_of_ble_eq_true rfl, Nat.le_of_ble_eq_true rfl⟩ dX12_flat_5 (fun v ty' w' hp hk' => ?_)
  rcases hp with ⟨c615, rfl, rfl⟩ | ⟨c616, c617, rfl, rfl⟩ | ⟨c618, c619, rfl, rfl⟩
  · show GW κ 4 0 0 (wM r g iM1 aM1 lM1) 8 [(0, .ref (r 0)), (1, .int a611)] [.int 0]
    refine g_if_ne (tgt := 13) (a := 0) hk dX12_flat_8 (by decide) rfl (fun z9 => absurd z9 (show ¬ ((0 : Int) ≠ (0 : Int)) from by decide)) (fun _ => ?_)
    refine g_iconst (v := (-1)) hk dX12_flat_11 (by decide) ?_
    exact g_iret hk hR rfl (Or.inl ⟨c615, rfl, rfl⟩) dX12_flat_12
  · show GW κ 4 0 0 (wM r g iM1 aM1 lM1) 8 [(0, .ref (r 0)), (1, .int a611)] [.int 0]
    refine g_if_ne (tgt := 13) (a := 0) hk dX12_flat_8 (by decide) rfl (fun z9 => absurd z9 (show ¬ ((0 : Int) ≠ (0 : Int)) from by decide)) (fun _ => ?_)
    refine g_iconst (v := (-1)) hk dX12_flat_11 (by decide) ?_
    exact g_iret hk hR rfl (Or.inr (Or.inl ⟨c616, c617, rfl, rfl⟩)) dX12_flat_12
  · show GW κ 4 0 0 (wM r g iM1 aM1 lM1) 8 [(0, .ref (r 0)), (1, .int a611)] [.int 1]
    refine g_if_ne (tgt := 13) (a := 1) hk dX12_flat_8 (by decide) rfl (fun _ => ?_) (fun z9 => absurd (show (1 : Int) ≠ (0 : Int) from by decide) z9)
    refine g_iconst (v := 0) hk dX12_flat_13 (by decide) ?_
    refine g_istore_n (lv' := [(2, .int 0), (0, .ref (r 0)), (1, .int a611)]) hk dX12_flat_14 (by decide) rfl ?_
    refine g_iconst (v := 0) hk dX12_flat_15 (by decide) ?_
    refine g_istore_n (lv' := [(3, .int 0), (2, .int 0), (0, .ref (r 0)), (1, .int a611)]) hk dX12_flat_16 (by decide) rfl ?_
    refine g_iload_n hk dX12_flat_17 rfl ?_
    refine g_aload_n hk dX12_flat_18 rfl ?_
    refine gM_r0_35 hk hin12 (List.mem_cons_of_mem _ (List.mem_append_left _ (List.mem_of_getElem? (i := 3) rfl))) dX12_flat_19 ?_
    refine g_iconst (v := 0) hk dX12_flat_22 (by decide) ?_
    refine lM_17 (v := 0) hk (vp_in_iff.mpr ⟨by decide, by decide⟩) rfl dX12_flat_23 ?_
    refine g_icmp_ge (tgt := 60) (a := 0) (b := 0) hk dX12_flat_24 (by decide) rfl rfl (fun _ => ?_) (fun z9 => absurd (show (0 : Int) ≤ (0 : Int) from by decide) z9)
    refine g_iload_n hk dX12_flat_60 rfl ?_
    exact g_iret hk hR rfl (Or.inr (Or.inr (⟨c618, c619, rfl, rfl⟩))) dX12_flat_61
def wo_m192_X12_whole : List Cond := [Cond.methodLink RX12 244 yX12_in, Cond.static yX12_in, Cond.initialized RX12, Cond.fieldLink RX12 70 "WarpDeskModel" "now" "[I"]
def wz_m192_X12_whole : List Cond := .code yX12_whole cX12_whole 6 (some .int) :: (wo_m192_X12_whole ++ (wsX120 ++ (wz_m156_X12_in ++ ([] : List Cond))))
theorem zg_m192_X12_whole : ∀ w ∈ wz_m192_X12_whole, goodWord w = true := zg_cons rfl (zg_app (by decide +kernel) (zg_app zgU_wsX120 (zg_app zg_m156_X12_in zg_nil)))
theorem zi_m192_X12_whole : ∀ w ∈ wz_m192_X12_whole, w ∈ lw_tbl := zi_cons zw_1750 (zi_app (zi_cons zw_1656 (zi_cons zw_1657 (zi_cons zw_115 (zi_cons zw_1413 zi_nil)))) (zi_app inX12 (zi_app zi_m156_X12_in zi_nil)))
set_option maxHeartbeats 4000000 in
set_option maxRecDepth 100000 in
theorem m192_X12_whole (l : Launch) (D : va_G) (zt : Nat × Nat × Nat) (g : Nat → ClassId) (r : Nat → Nat) (a620 : Int32) : GM l D zt (tyM g) yX12_whole wz_m192_X12_whole ({ frames := 1, cells := 0, slots := 0, locals := 22 } : Room) [.ref (r 0), .int a620] (wM r g iM1 aM1 lM1) (fun v _ w' => ((a620.toInt < 0) ∧ v = some (.int (-1)) ∧ w' = wM r g iM1 aM1 lM1) ∨ ((¬ (a620.toInt < 0)) ∧ (1 < a620.toInt) ∧ v = some (.int (-1)) ∧ w' = wM r g iM1 aM1 lM1) ∨ ((¬ (a620.toInt < 0)) ∧ (¬ (1 < a620.toInt)) ∧ (a620.toInt ≠ 0) ∧ v = some (.int (-2)) ∧ w' = wM r g iM1 aM1 lM1) ∨ ((¬ (a620.toInt < 0)) ∧ (¬ (1 < a620.toInt)) ∧ (¬ (a620.toInt ≠ 0)) ∧ v = some (.int (-2)) ∧ w' = wM r g iM1 aM1 lM1)) 0 0 := by
  refine GM.of (cc := cX12_whole) (maxL := 6) (ret := (some .int)) (own := RX12) (lv := [(0, .ref (r 0)), (1, .int a620)]) (by decide) rfl rfl (Nat.le_of_ble_eq_true rfl) rfl (fun κ sz hk hR hN => ?_)
  have hin12 : ∀ w ∈ u_ws RX12 TX12 55, w ∈ wz_m192_X12_whole := fun w h => (List.mem_cons_of_mem _ (List.mem_append_right _ (List.mem_append_left _ h)))
  refine g_iload_n hk dX12_whole_0 rfl ?_
  refine g_iconst (v := 0) hk dX12_whole_1 (by decide) ?_
  refine g_iconst (v := 1) hk dX12_whole_2 (by decide) ?_
  refine g_callS (n := 3) hk (m156_X12_in l D zt g r a620) (SP.same _) (fun _ h => h) (gi_S (List.mem_cons_of_mem _ (List.mem_append_left _ (List.mem_of_getElem? (i := 0) rfl))) (List.mem_cons_of_mem _ (List.mem_append_left _ (List.mem_of_getElem? (i := 1) rfl))) (List.mem_cons_of_mem _ (List.mem_append_left _ (List.mem_of_getElem? (i := 2) rfl))) (gi_sub (fun w h => (List.mem_cons_of_mem _ (List.mem_append_right _ (List.mem_append_right _ (List.mem_append_left _ h))))) zg_m156_X12_in)) rfl rfl rfl (by decide +kernel) ⟨Nat.le_of_ble_eq_true rfl, Nat.le_of_ble_eq_true rfl⟩ rfl rfl (Nat.le_of_ble_eq_true rfl) ⟨Nat.le_of_ble_eq_true rfl, Nat.le_of_ble_eq_true rfl⟩ dX12_whole_3 (fun v ty' w' hp hk' => ?_)
  rcases hp with ⟨c621, rfl, rfl⟩ | ⟨c622, c623, rfl, rfl⟩ | ⟨c624, c625, rfl, rfl⟩
  · show GW κ 6 0 0 (wM r g iM1 aM1 lM1) 6 [(0, .ref (r 0)), (1, .int a620)] [.int 0]
    refine g_if_ne (tgt := 11) (a := 0) hk dX12_whole_6 (by decide) rfl (fun z9 => absurd z9 (show ¬ ((0 : Int) ≠ (0 : Int)) from by decide)) (fun _ => ?_)
    refine g_iconst (v := (-1)) hk dX12_whole_9 (by decide) ?_
    exact g_iret hk hR rfl (Or.inl ⟨c621, rfl, rfl⟩) dX12_whole_10
  · show GW κ 6 0 0 (wM r g iM1 aM1 lM1) 6 [(0, .ref (r 0)), (1, .int a620)] [.int 0]
    refine g_if_ne (tgt := 11) (a := 0) hk dX12_whole_6 (by decide) rfl (fun z9 => absurd z9 (show ¬ ((0 : Int) ≠ (0 : Int)) from by decide)) (fun _ => ?_)
    refine g_iconst (v := (-1)) hk dX12_whole_9 (by decide) ?_
    exact g_iret hk hR rfl (Or.inr (Or.inl ⟨c622, c623, rfl, rfl⟩)) dX12_whole_10
  · show GW κ 6 0 0 (wM r g iM1 aM1 lM1) 6 [(0, .ref (r 0)), (1, .int a620)] [.int 1]
    refine g_if_ne (tgt := 11) (a := 1) hk dX12_whole_6 (by decide) rfl (fun _ => ?_) (fun z9 => absurd (show (1 : Int) ≠ (0 : Int) from by decide) z9)
    refine g_bipush (v := (-2)) hk dX12_whole_11 (by decide) ?_
    refine g_istore_n (lv' := [(2, .int (-2)), (0, .ref (r 0)), (1, .int a620)]) hk dX12_whole_13 (by decide) rfl ?_
    refine g_bipush (v := (-2)) hk dX12_whole_14 (by decide) ?_
    refine g_istore_n (lv' := [(3, .int (-2)), (2, .int (-2)), (0, .ref (r 0)), (1, .int a620)]) hk dX12_whole_16 (by decide) rfl ?_
    refine g_iconst (v := 0) hk dX12_whole_17 (by decide) ?_
    refine g_istore (lv' := [(4, .int 0), (3, .int (-2)), (2, .int (-2)), (0, .ref (r 0)), (1, .int a620)]) hk dX12_whole_18 (by decide) rfl ?_
    refine g_iload hk dX12_whole_20 rfl ?_
    refine g_aload_n hk dX12_whole_22 rfl ?_
    refine gM_r0_35 hk hin12 (List.mem_cons_of_mem _ (List.mem_append_left _ (List.mem_of_getElem? (i := 3) rfl))) dX12_whole_23 ?_
    refine g_iconst (v := 0) hk dX12_whole_26 (by decide) ?_
    refine lM_17 (v := 0) hk (vp_in_iff.mpr ⟨by decide, by decide⟩) rfl dX12_whole_27 ?_
    refine g_icmp_ge (tgt := 78) (a := 0) (b := 0) hk dX12_whole_28 (by decide) rfl rfl (fun _ => ?_) (fun z9 => absurd (show (0 : Int) ≤ (0 : Int) from by decide) z9)
    refine g_iload_n hk dX12_whole_78 rfl ?_
    refine g_if_ne (tgt := 86) (a := a620.toInt) hk dX12_whole_79 (by decide) rfl (fun c626 => ?_) (fun c626 => ?_)
    · skip
      refine g_iload_n hk dX12_whole_86 rfl ?_
      exact g_iret hk hR rfl (Or.inr (Or.inr (Or.inl ⟨c624, c625, c626, rfl, rfl⟩))) dX12_whole_87
    · skip
      refine g_iload_n hk dX12_whole_82 rfl ?_
      refine g_goto (tgt := 87) hk dX12_whole_83 (by decide) ?_
      exact g_iret hk hR rfl (Or.inr (Or.inr (Or.inr (⟨c624, c625, c626, rfl, rfl⟩)))) dX12_whole_87
def wo_m193_X12_fired : List Cond := [Cond.methodLink RX12 323 yX12_copies, Cond.instanceMethod yX12_copies, Cond.selects RX12 yX12_copies yX12_copies, Cond.initialized RX12, Cond.fieldLink RX12 49 "WarpDeskModel" "queries" "[I", Cond.fieldLink RX12 197 "WarpDeskModel" "live" "I"]
def wz_m193_X12_fired : List Cond := .code yX12_fired cX12_fired 5 (some .int) :: (wo_m193_X12_fired ++ (wsX120 ++ (wz_m139_X12_copies ++ ([] : List Cond))))
theorem zg_m193_X12_fired : ∀ w ∈ wz_m193_X12_fired, goodWord w = true := zg_cons rfl (zg_app (by decide +kernel) (zg_app zgU_wsX120 (zg_app zg_m139_X12_copies zg_nil)))
theorem zi_m193_X12_fired : ∀ w ∈ wz_m193_X12_fired, w ∈ lw_tbl := zi_cons zw_1910 (zi_app (zi_cons zw_1679 (zi_cons zw_1681 (zi_cons zw_70 (zi_cons zw_115 (zi_cons zw_1406 (zi_cons zw_1400 zi_nil)))))) (zi_app inX12 (zi_app zi_m139_X12_copies zi_nil)))
set_option maxHeartbeats 4000000 in
set_option maxRecDepth 100000 in
theorem m193_X12_fired (l : Launch) (D : va_G) (zt : Nat × Nat × Nat) (g : Nat → ClassId) (r : Nat → Nat) (a627 : Int32) : GM l D zt (tyM g) yX12_fired wz_m193_X12_fired ({ frames := 1, cells := 0, slots := 0, locals := 21 } : Room) [.ref (r 0), .int a627] (wM r g iM1 aM1 lM1) (fun v _ w' => ((0 ≤ a627.toInt) ∧ v = some (.int 0) ∧ w' = wM r g iM1 (up2 aM1 18 (cp (aM1 17) (aM1 18) 165)) lM1) ∨ ((¬ (0 ≤ a627.toInt)) ∧ v = some (.int (-1)) ∧ w' = wM r g iM1 aM1 lM1)) 0 0 := by
  refine GM.of (cc := cX12_fired) (maxL := 5) (ret := (some .int)) (own := RX12) (lv := [(0, .ref (r 0)), (1, .int a627)]) (by decide) rfl rfl (Nat.le_of_ble_eq_true rfl) rfl (fun κ sz hk hR hN => ?_)
  have hin12 : ∀ w ∈ u_ws RX12 TX12 55, w ∈ wz_m193_X12_fired := fun w h => (List.mem_cons_of_mem _ (List.mem_append_right _ (List.mem_append_left _ h)))
  refine g_iload_n hk dX12_fired_0 rfl ?_
  refine g_if_ge (tgt := 6) (a := a627.toInt) hk dX12_fired_1 (by decide) rfl (fun c628 => ?_) (fun c628 => ?_)
  · skip
    refine g_aload_n hk dX12_fired_6 rfl ?_
    refine g_callV (n := 0) hk (m139_X12_copies l D zt g r) (SP.same _) (fun _ h => h) (gi_V (List.mem_cons_of_mem _ (List.mem_append_left _ (List.mem_of_getElem? (i := 0) rfl))) (List.mem_cons_of_mem _ (List.mem_append_left _ (List.mem_of_getElem? (i := 1) rfl))) (List.mem_cons_of_mem _ (List.mem_append_left _ (List.mem_of_getElem? (i := 2) rfl))) (List.mem_cons_of_mem _ (List.mem_append_left _ (List.mem_of_getElem? (i := 3) rfl))) (gi_sub (fun w h => (List.mem_cons_of_mem _ (List.mem_append_right _ (List.mem_append_right _ (List.mem_append_left _ h))))) zg_m139_X12_copies)) rfl rfl rfl (by decide +kernel) ⟨Nat.le_of_ble_eq_true rfl, Nat.le_of_ble_eq_true rfl⟩ 0 rfl rfl rfl rfl (Nat.le_of_ble_eq_true rfl) ⟨Nat.le_of_ble_eq_true rfl, Nat.le_of_ble_eq_true rfl⟩ dX12_fired_7 (fun v ty' w' hp hk' => ?_)
    obtain ⟨rfl, rfl⟩ := hp
    show GW κ 5 0 0 (wM r g iM1 (up2 aM1 18 (cp (aM1 17) (aM1 18) 165)) lM1) 10 [(0, .ref (r 0)), (1, .int a627)] []
    refine g_iconst (v := 0) hk dX12_fired_10 (by decide) ?_
    refine g_istore_n (lv' := [(2, .int 0), (0, .ref (r 0)), (1, .int a627)]) hk dX12_fired_11 (by decide) rfl ?_
    refine g_iconst (v := 0) hk dX12_fired_12 (by decide) ?_
    refine g_istore_n (lv' := [(3, .int 0), (2, .int 0), (0, .ref (r 0)), (1, .int a627)]) hk dX12_fired_13 (by decide) rfl ?_
    refine g_iload_n hk dX12_fired_14 rfl ?_
    refine g_aload_n hk dX12_fired_15 rfl ?_
    refine gM_r0_28 hk hin12 (List.mem_cons_of_mem _ (List.mem_append_left _ (List.mem_of_getElem? (i := 4) rfl))) dX12_fired_16 ?_
    refine g_aload_n hk dX12_fired_19 rfl ?_
    refine gM_i15 (v := 0) hk hin12 (List.mem_cons_of_mem _ (List.mem_append_left _ (List.mem_of_getElem? (i := 5) rfl))) dX12_fired_20 rfl ?_
    refine lM_10 (v := 0) hk (vp_in_iff.mpr ⟨by decide, by decide⟩) rfl dX12_fired_23 ?_
    refine g_icmp_ge (tgt := 74) (a := 0) (b := 0) hk dX12_fired_24 (by decide) rfl rfl (fun _ => ?_) (fun z9 => absurd (show (0 : Int) ≤ (0 : Int) from by decide) z9)
    refine g_iload_n hk dX12_fired_74 rfl ?_
    exact g_iret hk hR rfl (Or.inl ⟨c628, rfl, rfl⟩) dX12_fired_75
  · skip
    refine g_iconst (v := (-1)) hk dX12_fired_4 (by decide) ?_
    exact g_iret hk hR rfl (Or.inr (⟨c628, rfl, rfl⟩)) dX12_fired_5
def wo_m194_X12_hold : List Cond := [Cond.methodLink RX12 244 yX12_in, Cond.static yX12_in, Cond.initialized RX12, Cond.fieldLink RX12 100 "WarpDeskModel" "isHeld" "[Z", Cond.fieldLink RX12 104 "WarpDeskModel" "heldRows" "[I", Cond.fieldLink RX12 70 "WarpDeskModel" "now" "[I"]
def wz_m194_X12_hold : List Cond := .code yX12_hold cX12_hold 3 (some .boolean) :: (wo_m194_X12_hold ++ (wsX120 ++ (wz_m181_X12_in ++ ([] : List Cond))))
theorem zg_m194_X12_hold : ∀ w ∈ wz_m194_X12_hold, goodWord w = true := zg_cons rfl (zg_app (by decide +kernel) (zg_app zgU_wsX120 (zg_app zg_m181_X12_in zg_nil)))
theorem zi_m194_X12_hold : ∀ w ∈ wz_m194_X12_hold, w ∈ lw_tbl := zi_cons zw_1938 (zi_app (zi_cons zw_1656 (zi_cons zw_1657 (zi_cons zw_115 (zi_cons zw_1431 (zi_cons zw_1432 (zi_cons zw_1413 zi_nil)))))) (zi_app inX12 (zi_app zi_m181_X12_in zi_nil)))
set_option maxHeartbeats 4000000 in
set_option maxRecDepth 100000 in
theorem m194_X12_hold (l : Launch) (D : va_G) (zt : Nat × Nat × Nat) (g : Nat → ClassId) (r : Nat → Nat) (a629 : Int32) : GM l D zt (tyM g) yX12_hold wz_m194_X12_hold ({ frames := 1, cells := 0, slots := 0, locals := 22 } : Room) [.ref (r 0), .int a629] (wM r g iM1 aM1 lM1) (fun v _ w' => ((a629.toInt < 0) ∧ v = some (.int 0) ∧ w' = wM r g iM1 aM1 lM1) ∨ ((¬ (a629.toInt < 0)) ∧ (2 < a629.toInt) ∧ v = some (.int 0) ∧ w' = wM r g iM1 aM1 lM1) ∨ (∃ (F640 : Nat → Int32), (¬ (a629.toInt < 0)) ∧ (¬ (2 < a629.toInt)) ∧ (a629.toInt = 0) ∧ v = some (.int 1) ∧ w' = wM r g iM1 (up2 (up3 aM1 27 0 1) 28 F640) lM1) ∨ (∃ (F648 : Nat → Int32), (¬ (a629.toInt < 0)) ∧ (¬ (2 < a629.toInt)) ∧ (¬ (a629.toInt = 0)) ∧ (a629.toInt = 1) ∧ v = some (.int 1) ∧ w' = wM r g iM1 (up2 (up3 aM1 27 1 1) 28 F648) lM1) ∨ (∃ (F656 : Nat → Int32), (¬ (a629.toInt < 0)) ∧ (¬ (2 < a629.toInt)) ∧ (¬ (a629.toInt = 0)) ∧ (¬ (a629.toInt = 1)) ∧ (a629.toInt = 2) ∧ v = some (.int 1) ∧ w' = wM r g iM1 (up2 (up3 aM1 27 2 1) 28 F656) lM1)) 0 0 := by
  refine GM.of (cc := cX12_hold) (maxL := 3) (ret := (some .boolean)) (own := RX12) (lv := [(0, .ref (r 0)), (1, .int a629)]) (by decide) rfl rfl (Nat.le_of_ble_eq_true rfl) rfl (fun κ sz hk hR hN => ?_)
  have hin12 : ∀ w ∈ u_ws RX12 TX12 55, w ∈ wz_m194_X12_hold := fun w h => (List.mem_cons_of_mem _ (List.mem_append_right _ (List.mem_append_left _ h)))
  refine g_iload_n hk dX12_hold_0 rfl ?_
  refine g_iconst (v := 0) hk dX12_hold_1 (by decide) ?_
  refine g_iconst (v := 2) hk dX12_hold_2 (by decide) ?_
  refine g_callS (n := 3) hk (m181_X12_in l D zt g r a629) (SP.same _) (fun _ h => h) (gi_S (List.mem_cons_of_mem _ (List.mem_append_left _ (List.mem_of_getElem? (i := 0) rfl))) (List.mem_cons_of_mem _ (List.mem_append_left _ (List.mem_of_getElem? (i := 1) rfl))) (List.mem_cons_of_mem _ (List.mem_append_left _ (List.mem_of_getElem? (i := 2) rfl))) (gi_sub (fun w h => (List.mem_cons_of_mem _ (List.mem_append_right _ (List.mem_append_right _ (List.mem_append_left _ h))))) zg_m181_X12_in)) rfl rfl rfl (by decide +kernel) ⟨Nat.le_of_ble_eq_true rfl, Nat.le_of_ble_eq_true rfl⟩ rfl rfl (Nat.le_of_ble_eq_true rfl) ⟨Nat.le_of_ble_eq_true rfl, Nat.le_of_ble_eq_true rfl⟩ dX12_hold_3 (fun v ty' w' hp hk' => ?_)
  rcases hp with ⟨c630, rfl, rfl⟩ | ⟨c631, c632, rfl, rfl⟩ | ⟨c633, c634, rfl, rfl⟩
  · show GW κ 3 0 0 (wM r g iM1 aM1 lM1) 6 [(0, .ref (r 0)), (1, .int a629)] [.int 0]
    refine g_if_ne (tgt := 11) (a := 0) hk dX12_hold_6 (by decide) rfl (fun z9 => absurd z9 (show ¬ ((0 : Int) ≠ (0 : Int)) from by decide)) (fun _ => ?_)
    refine g_iconst (v := 0) hk dX12_hold_9 (by decide) ?_
    exact g_iret hk hR rfl (Or.inl ⟨c630, rfl, rfl⟩) dX12_hold_10
  · show GW κ 3 0 0 (wM r g iM1 aM1 lM1) 6 [(0, .ref (r 0)), (1, .int a629)] [.int 0]
    refine g_if_ne (tgt := 11) (a := 0) hk dX12_hold_6 (by decide) rfl (fun z9 => absurd z9 (show ¬ ((0 : Int) ≠ (0 : Int)) from by decide)) (fun _ => ?_)
    refine g_iconst (v := 0) hk dX12_hold_9 (by decide) ?_
    exact g_iret hk hR rfl (Or.inr (Or.inl ⟨c631, c632, rfl, rfl⟩)) dX12_hold_10
  · show GW κ 3 0 0 (wM r g iM1 aM1 lM1) 6 [(0, .ref (r 0)), (1, .int a629)] [.int 1]
    refine g_if_ne (tgt := 11) (a := 1) hk dX12_hold_6 (by decide) rfl (fun _ => ?_) (fun z9 => absurd (show (1 : Int) ≠ (0 : Int) from by decide) z9)
    refine g_aload_n hk dX12_hold_11 rfl ?_
    refine gM_r0_53 hk hin12 (List.mem_cons_of_mem _ (List.mem_append_left _ (List.mem_of_getElem? (i := 3) rfl))) dX12_hold_12 ?_
    refine g_iload_n hk dX12_hold_15 rfl ?_
    refine g_iconst (v := 1) hk dX12_hold_16 (by decide) ?_
    by_cases c635 : a629.toInt = 0
    · obtain rfl : a629 = 0 := Int32.toInt_inj.mp c635
      refine sM_27 (y := 1) (j := 0) hk (vp_in_iff.mpr ⟨by decide, by decide⟩) (by decide) rfl dX12_hold_17 ?_
      refine g_iconst (v := 0) hk dX12_hold_18 (by decide) ?_
      refine g_istore_n (lv' := [(2, .int 0), (0, .ref (r 0)), (1, .int 0)]) hk dX12_hold_19 (by decide) rfl ?_
      have lp636 : ∀ (n638 k637 : Nat) (F640 : Nat → Int32), k637 + n638 = 165 → GW κ 3 0 0 (wM r g iM1 (up2 (up3 aM1 27 0 1) 28 F640) lM1) 20 [(2, .int (nI k637)), (0, .ref (r 0)), (1, .int 0)] [] := by
        intro n638
        induction n638 with
        | zero =>
          intro k637 F640 hk637
          obtain rfl : k637 = 165 := by omega
          show GW κ 3 0 0 (wM r g iM1 (up2 (up3 aM1 27 0 1) 28 F640) lM1) 20 [(2, .int 165), (0, .ref (r 0)), (1, .int 0)] []
          refine g_iload_n hk dX12_hold_20 rfl ?_
          refine g_sipush (v := 165) hk dX12_hold_21 (by decide) ?_
          refine g_icmp_ge (tgt := 51) (a := 165) (b := 165) hk dX12_hold_24 (by decide) rfl rfl (fun _ => ?_) (fun z9 => absurd (show (165 : Int) ≤ (165 : Int) from by decide) z9)
          refine g_iconst (v := 1) hk dX12_hold_51 (by decide) ?_
          exact g_iret hk hR rfl (Or.inr (Or.inr (Or.inl ⟨F640, c633, c634, c635, rfl, rfl⟩))) dX12_hold_52
        | succ n638 ih =>
          intro k637 F640 hk637
          obtain ⟨x639, ex639⟩ : ∃ x : Int32, x = nI k637 := ⟨_, rfl⟩
          have hx639 : x639.toInt = (k637 : Int) := by rw [ex639]; exact nI_toInt (by omega)
          rw [← ex639]
          refine g_iload_n hk dX12_hold_20 rfl ?_
          refine g_sipush (v := 165) hk dX12_hold_21 (by decide) ?_
          refine g_icmp_ge (tgt := 51) (a := x639.toInt) (b := 165) hk dX12_hold_24 (by decide) rfl rfl (fun z9 => absurd z9 (show ¬ (165 ≤ x639.toInt) from by omega)) (fun _ => ?_)
          refine g_aload_n hk dX12_hold_27 rfl ?_
          refine gM_r0_54 hk hin12 (List.mem_cons_of_mem _ (List.mem_append_left _ (List.mem_of_getElem? (i := 4) rfl))) dX12_hold_28 ?_
          refine g_sipush (v := 165) hk dX12_hold_31 (by decide) ?_
          refine g_iload_n hk dX12_hold_34 rfl ?_
          refine g_imul hk dX12_hold_35 ?_
          refine g_norm (v := 0) (by decide) ?_
          refine g_iload_n hk dX12_hold_36 rfl ?_
          refine g_iadd hk dX12_hold_37 ?_
          refine g_topi (fun y641 ey641 => ?_)
          have fy641 : y641 = nI (0 + k637) := by rw [ey641, ex639]; exact nI_add 0 (k637)
          have hy641 : y641.toInt = ((0 + k637 : Nat) : Int) := by rw [fy641]; exact nI_toInt (by omega)
          refine g_aload_n hk dX12_hold_38 rfl ?_
          refine gM_r0_35 hk hin12 (List.mem_cons_of_mem _ (List.mem_append_left _ (List.mem_of_getElem? (i := 5) rfl))) dX12_hold_39 ?_
          refine g_iload_n hk dX12_hold_42 rfl ?_
          refine lM_17 (v := ((up2 (up3 aM1 27 0 1) 28 F640) 17 (k637))) hk (vp_in_iff.mpr ⟨by omega, by omega⟩) (by rw [ex639, nI_clamp (by omega)]) dX12_hold_43 ?_
          refine sM_28 (j := 0 + k637) hk (vp_in_iff.mpr ⟨by omega, by omega⟩) (by rw [fy641]; exact nI_clamp (by omega)) dX12_hold_44 ?_
          obtain ⟨y642, ey642⟩ : ∃ y : Int32, y = x639 + Int32.ofInt 1 := ⟨_, rfl⟩
          refine g_iinc (v := y642) (lv' := [(2, .int y642), (0, .ref (r 0)), (1, .int 0)]) hk 0 dX12_hold_45 rfl ey642.symm (by decide) rfl ?_
          have fy642 : y642 = nI (k637 + 1) := by rw [ey642, ex639]; exact nI_1 (k637)
          refine g_goto (tgt := 20) hk dX12_hold_48 (by decide) ?_
          rw [fy642]
          exact g_lv (List.forall_mem_cons.mpr ⟨List.mem_of_getElem? (i := 0) rfl, (List.forall_mem_cons.mpr ⟨List.mem_of_getElem? (i := 1) rfl, (List.forall_mem_cons.mpr ⟨List.mem_of_getElem? (i := 2) rfl, (fun _ h => absurd h List.not_mem_nil)⟩)⟩)⟩) (ih (k637 + 1) (upd F640 (0 + k637) ((up2 (up3 aM1 27 0 1) 28 F640) 17 (k637))) (by omega))
      exact lp636 165 0 ((up3 aM1 27 0 1) 28) (by omega)
    by_cases c643 : a629.toInt = 1
    · obtain rfl : a629 = 1 := Int32.toInt_inj.mp c643
      refine sM_27 (y := 1) (j := 1) hk (vp_in_iff.mpr ⟨by decide, by decide⟩) (by decide) rfl dX12_hold_17 ?_
      refine g_iconst (v := 0) hk dX12_hold_18 (by decide) ?_
      refine g_istore_n (lv' := [(2, .int 0), (0, .ref (r 0)), (1, .int 1)]) hk dX12_hold_19 (by decide) rfl ?_
      have lp644 : ∀ (n646 k645 : Nat) (F648 : Nat → Int32), k645 + n646 = 165 → GW κ 3 0 0 (wM r g iM1 (up2 (up3 aM1 27 1 1) 28 F648) lM1) 20 [(2, .int (nI k645)), (0, .ref (r 0)), (1, .int 1)] [] := by
        intro n646
        induction n646 with
        | zero =>
          intro k645 F648 hk645
          obtain rfl : k645 = 165 := by omega
          show GW κ 3 0 0 (wM r g iM1 (up2 (up3 aM1 27 1 1) 28 F648) lM1) 20 [(2, .int 165), (0, .ref (r 0)), (1, .int 1)] []
          refine g_iload_n hk dX12_hold_20 rfl ?_
          refine g_sipush (v := 165) hk dX12_hold_21 (by decide) ?_
          refine g_icmp_ge (tgt := 51) (a := 165) (b := 165) hk dX12_hold_24 (by decide) rfl rfl (fun _ => ?_) (fun z9 => absurd (show (165 : Int) ≤ (165 : Int) from by decide) z9)
          refine g_iconst (v := 1) hk dX12_hold_51 (by decide) ?_
          exact g_iret hk hR rfl (Or.inr (Or.inr (Or.inr (Or.inl ⟨F648, c633, c634, c635, c643, rfl, rfl⟩)))) dX12_hold_52
        | succ n646 ih =>
          intro k645 F648 hk645
          obtain ⟨x647, ex647⟩ : ∃ x : Int32, x = nI k645 := ⟨_, rfl⟩
          have hx647 : x647.toInt = (k645 : Int) := by rw [ex647]; exact nI_toInt (by omega)
          rw [← ex647]
          refine g_iload_n hk dX12_hold_20 rfl ?_
          refine g_sipush (v := 165) hk dX12_hold_21 (by decide) ?_
          refine g_icmp_ge (tgt := 51) (a := x647.toInt) (b := 165) hk dX12_hold_24 (by decide) rfl rfl (fun z9 => absurd z9 (show ¬ (165 ≤ x647.toInt) from by omega)) (fun _ => ?_)
          refine g_aload_n hk dX12_hold_27 rfl ?_
          refine gM_r0_54 hk hin12 (List.mem_cons_of_mem _ (List.mem_append_left _ (List.mem_of_getElem? (i := 4) rfl))) dX12_hold_28 ?_
          refine g_sipush (v := 165) hk dX12_hold_31 (by decide) ?_
          refine g_iload_n hk dX12_hold_34 rfl ?_
          refine g_imul hk dX12_hold_35 ?_
          refine g_norm (v := 165) (by decide) ?_
          refine g_iload_n hk dX12_hold_36 rfl ?_
          refine g_iadd hk dX12_hold_37 ?_
          refine g_topi (fun y649 ey649 => ?_)
          have fy649 : y649 = nI (165 + k645) := by rw [ey649, ex647]; exact nI_add 165 (k645)
          have hy649 : y649.toInt = ((165 + k645 : Nat) : Int) := by rw [fy649]; exact nI_toInt (by omega)
          refine g_aload_n hk dX12_hold_38 rfl ?_
          refine gM_r0_35 hk hin12 (List.mem_cons_of_mem _ (List.mem_append_left _ (List.mem_of_getElem? (i := 5) rfl))) dX12_hold_39 ?_
          refine g_iload_n hk dX12_hold_42 rfl ?_
          refine lM_17 (v := ((up2 (up3 aM1 27 1 1) 28 F648) 17 (k645))) hk (vp_in_iff.mpr ⟨by omega, by omega⟩) (by rw [ex647, nI_clamp (by omega)]) dX12_hold_43 ?_
          refine sM_28 (j := 165 + k645) hk (vp_in_iff.mpr ⟨by omega, by omega⟩) (by rw [fy649]; exact nI_clamp (by omega)) dX12_hold_44 ?_
          obtain ⟨y650, ey650⟩ : ∃ y : Int32, y = x647 + Int32.ofInt 1 := ⟨_, rfl⟩
          refine g_iinc (v := y650) (lv' := [(2, .int y650), (0, .ref (r 0)), (1, .int 1)]) hk 0 dX12_hold_45 rfl ey650.symm (by decide) rfl ?_
          have fy650 : y650 = nI (k645 + 1) := by rw [ey650, ex647]; exact nI_1 (k645)
          refine g_goto (tgt := 20) hk dX12_hold_48 (by decide) ?_
          rw [fy650]
          exact g_lv (List.forall_mem_cons.mpr ⟨List.mem_of_getElem? (i := 0) rfl, (List.forall_mem_cons.mpr ⟨List.mem_of_getElem? (i := 1) rfl, (List.forall_mem_cons.mpr ⟨List.mem_of_getElem? (i := 2) rfl, (fun _ h => absurd h List.not_mem_nil)⟩)⟩)⟩) (ih (k645 + 1) (upd F648 (165 + k645) ((up2 (up3 aM1 27 1 1) 28 F648) 17 (k645))) (by omega))
      exact lp644 165 0 ((up3 aM1 27 1 1) 28) (by omega)
    by_cases c651 : a629.toInt = 2
    · obtain rfl : a629 = 2 := Int32.toInt_inj.mp c651
      refine sM_27 (y := 1) (j := 2) hk (vp_in_iff.mpr ⟨by decide, by decide⟩) (by decide) rfl dX12_hold_17 ?_
      refine g_iconst (v := 0) hk dX12_hold_18 (by decide) ?_
      refine g_istore_n (lv' := [(2, .int 0), (0, .ref (r 0)), (1, .int 2)]) hk dX12_hold_19 (by decide) rfl ?_
      have lp652 : ∀ (n654 k653 : Nat) (F656 : Nat → Int32), k653 + n654 = 165 → GW κ 3 0 0 (wM r g iM1 (up2 (up3 aM1 27 2 1) 28 F656) lM1) 20 [(2, .int (nI k653)), (0, .ref (r 0)), (1, .int 2)] [] := by
        intro n654
        induction n654 with
        | zero =>
          intro k653 F656 hk653
          obtain rfl : k653 = 165 := by omega
          show GW κ 3 0 0 (wM r g iM1 (up2 (up3 aM1 27 2 1) 28 F656) lM1) 20 [(2, .int 165), (0, .ref (r 0)), (1, .int 2)] []
          refine g_iload_n hk dX12_hold_20 rfl ?_
          refine g_sipush (v := 165) hk dX12_hold_21 (by decide) ?_
          refine g_icmp_ge (tgt := 51) (a := 165) (b := 165) hk dX12_hold_24 (by decide) rfl rfl (fun _ => ?_) (fun z9 => absurd (show (165 : Int) ≤ (165 : Int) from by decide) z9)
          refine g_iconst (v := 1) hk dX12_hold_51 (by decide) ?_
          exact g_iret hk hR rfl (Or.inr (Or.inr (Or.inr (Or.inr (⟨F656, c633, c634, c635, c643, c651, rfl, rfl⟩))))) dX12_hold_52
        | succ n654 ih =>
          intro k653 F656 hk653
          obtain ⟨x655, ex655⟩ : ∃ x : Int32, x = nI k653 := ⟨_, rfl⟩
          have hx655 : x655.toInt = (k653 : Int) := by rw [ex655]; exact nI_toInt (by omega)
          rw [← ex655]
          refine g_iload_n hk dX12_hold_20 rfl ?_
          refine g_sipush (v := 165) hk dX12_hold_21 (by decide) ?_
          refine g_icmp_ge (tgt := 51) (a := x655.toInt) (b := 165) hk dX12_hold_24 (by decide) rfl rfl (fun z9 => absurd z9 (show ¬ (165 ≤ x655.toInt) from by omega)) (fun _ => ?_)
          refine g_aload_n hk dX12_hold_27 rfl ?_
          refine gM_r0_54 hk hin12 (List.mem_cons_of_mem _ (List.mem_append_left _ (List.mem_of_getElem? (i := 4) rfl))) dX12_hold_28 ?_
          refine g_sipush (v := 165) hk dX12_hold_31 (by decide) ?_
          refine g_iload_n hk dX12_hold_34 rfl ?_
          refine g_imul hk dX12_hold_35 ?_
          refine g_norm (v := 330) (by decide) ?_
          refine g_iload_n hk dX12_hold_36 rfl ?_
          refine g_iadd hk dX12_hold_37 ?_
          refine g_topi (fun y657 ey657 => ?_)
          have fy657 : y657 = nI (330 + k653) := by rw [ey657, ex655]; exact nI_add 330 (k653)
          have hy657 : y657.toInt = ((330 + k653 : Nat) : Int) := by rw [fy657]; exact nI_toInt (by omega)
          refine g_aload_n hk dX12_hold_38 rfl ?_
          refine gM_r0_35 hk hin12 (List.mem_cons_of_mem _ (List.mem_append_left _ (List.mem_of_getElem? (i := 5) rfl))) dX12_hold_39 ?_
          refine g_iload_n hk dX12_hold_42 rfl ?_
          refine lM_17 (v := ((up2 (up3 aM1 27 2 1) 28 F656) 17 (k653))) hk (vp_in_iff.mpr ⟨by omega, by omega⟩) (by rw [ex655, nI_clamp (by omega)]) dX12_hold_43 ?_
          refine sM_28 (j := 330 + k653) hk (vp_in_iff.mpr ⟨by omega, by omega⟩) (by rw [fy657]; exact nI_clamp (by omega)) dX12_hold_44 ?_
          obtain ⟨y658, ey658⟩ : ∃ y : Int32, y = x655 + Int32.ofInt 1 := ⟨_, rfl⟩
          refine g_iinc (v := y658) (lv' := [(2, .int y658), (0, .ref (r 0)), (1, .int 2)]) hk 0 dX12_hold_45 rfl ey658.symm (by decide) rfl ?_
          have fy658 : y658 = nI (k653 + 1) := by rw [ey658, ex655]; exact nI_1 (k653)
          refine g_goto (tgt := 20) hk dX12_hold_48 (by decide) ?_
          rw [fy658]
          exact g_lv (List.forall_mem_cons.mpr ⟨List.mem_of_getElem? (i := 0) rfl, (List.forall_mem_cons.mpr ⟨List.mem_of_getElem? (i := 1) rfl, (List.forall_mem_cons.mpr ⟨List.mem_of_getElem? (i := 2) rfl, (fun _ h => absurd h List.not_mem_nil)⟩)⟩)⟩) (ih (k653 + 1) (upd F656 (330 + k653) ((up2 (up3 aM1 27 2 1) 28 F656) 17 (k653))) (by omega))
      exact lp652 165 0 ((up3 aM1 27 2 1) 28) (by omega)
    exfalso; omega
def wo_m195_X12_restore : List Cond := [Cond.methodLink RX12 244 yX12_in, Cond.static yX12_in, Cond.initialized RX12, Cond.fieldLink RX12 100 "WarpDeskModel" "isHeld" "[Z"]
def wz_m195_X12_restore : List Cond := .code yX12_restore cX12_restore 3 (some .boolean) :: (wo_m195_X12_restore ++ (wsX120 ++ (wz_m181_X12_in ++ ([] : List Cond))))
theorem zg_m195_X12_restore : ∀ w ∈ wz_m195_X12_restore, goodWord w = true := zg_cons rfl (zg_app (by decide +kernel) (zg_app zgU_wsX120 (zg_app zg_m181_X12_in zg_nil)))
theorem zi_m195_X12_restore : ∀ w ∈ wz_m195_X12_restore, w ∈ lw_tbl := zi_cons zw_1942 (zi_app (zi_cons zw_1656 (zi_cons zw_1657 (zi_cons zw_115 (zi_cons zw_1431 zi_nil)))) (zi_app inX12 (zi_app zi_m181_X12_in zi_nil)))
set_option maxHeartbeats 4000000 in
set_option maxRecDepth 100000 in
theorem m195_X12_restore (l : Launch) (D : va_G) (zt : Nat × Nat × Nat) (g : Nat → ClassId) (r : Nat → Nat) (a659 : Int32) : GM l D zt (tyM g) yX12_restore wz_m195_X12_restore ({ frames := 1, cells := 0, slots := 0, locals := 22 } : Room) [.ref (r 0), .int a659] (wM r g iM1 aM1 lM1) (fun v _ w' => v = some (.int 0) ∧ w' = wM r g iM1 aM1 lM1) 0 0 := by
  refine GM.of (cc := cX12_restore) (maxL := 3) (ret := (some .boolean)) (own := RX12) (lv := [(0, .ref (r 0)), (1, .int a659)]) (by decide) rfl rfl (Nat.le_of_ble_eq_true rfl) rfl (fun κ sz hk hR hN => ?_)
  have hin12 : ∀ w ∈ u_ws RX12 TX12 55, w ∈ wz_m195_X12_restore := fun w h => (List.mem_cons_of_mem _ (List.mem_append_right _ (List.mem_append_left _ h)))
  refine g_iload_n hk dX12_restore_0 rfl ?_
  refine g_iconst (v := 0) hk dX12_restore_1 (by decide) ?_
  refine g_iconst (v := 2) hk dX12_restore_2 (by decide) ?_
  refine g_callS (n := 3) hk (m181_X12_in l D zt g r a659) (SP.same _) (fun _ h => h) (gi_S (List.mem_cons_of_mem _ (List.mem_append_left _ (List.mem_of_getElem? (i := 0) rfl))) (List.mem_cons_of_mem _ (List.mem_append_left _ (List.mem_of_getElem? (i := 1) rfl))) (List.mem_cons_of_mem _ (List.mem_append_left _ (List.mem_of_getElem? (i := 2) rfl))) (gi_sub (fun w h => (List.mem_cons_of_mem _ (List.mem_append_right _ (List.mem_append_right _ (List.mem_append_left _ h))))) zg_m181_X12_in)) rfl rfl rfl (by decide +kernel) ⟨Nat.le_of_ble_eq_true rfl, Nat.le_of_ble_eq_true rfl⟩ rfl rfl (Nat.le_of_ble_eq_true rfl) ⟨Nat.le_of_ble_eq_true rfl, Nat.le_of_ble_eq_true rfl⟩ dX12_restore_3 (fun v ty' w' hp hk' => ?_)
  rcases hp with ⟨c660, rfl, rfl⟩ | ⟨c661, c662, rfl, rfl⟩ | ⟨c663, c664, rfl, rfl⟩
  · show GW κ 3 0 0 (wM r g iM1 aM1 lM1) 6 [(0, .ref (r 0)), (1, .int a659)] [.int 0]
    refine g_if_eq (tgt := 18) (a := 0) hk dX12_restore_6 (by decide) rfl (fun _ => ?_) (fun z9 => absurd (show (0 : Int) = (0 : Int) from by decide) z9)
    refine g_iconst (v := 0) hk dX12_restore_18 (by decide) ?_
    exact g_iret hk hR rfl ⟨rfl, rfl⟩ dX12_restore_19
  · show GW κ 3 0 0 (wM r g iM1 aM1 lM1) 6 [(0, .ref (r 0)), (1, .int a659)] [.int 0]
    refine g_if_eq (tgt := 18) (a := 0) hk dX12_restore_6 (by decide) rfl (fun _ => ?_) (fun z9 => absurd (show (0 : Int) = (0 : Int) from by decide) z9)
    refine g_iconst (v := 0) hk dX12_restore_18 (by decide) ?_
    exact g_iret hk hR rfl ⟨rfl, rfl⟩ dX12_restore_19
  · show GW κ 3 0 0 (wM r g iM1 aM1 lM1) 6 [(0, .ref (r 0)), (1, .int a659)] [.int 1]
    refine g_if_eq (tgt := 18) (a := 1) hk dX12_restore_6 (by decide) rfl (fun z9 => absurd z9 (show ¬ ((1 : Int) = (0 : Int)) from by decide)) (fun _ => ?_)
    refine g_aload_n hk dX12_restore_9 rfl ?_
    refine gM_r0_53 hk hin12 (List.mem_cons_of_mem _ (List.mem_append_left _ (List.mem_of_getElem? (i := 3) rfl))) dX12_restore_10 ?_
    refine g_iload_n hk dX12_restore_13 rfl ?_
    by_cases c665 : a659.toInt = 0
    · obtain rfl : a659 = 0 := Int32.toInt_inj.mp c665
      refine lM_27 (v := 0) hk (vp_in_iff.mpr ⟨by decide, by decide⟩) rfl dX12_restore_14 ?_
      refine g_if_ne (tgt := 20) (a := 0) hk dX12_restore_15 (by decide) rfl (fun z9 => absurd z9 (show ¬ ((0 : Int) ≠ (0 : Int)) from by decide)) (fun _ => ?_)
      refine g_iconst (v := 0) hk dX12_restore_18 (by decide) ?_
      exact g_iret hk hR rfl ⟨rfl, rfl⟩ dX12_restore_19
    by_cases c666 : a659.toInt = 1
    · obtain rfl : a659 = 1 := Int32.toInt_inj.mp c666
      refine lM_27 (v := 0) hk (vp_in_iff.mpr ⟨by decide, by decide⟩) rfl dX12_restore_14 ?_
      refine g_if_ne (tgt := 20) (a := 0) hk dX12_restore_15 (by decide) rfl (fun z9 => absurd z9 (show ¬ ((0 : Int) ≠ (0 : Int)) from by decide)) (fun _ => ?_)
      refine g_iconst (v := 0) hk dX12_restore_18 (by decide) ?_
      exact g_iret hk hR rfl ⟨rfl, rfl⟩ dX12_restore_19
    by_cases c667 : a659.toInt = 2
    · obtain rfl : a659 = 2 := Int32.toInt_inj.mp c667
      refine lM_27 (v := 0) hk (vp_in_iff.mpr ⟨by decide, by decide⟩) rfl dX12_restore_14 ?_
      refine g_if_ne (tgt := 20) (a := 0) hk dX12_restore_15 (by decide) rfl (fun z9 => absurd z9 (show ¬ ((0 : Int) ≠ (0 : Int)) from by decide)) (fun _ => ?_)
      refine g_iconst (v := 0) hk dX12_restore_18 (by decide) ?_
      exact g_iret hk hR rfl ⟨rfl, rfl⟩ dX12_restore_19
    exfalso; omega
def wo_m197_X12_gaps : List Cond := [Cond.fieldLink RX12 70 "WarpDeskModel" "now" "[I"]
def wz_m197_X12_gaps : List Cond := .code yX12_gaps cX12_gaps 3 (some .int) :: (wo_m197_X12_gaps ++ (wsX120 ++ ([] : List Cond)))
theorem zg_m197_X12_gaps : ∀ w ∈ wz_m197_X12_gaps, goodWord w = true := zg_cons rfl (zg_app (by decide +kernel) (zg_app zgU_wsX120 zg_nil))
theorem zi_m197_X12_gaps : ∀ w ∈ wz_m197_X12_gaps, w ∈ lw_tbl := zi_cons zw_1950 (zi_app (zi_cons zw_1413 zi_nil) (zi_app inX12 zi_nil))
set_option maxHeartbeats 4000000 in
set_option maxRecDepth 100000 in
theorem m197_X12_gaps (l : Launch) (D : va_G) (zt : Nat × Nat × Nat) (g : Nat → ClassId) (r : Nat → Nat) : GM l D zt (tyM g) yX12_gaps wz_m197_X12_gaps ({ frames := 0, cells := 0, slots := 0, locals := 0 } : Room) [.ref (r 0)] (wM r g iM1 aM1 lM1) (fun v _ w' => v = some (.int 0) ∧ w' = wM r g iM1 aM1 lM1) 0 0 := by
  refine GM.of (cc := cX12_gaps) (maxL := 3) (ret := (some .int)) (own := RX12) (lv := [(0, .ref (r 0))]) (by decide) rfl rfl (Nat.le_of_ble_eq_true rfl) rfl (fun κ sz hk hR hN => ?_)
  have hin12 : ∀ w ∈ u_ws RX12 TX12 55, w ∈ wz_m197_X12_gaps := fun w h => (List.mem_cons_of_mem _ (List.mem_append_right _ (List.mem_append_left _ h)))
  refine g_iconst (v := 0) hk dX12_gaps_0 (by decide) ?_
  refine g_istore_n (lv' := [(1, .int 0), (0, .ref (r 0))]) hk dX12_gaps_1 (by decide) rfl ?_
  refine g_iconst (v := 0) hk dX12_gaps_2 (by decide) ?_
  refine g_istore_n (lv' := [(2, .int 0), (1, .int 0), (0, .ref (r 0))]) hk dX12_gaps_3 (by decide) rfl ?_
  refine g_iload_n hk dX12_gaps_4 rfl ?_
  refine g_aload_n hk dX12_gaps_5 rfl ?_
  refine gM_r0_35 hk hin12 (List.mem_cons_of_mem _ (List.mem_append_left _ (List.mem_of_getElem? (i := 0) rfl))) dX12_gaps_6 ?_
  refine g_iconst (v := 0) hk dX12_gaps_9 (by decide) ?_
  refine lM_17 (v := 0) hk (vp_in_iff.mpr ⟨by decide, by decide⟩) rfl dX12_gaps_10 ?_
  refine g_icmp_ge (tgt := 31) (a := 0) (b := 0) hk dX12_gaps_11 (by decide) rfl rfl (fun _ => ?_) (fun z9 => absurd (show (0 : Int) ≤ (0 : Int) from by decide) z9)
  refine g_iload_n hk dX12_gaps_31 rfl ?_
  exact g_iret hk hR rfl ⟨rfl, rfl⟩ dX12_gaps_32
def wo_m200_X12_in : List Cond := []
def wz_m200_X12_in : List Cond := .code yX12_in cX12_in 3 (some .boolean) :: (wo_m200_X12_in ++ ([] : List Cond))
theorem zg_m200_X12_in : ∀ w ∈ wz_m200_X12_in, goodWord w = true := zg_cons rfl (zg_app (by decide +kernel) zg_nil)
theorem zi_m200_X12_in : ∀ w ∈ wz_m200_X12_in, w ∈ lw_tbl := zi_cons zw_1658 (zi_app zi_nil zi_nil)
set_option maxHeartbeats 4000000 in
set_option maxRecDepth 100000 in
theorem m200_X12_in (l : Launch) (D : va_G) (zt : Nat × Nat × Nat) (g : Nat → ClassId) (r : Nat → Nat) : GM l D zt (tyM g) yX12_in wz_m200_X12_in ({ frames := 0, cells := 0, slots := 0, locals := 0 } : Room) [.int (-1), .int 0, .int (-1)] (wM r g iM1 aM1 lM1) (fun v _ w' => v = some (.int 0) ∧ w' = wM r g iM1 aM1 lM1) 0 0 := by
  refine GM.of (cc := cX12_in) (maxL := 3) (ret := (some .boolean)) (own := RX12) (lv := [(0, .int (-1)), (1, .int 0), (2, .int (-1))]) (by decide) rfl rfl (Nat.le_of_ble_eq_true rfl) rfl (fun κ sz hk hR hN => ?_)
  refine g_iload_n hk dX12_in_0 rfl ?_
  refine g_iload_n hk dX12_in_1 rfl ?_
  refine g_icmp_lt (tgt := 14) (a := (-1)) (b := 0) hk dX12_in_2 (by decide) rfl rfl (fun _ => ?_) (fun z9 => absurd (show ((-1) : Int) < (0 : Int) from by decide) z9)
  refine g_iconst (v := 0) hk dX12_in_14 (by decide) ?_
  exact g_iret hk hR rfl ⟨rfl, rfl⟩ dX12_in_15
def wo_m199_X12_isPlace : List Cond := [Cond.fieldLink RX12 70 "WarpDeskModel" "now" "[I", Cond.methodLink RX12 244 yX12_in, Cond.static yX12_in, Cond.initialized RX12]
def wz_m199_X12_isPlace : List Cond := .code yX12_isPlace cX12_isPlace 2 (some .boolean) :: (wo_m199_X12_isPlace ++ (wsX120 ++ (wz_m200_X12_in ++ ([] : List Cond))))
theorem zg_m199_X12_isPlace : ∀ w ∈ wz_m199_X12_isPlace, goodWord w = true := zg_cons rfl (zg_app (by decide +kernel) (zg_app zgU_wsX120 (zg_app zg_m200_X12_in zg_nil)))
theorem zi_m199_X12_isPlace : ∀ w ∈ wz_m199_X12_isPlace, w ∈ lw_tbl := zi_cons zw_1655 (zi_app (zi_cons zw_1413 (zi_cons zw_1656 (zi_cons zw_1657 (zi_cons zw_115 zi_nil)))) (zi_app inX12 (zi_app zi_m200_X12_in zi_nil)))
set_option maxHeartbeats 4000000 in
set_option maxRecDepth 100000 in
theorem m199_X12_isPlace (l : Launch) (D : va_G) (zt : Nat × Nat × Nat) (g : Nat → ClassId) (r : Nat → Nat) : GM l D zt (tyM g) yX12_isPlace wz_m199_X12_isPlace ({ frames := 1, cells := 0, slots := 0, locals := 22 } : Room) [.ref (r 0), .int (-1)] (wM r g iM1 aM1 lM1) (fun v _ w' => v = some (.int 0) ∧ w' = wM r g iM1 aM1 lM1) 0 0 := by
  refine GM.of (cc := cX12_isPlace) (maxL := 2) (ret := (some .boolean)) (own := RX12) (lv := [(0, .ref (r 0)), (1, .int (-1))]) (by decide) rfl rfl (Nat.le_of_ble_eq_true rfl) rfl (fun κ sz hk hR hN => ?_)
  have hin12 : ∀ w ∈ u_ws RX12 TX12 55, w ∈ wz_m199_X12_isPlace := fun w h => (List.mem_cons_of_mem _ (List.mem_append_right _ (List.mem_append_left _ h)))
  refine g_iload_n hk dX12_isPlace_0 rfl ?_
  refine g_iconst (v := 0) hk dX12_isPlace_1 (by decide) ?_
  refine g_aload_n hk dX12_isPlace_2 rfl ?_
  refine gM_r0_35 hk hin12 (List.mem_cons_of_mem _ (List.mem_append_left _ (List.mem_of_getElem? (i := 0) rfl))) dX12_isPlace_3 ?_
  refine g_iconst (v := 0) hk dX12_isPlace_6 (by decide) ?_
  refine lM_17 (v := 0) hk (vp_in_iff.mpr ⟨by decide, by decide⟩) rfl dX12_isPlace_7 ?_
  refine g_iconst (v := 1) hk dX12_isPlace_8 (by decide) ?_
  refine g_isub hk dX12_isPlace_9 ?_
  refine g_norm (v := (-1)) (by decide) ?_
  refine g_callS (n := 3) hk (m200_X12_in l D zt g r) (SP.same _) (fun _ h => h) (gi_S (List.mem_cons_of_mem _ (List.mem_append_left _ (List.mem_of_getElem? (i := 1) rfl))) (List.mem_cons_of_mem _ (List.mem_append_left _ (List.mem_of_getElem? (i := 2) rfl))) (List.mem_cons_of_mem _ (List.mem_append_left _ (List.mem_of_getElem? (i := 3) rfl))) (gi_sub (fun w h => (List.mem_cons_of_mem _ (List.mem_append_right _ (List.mem_append_right _ (List.mem_append_left _ h))))) zg_m200_X12_in)) rfl rfl rfl (by decide +kernel) ⟨Nat.le_of_ble_eq_true rfl, Nat.le_of_ble_eq_true rfl⟩ rfl rfl (Nat.le_of_ble_eq_true rfl) ⟨Nat.le_of_ble_eq_true rfl, Nat.le_of_ble_eq_true rfl⟩ dX12_isPlace_10 (fun v ty' w' hp hk' => ?_)
  obtain ⟨rfl, rfl⟩ := hp
  show GW κ 2 0 0 (wM r g iM1 aM1 lM1) 13 [(0, .ref (r 0)), (1, .int (-1))] [.int 0]
  exact g_iret hk hR rfl ⟨rfl, rfl⟩ dX12_isPlace_13
def wo_m198_X12_isThere : List Cond := [Cond.methodLink RX12 248 yX12_isPlace, Cond.instanceMethod yX12_isPlace, Cond.selects RX12 yX12_isPlace yX12_isPlace, Cond.initialized RX12]
def wz_m198_X12_isThere : List Cond := .code yX12_isThere cX12_isThere 2 (some .boolean) :: (wo_m198_X12_isThere ++ (wz_m199_X12_isPlace ++ ([] : List Cond)))
theorem zg_m198_X12_isThere : ∀ w ∈ wz_m198_X12_isThere, goodWord w = true := zg_cons rfl (zg_app (by decide +kernel) (zg_app zg_m199_X12_isPlace zg_nil))
theorem zi_m198_X12_isThere : ∀ w ∈ wz_m198_X12_isThere, w ∈ lw_tbl := zi_cons zw_1651 (zi_app (zi_cons zw_1652 (zi_cons zw_1654 (zi_cons zw_66 (zi_cons zw_115 zi_nil)))) (zi_app zi_m199_X12_isPlace zi_nil))
set_option maxHeartbeats 4000000 in
set_option maxRecDepth 100000 in
theorem m198_X12_isThere (l : Launch) (D : va_G) (zt : Nat × Nat × Nat) (g : Nat → ClassId) (r : Nat → Nat) : GM l D zt (tyM g) yX12_isThere wz_m198_X12_isThere ({ frames := 2, cells := 0, slots := 0, locals := 43 } : Room) [.ref (r 0), .int (-1)] (wM r g iM1 aM1 lM1) (fun v _ w' => v = some (.int 0) ∧ w' = wM r g iM1 aM1 lM1) 0 0 := by
  refine GM.of (cc := cX12_isThere) (maxL := 2) (ret := (some .boolean)) (own := RX12) (lv := [(0, .ref (r 0)), (1, .int (-1))]) (by decide) rfl rfl (Nat.le_of_ble_eq_true rfl) rfl (fun κ sz hk hR hN => ?_)
  refine g_aload_n hk dX12_isThere_0 rfl ?_
  refine g_iload_n hk dX12_isThere_1 rfl ?_
  refine g_callV (n := 1) hk (m199_X12_isPlace l D zt g r) (SP.same _) (fun _ h => h) (gi_V (List.mem_cons_of_mem _ (List.mem_append_left _ (List.mem_of_getElem? (i := 0) rfl))) (List.mem_cons_of_mem _ (List.mem_append_left _ (List.mem_of_getElem? (i := 1) rfl))) (List.mem_cons_of_mem _ (List.mem_append_left _ (List.mem_of_getElem? (i := 2) rfl))) (List.mem_cons_of_mem _ (List.mem_append_left _ (List.mem_of_getElem? (i := 3) rfl))) (gi_sub (fun w h => (List.mem_cons_of_mem _ (List.mem_append_right _ (List.mem_append_left _ h)))) zg_m199_X12_isPlace)) rfl rfl rfl (by decide +kernel) ⟨Nat.le_of_ble_eq_true rfl, Nat.le_of_ble_eq_true rfl⟩ 0 rfl rfl rfl rfl (Nat.le_of_ble_eq_true rfl) ⟨Nat.le_of_ble_eq_true rfl, Nat.le_of_ble_eq_true rfl⟩ dX12_isThere_2 (fun v ty' w' hp hk' => ?_)
  obtain ⟨rfl, rfl⟩ := hp
  show GW κ 2 0 0 (wM r g iM1 aM1 lM1) 5 [(0, .ref (r 0)), (1, .int (-1))] [.int 0]
  refine g_if_eq (tgt := 25) (a := 0) hk dX12_isThere_5 (by decide) rfl (fun _ => ?_) (fun z9 => absurd (show (0 : Int) = (0 : Int) from by decide) z9)
  refine g_iconst (v := 0) hk dX12_isThere_25 (by decide) ?_
  exact g_iret hk hR rfl ⟨rfl, rfl⟩ dX12_isThere_26
def wo_m203_X12_in : List Cond := []
def wz_m203_X12_in : List Cond := .code yX12_in cX12_in 3 (some .boolean) :: (wo_m203_X12_in ++ ([] : List Cond))
theorem zg_m203_X12_in : ∀ w ∈ wz_m203_X12_in, goodWord w = true := zg_cons rfl (zg_app (by decide +kernel) zg_nil)
theorem zi_m203_X12_in : ∀ w ∈ wz_m203_X12_in, w ∈ lw_tbl := zi_cons zw_1658 (zi_app zi_nil zi_nil)
set_option maxHeartbeats 4000000 in
set_option maxRecDepth 100000 in
theorem m203_X12_in (l : Launch) (D : va_G) (zt : Nat × Nat × Nat) (g : Nat → ClassId) (r : Nat → Nat) : GM l D zt (tyM g) yX12_in wz_m203_X12_in ({ frames := 0, cells := 0, slots := 0, locals := 0 } : Room) [.int 0, .int 0, .int (-1)] (wM r g iM1 aM1 lM1) (fun v _ w' => v = some (.int 0) ∧ w' = wM r g iM1 aM1 lM1) 0 0 := by
  refine GM.of (cc := cX12_in) (maxL := 3) (ret := (some .boolean)) (own := RX12) (lv := [(0, .int 0), (1, .int 0), (2, .int (-1))]) (by decide) rfl rfl (Nat.le_of_ble_eq_true rfl) rfl (fun κ sz hk hR hN => ?_)
  refine g_iload_n hk dX12_in_0 rfl ?_
  refine g_iload_n hk dX12_in_1 rfl ?_
  refine g_icmp_lt (tgt := 14) (a := 0) (b := 0) hk dX12_in_2 (by decide) rfl rfl (fun z9 => absurd z9 (show ¬ ((0 : Int) < (0 : Int)) from by decide)) (fun _ => ?_)
  refine g_iload_n hk dX12_in_5 rfl ?_
  refine g_iload_n hk dX12_in_6 rfl ?_
  refine g_icmp_gt (tgt := 14) (a := 0) (b := (-1)) hk dX12_in_7 (by decide) rfl rfl (fun _ => ?_) (fun z9 => absurd (show ((-1) : Int) < (0 : Int) from by decide) z9)
  refine g_iconst (v := 0) hk dX12_in_14 (by decide) ?_
  exact g_iret hk hR rfl ⟨rfl, rfl⟩ dX12_in_15
def wo_m202_X12_isPlace : List Cond := [Cond.fieldLink RX12 70 "WarpDeskModel" "now" "[I", Cond.methodLink RX12 244 yX12_in, Cond.static yX12_in, Cond.initialized RX12]
def wz_m202_X12_isPlace : List Cond := .code yX12_isPlace cX12_isPlace 2 (some .boolean) :: (wo_m202_X12_isPlace ++ (wsX120 ++ (wz_m203_X12_in ++ ([] : List Cond))))
theorem zg_m202_X12_isPlace : ∀ w ∈ wz_m202_X12_isPlace, goodWord w = true := zg_cons rfl (zg_app (by decide +kernel) (zg_app zgU_wsX120 (zg_app zg_m203_X12_in zg_nil)))
theorem zi_m202_X12_isPlace : ∀ w ∈ wz_m202_X12_isPlace, w ∈ lw_tbl := zi_cons zw_1655 (zi_app (zi_cons zw_1413 (zi_cons zw_1656 (zi_cons zw_1657 (zi_cons zw_115 zi_nil)))) (zi_app inX12 (zi_app zi_m203_X12_in zi_nil)))
set_option maxHeartbeats 4000000 in
set_option maxRecDepth 100000 in
theorem m202_X12_isPlace (l : Launch) (D : va_G) (zt : Nat × Nat × Nat) (g : Nat → ClassId) (r : Nat → Nat) : GM l D zt (tyM g) yX12_isPlace wz_m202_X12_isPlace ({ frames := 1, cells := 0, slots := 0, locals := 22 } : Room) [.ref (r 0), .int 0] (wM r g iM1 aM1 lM1) (fun v _ w' => v = some (.int 0) ∧ w' = wM r g iM1 aM1 lM1) 0 0 := by
  refine GM.of (cc := cX12_isPlace) (maxL := 2) (ret := (some .boolean)) (own := RX12) (lv := [(0, .ref (r 0)), (1, .int 0)]) (by decide) rfl rfl (Nat.le_of_ble_eq_true rfl) rfl (fun κ sz hk hR hN => ?_)
  have hin12 : ∀ w ∈ u_ws RX12 TX12 55, w ∈ wz_m202_X12_isPlace := fun w h => (List.mem_cons_of_mem _ (List.mem_append_right _ (List.mem_append_left _ h)))
  refine g_iload_n hk dX12_isPlace_0 rfl ?_
  refine g_iconst (v := 0) hk dX12_isPlace_1 (by decide) ?_
  refine g_aload_n hk dX12_isPlace_2 rfl ?_
  refine gM_r0_35 hk hin12 (List.mem_cons_of_mem _ (List.mem_append_left _ (List.mem_of_getElem? (i := 0) rfl))) dX12_isPlace_3 ?_
  refine g_iconst (v := 0) hk dX12_isPlace_6 (by decide) ?_
  refine lM_17 (v := 0) hk (vp_in_iff.mpr ⟨by decide, by decide⟩) rfl dX12_isPlace_7 ?_
  refine g_iconst (v := 1) hk dX12_isPlace_8 (by decide) ?_
  refine g_isub hk dX12_isPlace_9 ?_
  refine g_norm (v := (-1)) (by decide) ?_
  refine g_callS (n := 3) hk (m203_X12_in l D zt g r) (SP.same _) (fun _ h => h) (gi_S (List.mem_cons_of_mem _ (List.mem_append_left _ (List.mem_of_getElem? (i := 1) rfl))) (List.mem_cons_of_mem _ (List.mem_append_left _ (List.mem_of_getElem? (i := 2) rfl))) (List.mem_cons_of_mem _ (List.mem_append_left _ (List.mem_of_getElem? (i := 3) rfl))) (gi_sub (fun w h => (List.mem_cons_of_mem _ (List.mem_append_right _ (List.mem_append_right _ (List.mem_append_left _ h))))) zg_m203_X12_in)) rfl rfl rfl (by decide +kernel) ⟨Nat.le_of_ble_eq_true rfl, Nat.le_of_ble_eq_true rfl⟩ rfl rfl (Nat.le_of_ble_eq_true rfl) ⟨Nat.le_of_ble_eq_true rfl, Nat.le_of_ble_eq_true rfl⟩ dX12_isPlace_10 (fun v ty' w' hp hk' => ?_)
  obtain ⟨rfl, rfl⟩ := hp
  show GW κ 2 0 0 (wM r g iM1 aM1 lM1) 13 [(0, .ref (r 0)), (1, .int 0)] [.int 0]
  exact g_iret hk hR rfl ⟨rfl, rfl⟩ dX12_isPlace_13
def wo_m201_X12_isThere : List Cond := [Cond.methodLink RX12 248 yX12_isPlace, Cond.instanceMethod yX12_isPlace, Cond.selects RX12 yX12_isPlace yX12_isPlace, Cond.initialized RX12]
def wz_m201_X12_isThere : List Cond := .code yX12_isThere cX12_isThere 2 (some .boolean) :: (wo_m201_X12_isThere ++ (wz_m202_X12_isPlace ++ ([] : List Cond)))
theorem zg_m201_X12_isThere : ∀ w ∈ wz_m201_X12_isThere, goodWord w = true := zg_cons rfl (zg_app (by decide +kernel) (zg_app zg_m202_X12_isPlace zg_nil))
theorem zi_m201_X12_isThere : ∀ w ∈ wz_m201_X12_isThere, w ∈ lw_tbl := zi_cons zw_1651 (zi_app (zi_cons zw_1652 (zi_cons zw_1654 (zi_cons zw_66 (zi_cons zw_115 zi_nil)))) (zi_app zi_m202_X12_isPlace zi_nil))
set_option maxHeartbeats 4000000 in
set_option maxRecDepth 100000 in
theorem m201_X12_isThere (l : Launch) (D : va_G) (zt : Nat × Nat × Nat) (g : Nat → ClassId) (r : Nat → Nat) : GM l D zt (tyM g) yX12_isThere wz_m201_X12_isThere ({ frames := 2, cells := 0, slots := 0, locals := 43 } : Room) [.ref (r 0), .int 0] (wM r g iM1 aM1 lM1) (fun v _ w' => v = some (.int 0) ∧ w' = wM r g iM1 aM1 lM1) 0 0 := by
  refine GM.of (cc := cX12_isThere) (maxL := 2) (ret := (some .boolean)) (own := RX12) (lv := [(0, .ref (r 0)), (1, .int 0)]) (by decide) rfl rfl (Nat.le_of_ble_eq_true rfl) rfl (fun κ sz hk hR hN => ?_)
  refine g_aload_n hk dX12_isThere_0 rfl ?_
  refine g_iload_n hk dX12_isThere_1 rfl ?_
  refine g_callV (n := 1) hk (m202_X12_isPlace l D zt g r) (SP.same _) (fun _ h => h) (gi_V (List.mem_cons_of_mem _ (List.mem_append_left _ (List.mem_of_getElem? (i := 0) rfl))) (List.mem_cons_of_mem _ (List.mem_append_left _ (List.mem_of_getElem? (i := 1) rfl))) (List.mem_cons_of_mem _ (List.mem_append_left _ (List.mem_of_getElem? (i := 2) rfl))) (List.mem_cons_of_mem _ (List.mem_append_left _ (List.mem_of_getElem? (i := 3) rfl))) (gi_sub (fun w h => (List.mem_cons_of_mem _ (List.mem_append_right _ (List.mem_append_left _ h)))) zg_m202_X12_isPlace)) rfl rfl rfl (by decide +kernel) ⟨Nat.le_of_ble_eq_true rfl, Nat.le_of_ble_eq_true rfl⟩ 0 rfl rfl rfl rfl (Nat.le_of_ble_eq_true rfl) ⟨Nat.le_of_ble_eq_true rfl, Nat.le_of_ble_eq_true rfl⟩ dX12_isThere_2 (fun v ty' w' hp hk' => ?_)
  obtain ⟨rfl, rfl⟩ := hp
  show GW κ 2 0 0 (wM r g iM1 aM1 lM1) 5 [(0, .ref (r 0)), (1, .int 0)] [.int 0]
  refine g_if_eq (tgt := 25) (a := 0) hk dX12_isThere_5 (by decide) rfl (fun _ => ?_) (fun z9 => absurd (show (0 : Int) = (0 : Int) from by decide) z9)
  refine g_iconst (v := 0) hk dX12_isThere_25 (by decide) ?_
  exact g_iret hk hR rfl ⟨rfl, rfl⟩ dX12_isThere_26
def wo_m196_X12_count : List Cond := [Cond.fieldLink RX12 70 "WarpDeskModel" "now" "[I", Cond.methodLink RX12 391 yX12_gaps, Cond.instanceMethod yX12_gaps, Cond.selects RX12 yX12_gaps yX12_gaps, Cond.initialized RX12, Cond.fieldLink RX12 49 "WarpDeskModel" "queries" "[I", Cond.fieldLink RX12 197 "WarpDeskModel" "live" "I", Cond.methodLink RX12 320 yX12_isThere, Cond.instanceMethod yX12_isThere, Cond.selects RX12 yX12_isThere yX12_isThere, Cond.fieldLink RX12 124 "WarpDeskModel" "taped" "I", Cond.fieldLink RX12 209 "WarpDeskModel" "undos" "I", Cond.fieldLink RX12 100 "WarpDeskModel" "isHeld" "[Z", Cond.constant RX12 239 (100000)]
def wz_m196_X12_count : List Cond := .code yX12_count cX12_count 4 (some .int) :: (wo_m196_X12_count ++ (wsX120 ++ (wz_m197_X12_gaps ++ (wz_m198_X12_isThere ++ (wz_m201_X12_isThere ++ ([] : List Cond))))))
theorem zg_m196_X12_count : ∀ w ∈ wz_m196_X12_count, goodWord w = true := zg_cons rfl (zg_app (by decide +kernel) (zg_app zgU_wsX120 (zg_app zg_m197_X12_gaps (zg_app zg_m198_X12_isThere (zg_app zg_m201_X12_isThere zg_nil)))))
theorem zi_m196_X12_count : ∀ w ∈ wz_m196_X12_count, w ∈ lw_tbl := zi_cons zw_1946 (zi_app (zi_cons zw_1413 (zi_cons zw_1947 (zi_cons zw_1949 (zi_cons zw_101 (zi_cons zw_115 (zi_cons zw_1406 (zi_cons zw_1400 (zi_cons zw_1648 (zi_cons zw_1650 (zi_cons zw_65 (zi_cons zw_1381 (zi_cons zw_1422 (zi_cons zw_1431 (zi_cons zw_1607 zi_nil)))))))))))))) (zi_app inX12 (zi_app zi_m197_X12_gaps (zi_app zi_m198_X12_isThere (zi_app zi_m201_X12_isThere zi_nil)))))
set_option maxHeartbeats 4000000 in
set_option maxRecDepth 100000 in
theorem m196_X12_count (l : Launch) (D : va_G) (zt : Nat × Nat × Nat) (g : Nat → ClassId) (r : Nat → Nat) (a668 : Int32) : GM l D zt (tyM g) yX12_count wz_m196_X12_count ({ frames := 3, cells := 0, slots := 0, locals := 64 } : Room) [.ref (r 0), .int a668] (wM r g iM1 aM1 lM1) (fun v _ w' => ((a668.toInt = 0) ∧ v = some (.int 0) ∧ w' = wM r g iM1 aM1 lM1) ∨ ((¬ (a668.toInt = 0)) ∧ (a668.toInt = 1) ∧ v = some (.int 0) ∧ w' = wM r g iM1 aM1 lM1) ∨ ((¬ (a668.toInt = 0)) ∧ (¬ (a668.toInt = 1)) ∧ (a668.toInt = 2) ∧ v = some (.int 0) ∧ w' = wM r g iM1 aM1 lM1) ∨ ((¬ (a668.toInt = 0)) ∧ (¬ (a668.toInt = 1)) ∧ (¬ (a668.toInt = 2)) ∧ (a668.toInt = 3) ∧ v = some (.int 2) ∧ w' = wM r g iM1 aM1 lM1) ∨ ((¬ (a668.toInt = 0)) ∧ (¬ (a668.toInt = 1)) ∧ (¬ (a668.toInt = 2)) ∧ (¬ (a668.toInt = 3)) ∧ (a668.toInt = 4) ∧ v = some (.int 0) ∧ w' = wM r g iM1 aM1 lM1) ∨ ((¬ (a668.toInt = 0)) ∧ (¬ (a668.toInt = 1)) ∧ (¬ (a668.toInt = 2)) ∧ (¬ (a668.toInt = 3)) ∧ (¬ (a668.toInt = 4)) ∧ (a668.toInt = 5) ∧ v = some (.int 0) ∧ w' = wM r g iM1 aM1 lM1) ∨ ((¬ (a668.toInt = 0)) ∧ (¬ (a668.toInt = 1)) ∧ (¬ (a668.toInt = 2)) ∧ (¬ (a668.toInt = 3)) ∧ (¬ (a668.toInt = 4)) ∧ (¬ (a668.toInt = 5)) ∧ (a668.toInt = 6) ∧ v = some (.int 8) ∧ w' = wM r g iM1 aM1 lM1) ∨ ((¬ (a668.toInt = 0)) ∧ (¬ (a668.toInt = 1)) ∧ (¬ (a668.toInt = 2)) ∧ (¬ (a668.toInt = 3)) ∧ (¬ (a668.toInt = 4)) ∧ (¬ (a668.toInt = 5)) ∧ (¬ (a668.toInt = 6)) ∧ (a668.toInt = 7) ∧ v = some (.int 0) ∧ w' = wM r g iM1 aM1 lM1) ∨ ((¬ (a668.toInt = 0)) ∧ (¬ (a668.toInt = 1)) ∧ (¬ (a668.toInt = 2)) ∧ (¬ (a668.toInt = 3)) ∧ (¬ (a668.toInt = 4)) ∧ (¬ (a668.toInt = 5)) ∧ (¬ (a668.toInt = 6)) ∧ (¬ (a668.toInt = 7)) ∧ (a668.toInt = 8) ∧ v = some (.int 0) ∧ w' = wM r g iM1 aM1 lM1) ∨ ((¬ (a668.toInt = 0)) ∧ (¬ (a668.toInt = 1)) ∧ (¬ (a668.toInt = 2)) ∧ (¬ (a668.toInt = 3)) ∧ (¬ (a668.toInt = 4)) ∧ (¬ (a668.toInt = 5)) ∧ (¬ (a668.toInt = 6)) ∧ (¬ (a668.toInt = 7)) ∧ (¬ (a668.toInt = 8)) ∧ (a668.toInt = 9) ∧ v = some (.int 0) ∧ w' = wM r g iM1 aM1 lM1) ∨ ((¬ (a668.toInt = 0)) ∧ (¬ (a668.toInt = 1)) ∧ (¬ (a668.toInt = 2)) ∧ (¬ (a668.toInt = 3)) ∧ (¬ (a668.toInt = 4)) ∧ (¬ (a668.toInt = 5)) ∧ (¬ (a668.toInt = 6)) ∧ (¬ (a668.toInt = 7)) ∧ (¬ (a668.toInt = 8)) ∧ (¬ (a668.toInt = 9)) ∧ (a668.toInt = 10) ∧ v = some (.int 0) ∧ w' = wM r g iM1 aM1 lM1) ∨ ((¬ (a668.toInt = 0)) ∧ (¬ (a668.toInt = 1)) ∧ (¬ (a668.toInt = 2)) ∧ (¬ (a668.toInt = 3)) ∧ (¬ (a668.toInt = 4)) ∧ (¬ (a668.toInt = 5)) ∧ (¬ (a668.toInt = 6)) ∧ (¬ (a668.toInt = 7)) ∧ (¬ (a668.toInt = 8)) ∧ (¬ (a668.toInt = 9)) ∧ (¬ (a668.toInt = 10)) ∧ (a668.toInt = 11) ∧ v = some (.int 0) ∧ w' = wM r g iM1 aM1 lM1) ∨ ((¬ (a668.toInt = 0)) ∧ (¬ (a668.toInt = 1)) ∧ (¬ (a668.toInt = 2)) ∧ (¬ (a668.toInt = 3)) ∧ (¬ (a668.toInt = 4)) ∧ (¬ (a668.toInt = 5)) ∧ (¬ (a668.toInt = 6)) ∧ (¬ (a668.toInt = 7)) ∧ (¬ (a668.toInt = 8)) ∧ (¬ (a668.toInt = 9)) ∧ (¬ (a668.toInt = 10)) ∧ (¬ (a668.toInt = 11)) ∧ (a668.toInt = 12) ∧ v = some (.int (-1000)) ∧ w' = wM r g iM1 aM1 lM1) ∨ ((¬ (a668.toInt = 0)) ∧ (¬ (a668.toInt = 1)) ∧ (¬ (a668.toInt = 2)) ∧ (¬ (a668.toInt = 3)) ∧ (¬ (a668.toInt = 4)) ∧ (¬ (a668.toInt = 5)) ∧ (¬ (a668.toInt = 6)) ∧ (¬ (a668.toInt = 7)) ∧ (¬ (a668.toInt = 8)) ∧ (¬ (a668.toInt = 9)) ∧ (¬ (a668.toInt = 10)) ∧ (¬ (a668.toInt = 11)) ∧ (¬ (a668.toInt = 12)) ∧ (a668.toInt = 13) ∧ v = some (.int (-1000)) ∧ w' = wM r g iM1 aM1 lM1) ∨ ((¬ (a668.toInt = 0)) ∧ (¬ (a668.toInt = 1)) ∧ (¬ (a668.toInt = 2)) ∧ (¬ (a668.toInt = 3)) ∧ (¬ (a668.toInt = 4)) ∧ (¬ (a668.toInt = 5)) ∧ (¬ (a668.toInt = 6)) ∧ (¬ (a668.toInt = 7)) ∧ (¬ (a668.toInt = 8)) ∧ (¬ (a668.toInt = 9)) ∧ (¬ (a668.toInt = 10)) ∧ (¬ (a668.toInt = 11)) ∧ (¬ (a668.toInt = 12)) ∧ (¬ (a668.toInt = 13)) ∧ (a668.toInt = 14) ∧ v = some (.int 0) ∧ w' = wM r g iM1 aM1 lM1) ∨ ((¬ (a668.toInt = 0)) ∧ (¬ (a668.toInt = 1)) ∧ (¬ (a668.toInt = 2)) ∧ (¬ (a668.toInt = 3)) ∧ (¬ (a668.toInt = 4)) ∧ (¬ (a668.toInt = 5)) ∧ (¬ (a668.toInt = 6)) ∧ (¬ (a668.toInt = 7)) ∧ (¬ (a668.toInt = 8)) ∧ (¬ (a668.toInt = 9)) ∧ (¬ (a668.toInt = 10)) ∧ (¬ (a668.toInt = 11)) ∧ (¬ (a668.toInt = 12)) ∧ (¬ (a668.toInt = 13)) ∧ (¬ (a668.toInt = 14)) ∧ v = some (.int (-1)) ∧ w' = wM r g iM1 aM1 lM1)) 0 0 := by
  refine GM.of (cc := cX12_count) (maxL := 4) (ret := (some .int)) (own := RX12) (lv := [(0, .ref (r 0)), (1, .int a668)]) (by decide) rfl rfl (Nat.le_of_ble_eq_true rfl) rfl (fun κ sz hk hR hN => ?_)
  have hin12 : ∀ w ∈ u_ws RX12 TX12 55, w ∈ wz_m196_X12_count := fun w h => (List.mem_cons_of_mem _ (List.mem_append_right _ (List.mem_append_left _ h)))
  refine g_iconst (v := 0) hk dX12_count_0 (by decide) ?_
  refine g_istore_n (lv' := [(2, .int 0), (0, .ref (r 0)), (1, .int a668)]) hk dX12_count_1 (by decide) rfl ?_
  refine g_iload_n hk dX12_count_2 rfl ?_
  by_cases c669 : a668.toInt = 0
  · refine g_tabIn (tgt := 76) (a := 0) hk dX12_count_3 c669 (by decide) (by decide) rfl (by decide) ?_
    refine g_aload_n hk dX12_count_76 rfl ?_
    refine gM_r0_35 hk hin12 (List.mem_cons_of_mem _ (List.mem_append_left _ (List.mem_of_getElem? (i := 0) rfl))) dX12_count_77 ?_
    refine g_iconst (v := 0) hk dX12_count_80 (by decide) ?_
    refine lM_17 (v := 0) hk (vp_in_iff.mpr ⟨by decide, by decide⟩) rfl dX12_count_81 ?_
    exact g_iret hk hR rfl (Or.inl ⟨c669, rfl, rfl⟩) dX12_count_82
  by_cases c670 : a668.toInt = 1
  · refine g_tabIn (tgt := 83) (a := 1) hk dX12_count_3 c670 (by decide) (by decide) rfl (by decide) ?_
    refine g_aload_n hk dX12_count_83 rfl ?_
    refine g_callV (n := 0) hk (m197_X12_gaps l D zt g r) (SP.same _) (fun _ h => h) (gi_V (List.mem_cons_of_mem _ (List.mem_append_left _ (List.mem_of_getElem? (i := 1) rfl))) (List.mem_cons_of_mem _ (List.mem_append_left _ (List.mem_of_getElem? (i := 2) rfl))) (List.mem_cons_of_mem _ (List.mem_append_left _ (List.mem_of_getElem? (i := 3) rfl))) (List.mem_cons_of_mem _ (List.mem_append_left _ (List.mem_of_getElem? (i := 4) rfl))) (gi_sub (fun w h => (List.mem_cons_of_mem _ (List.mem_append_right _ (List.mem_append_right _ (List.mem_append_left _ h))))) zg_m197_X12_gaps)) rfl rfl rfl (by decide +kernel) ⟨Nat.le_of_ble_eq_true rfl, Nat.le_of_ble_eq_true rfl⟩ 0 rfl rfl rfl rfl (Nat.le_of_ble_eq_true rfl) ⟨Nat.le_of_ble_eq_true rfl, Nat.le_of_ble_eq_true rfl⟩ dX12_count_84 (fun v ty' w' hp hk' => ?_)
    obtain ⟨rfl, rfl⟩ := hp
    show GW κ 4 0 0 (wM r g iM1 aM1 lM1) 87 [(2, .int 0), (0, .ref (r 0)), (1, .int a668)] [.int 0]
    exact g_iret hk hR rfl (Or.inr (Or.inl ⟨c669, c670, rfl, rfl⟩)) dX12_count_87
  by_cases c671 : a668.toInt = 2
  · refine g_tabIn (tgt := 88) (a := 2) hk dX12_count_3 c671 (by decide) (by decide) rfl (by decide) ?_
    refine g_aload_n hk dX12_count_88 rfl ?_
    refine gM_r0_28 hk hin12 (List.mem_cons_of_mem _ (List.mem_append_left _ (List.mem_of_getElem? (i := 5) rfl))) dX12_count_89 ?_
    refine g_aload_n hk dX12_count_92 rfl ?_
    refine gM_i15 (v := 0) hk hin12 (List.mem_cons_of_mem _ (List.mem_append_left _ (List.mem_of_getElem? (i := 6) rfl))) dX12_count_93 rfl ?_
    refine lM_10 (v := 0) hk (vp_in_iff.mpr ⟨by decide, by decide⟩) rfl dX12_count_96 ?_
    exact g_iret hk hR rfl (Or.inr (Or.inr (Or.inl ⟨c669, c670, c671, rfl, rfl⟩))) dX12_count_97
  by_cases c672 : a668.toInt = 3
  · refine g_tabIn (tgt := 98) (a := 3) hk dX12_count_3 c672 (by decide) (by decide) rfl (by decide) ?_
    refine g_aload_n hk dX12_count_98 rfl ?_
    refine gM_r0_35 hk hin12 (List.mem_cons_of_mem _ (List.mem_append_left _ (List.mem_of_getElem? (i := 0) rfl))) dX12_count_99 ?_
    refine g_sipush (v := 161) hk dX12_count_102 (by decide) ?_
    refine lM_17 (v := 2) hk (vp_in_iff.mpr ⟨by decide, by decide⟩) rfl dX12_count_105 ?_
    exact g_iret hk hR rfl (Or.inr (Or.inr (Or.inr (Or.inl ⟨c669, c670, c671, c672, rfl, rfl⟩)))) dX12_count_106
  by_cases c673 : a668.toInt = 4
  · refine g_tabIn (tgt := 107) (a := 4) hk dX12_count_3 c673 (by decide) (by decide) rfl (by decide) ?_
    refine g_aload_n hk dX12_count_107 rfl ?_
    refine gM_r0_35 hk hin12 (List.mem_cons_of_mem _ (List.mem_append_left _ (List.mem_of_getElem? (i := 0) rfl))) dX12_count_108 ?_
    refine g_sipush (v := 162) hk dX12_count_111 (by decide) ?_
    refine lM_17 (v := 0) hk (vp_in_iff.mpr ⟨by decide, by decide⟩) rfl dX12_count_114 ?_
    exact g_iret hk hR rfl (Or.inr (Or.inr (Or.inr (Or.inr (Or.inl ⟨c669, c670, c671, c672, c673, rfl, rfl⟩))))) dX12_count_115
  by_cases c674 : a668.toInt = 5
  · refine g_tabIn (tgt := 116) (a := 5) hk dX12_count_3 c674 (by decide) (by decide) rfl (by decide) ?_
    refine g_aload_n hk dX12_count_116 rfl ?_
    refine gM_r0_35 hk hin12 (List.mem_cons_of_mem _ (List.mem_append_left _ (List.mem_of_getElem? (i := 0) rfl))) dX12_count_117 ?_
    refine g_sipush (v := 163) hk dX12_count_120 (by decide) ?_
    refine lM_17 (v := 0) hk (vp_in_iff.mpr ⟨by decide, by decide⟩) rfl dX12_count_123 ?_
    exact g_iret hk hR rfl (Or.inr (Or.inr (Or.inr (Or.inr (Or.inr (Or.inl ⟨c669, c670, c671, c672, c673, c674, rfl, rfl⟩)))))) dX12_count_124
  by_cases c675 : a668.toInt = 6
  · refine g_tabIn (tgt := 125) (a := 6) hk dX12_count_3 c675 (by decide) (by decide) rfl (by decide) ?_
    refine g_aload_n hk dX12_count_125 rfl ?_
    refine gM_r0_35 hk hin12 (List.mem_cons_of_mem _ (List.mem_append_left _ (List.mem_of_getElem? (i := 0) rfl))) dX12_count_126 ?_
    refine g_sipush (v := 164) hk dX12_count_129 (by decide) ?_
    refine lM_17 (v := 8) hk (vp_in_iff.mpr ⟨by decide, by decide⟩) rfl dX12_count_132 ?_
    exact g_iret hk hR rfl (Or.inr (Or.inr (Or.inr (Or.inr (Or.inr (Or.inr (Or.inl ⟨c669, c670, c671, c672, c673, c674, c675, rfl, rfl⟩))))))) dX12_count_133
  by_cases c676 : a668.toInt = 7
  · refine g_tabIn (tgt := 134) (a := 7) hk dX12_count_3 c676 (by decide) (by decide) rfl (by decide) ?_
    refine g_aload_n hk dX12_count_134 rfl ?_
    refine g_aload_n hk dX12_count_135 rfl ?_
    refine gM_r0_35 hk hin12 (List.mem_cons_of_mem _ (List.mem_append_left _ (List.mem_of_getElem? (i := 0) rfl))) dX12_count_136 ?_
    refine g_iconst (v := 0) hk dX12_count_139 (by decide) ?_
    refine lM_17 (v := 0) hk (vp_in_iff.mpr ⟨by decide, by decide⟩) rfl dX12_count_140 ?_
    refine g_iconst (v := 1) hk dX12_count_141 (by decide) ?_
    refine g_isub hk dX12_count_142 ?_
    refine g_norm (v := (-1)) (by decide) ?_
    refine g_iload_n hk dX12_count_143 rfl ?_
    refine g_isub hk dX12_count_144 ?_
    refine g_norm (v := (-1)) (by decide) ?_
    refine g_callV (n := 1) hk (m198_X12_isThere l D zt g r) (SP.same _) (fun _ h => h) (gi_V (List.mem_cons_of_mem _ (List.mem_append_left _ (List.mem_of_getElem? (i := 7) rfl))) (List.mem_cons_of_mem _ (List.mem_append_left _ (List.mem_of_getElem? (i := 8) rfl))) (List.mem_cons_of_mem _ (List.mem_append_left _ (List.mem_of_getElem? (i := 9) rfl))) (List.mem_cons_of_mem _ (List.mem_append_left _ (List.mem_of_getElem? (i := 4) rfl))) (gi_sub (fun w h => (List.mem_cons_of_mem _ (List.mem_append_right _ (List.mem_append_right _ (List.mem_append_right _ (List.mem_append_left _ h)))))) zg_m198_X12_isThere)) rfl rfl rfl (by decide +kernel) ⟨Nat.le_of_ble_eq_true rfl, Nat.le_of_ble_eq_true rfl⟩ 0 rfl rfl rfl rfl (Nat.le_of_ble_eq_true rfl) ⟨Nat.le_of_ble_eq_true rfl, Nat.le_of_ble_eq_true rfl⟩ dX12_count_145 (fun v ty' w' hp hk' => ?_)
    obtain ⟨rfl, rfl⟩ := hp
    show GW κ 4 0 0 (wM r g iM1 aM1 lM1) 148 [(2, .int 0), (0, .ref (r 0)), (1, .int a668)] [.int 0]
    refine g_if_eq (tgt := 157) (a := 0) hk dX12_count_148 (by decide) rfl (fun _ => ?_) (fun z9 => absurd (show (0 : Int) = (0 : Int) from by decide) z9)
    refine g_iload_n hk dX12_count_157 rfl ?_
    exact g_iret hk hR rfl (Or.inr (Or.inr (Or.inr (Or.inr (Or.inr (Or.inr (Or.inr (Or.inl ⟨c669, c670, c671, c672, c673, c674, c675, c676, rfl, rfl⟩)))))))) dX12_count_158
  by_cases c677 : a668.toInt = 8
  · refine g_tabIn (tgt := 159) (a := 8) hk dX12_count_3 c677 (by decide) (by decide) rfl (by decide) ?_
    refine g_aload_n hk dX12_count_159 rfl ?_
    refine gM_i1 (v := 0) hk hin12 (List.mem_cons_of_mem _ (List.mem_append_left _ (List.mem_of_getElem? (i := 10) rfl))) dX12_count_160 rfl ?_
    exact g_iret hk hR rfl (Or.inr (Or.inr (Or.inr (Or.inr (Or.inr (Or.inr (Or.inr (Or.inr (Or.inl ⟨c669, c670, c671, c672, c673, c674, c675, c676, c677, rfl, rfl⟩))))))))) dX12_count_163
  by_cases c678 : a668.toInt = 9
  · refine g_tabIn (tgt := 164) (a := 9) hk dX12_count_3 c678 (by decide) (by decide) rfl (by decide) ?_
    refine g_aload_n hk dX12_count_164 rfl ?_
    refine gM_i22 (v := 0) hk hin12 (List.mem_cons_of_mem _ (List.mem_append_left _ (List.mem_of_getElem? (i := 11) rfl))) dX12_count_165 rfl ?_
    exact g_iret hk hR rfl (Or.inr (Or.inr (Or.inr (Or.inr (Or.inr (Or.inr (Or.inr (Or.inr (Or.inr (Or.inl ⟨c669, c670, c671, c672, c673, c674, c675, c676, c677, c678, rfl, rfl⟩)))))))))) dX12_count_168
  by_cases c679 : a668.toInt = 10
  · refine g_tabIn (tgt := 169) (a := 10) hk dX12_count_3 c679 (by decide) (by decide) rfl (by decide) ?_
    refine g_iconst (v := 0) hk dX12_count_169 (by decide) ?_
    refine g_istore_n (lv' := [(3, .int 0), (2, .int 0), (0, .ref (r 0)), (1, .int a668)]) hk dX12_count_170 (by decide) rfl ?_
    refine g_iload_n hk dX12_count_171 rfl ?_
    refine g_aload_n hk dX12_count_172 rfl ?_
    refine gM_r0_35 hk hin12 (List.mem_cons_of_mem _ (List.mem_append_left _ (List.mem_of_getElem? (i := 0) rfl))) dX12_count_173 ?_
    refine g_iconst (v := 0) hk dX12_count_176 (by decide) ?_
    refine lM_17 (v := 0) hk (vp_in_iff.mpr ⟨by decide, by decide⟩) rfl dX12_count_177 ?_
    refine g_icmp_ge (tgt := 206) (a := 0) (b := 0) hk dX12_count_178 (by decide) rfl rfl (fun _ => ?_) (fun z9 => absurd (show (0 : Int) ≤ (0 : Int) from by decide) z9)
    refine g_iload_n hk dX12_count_206 rfl ?_
    exact g_iret hk hR rfl (Or.inr (Or.inr (Or.inr (Or.inr (Or.inr (Or.inr (Or.inr (Or.inr (Or.inr (Or.inr (Or.inl ⟨c669, c670, c671, c672, c673, c674, c675, c676, c677, c678, c679, rfl, rfl⟩))))))))))) dX12_count_207
  by_cases c680 : a668.toInt = 11
  · refine g_tabIn (tgt := 208) (a := 11) hk dX12_count_3 c680 (by decide) (by decide) rfl (by decide) ?_
    refine g_aload_n hk dX12_count_208 rfl ?_
    refine gM_r0_53 hk hin12 (List.mem_cons_of_mem _ (List.mem_append_left _ (List.mem_of_getElem? (i := 12) rfl))) dX12_count_209 ?_
    refine g_iconst (v := 0) hk dX12_count_212 (by decide) ?_
    refine lM_27 (v := 0) hk (vp_in_iff.mpr ⟨by decide, by decide⟩) rfl dX12_count_213 ?_
    refine g_if_eq (tgt := 221) (a := 0) hk dX12_count_214 (by decide) rfl (fun _ => ?_) (fun z9 => absurd (show (0 : Int) = (0 : Int) from by decide) z9)
    refine g_iconst (v := 0) hk dX12_count_221 (by decide) ?_
    refine g_aload_n hk dX12_count_222 rfl ?_
    refine gM_r0_53 hk hin12 (List.mem_cons_of_mem _ (List.mem_append_left _ (List.mem_of_getElem? (i := 12) rfl))) dX12_count_223 ?_
    refine g_iconst (v := 1) hk dX12_count_226 (by decide) ?_
    refine lM_27 (v := 0) hk (vp_in_iff.mpr ⟨by decide, by decide⟩) rfl dX12_count_227 ?_
    refine g_if_eq (tgt := 235) (a := 0) hk dX12_count_228 (by decide) rfl (fun _ => ?_) (fun z9 => absurd (show (0 : Int) = (0 : Int) from by decide) z9)
    refine g_iconst (v := 0) hk dX12_count_235 (by decide) ?_
    refine g_iadd hk dX12_count_236 ?_
    refine g_norm (v := 0) (by decide) ?_
    refine g_aload_n hk dX12_count_237 rfl ?_
    refine gM_r0_53 hk hin12 (List.mem_cons_of_mem _ (List.mem_append_left _ (List.mem_of_getElem? (i := 12) rfl))) dX12_count_238 ?_
    refine g_iconst (v := 2) hk dX12_count_241 (by decide) ?_
    refine lM_27 (v := 0) hk (vp_in_iff.mpr ⟨by decide, by decide⟩) rfl dX12_count_242 ?_
    refine g_if_eq (tgt := 250) (a := 0) hk dX12_count_243 (by decide) rfl (fun _ => ?_) (fun z9 => absurd (show (0 : Int) = (0 : Int) from by decide) z9)
    refine g_iconst (v := 0) hk dX12_count_250 (by decide) ?_
    refine g_iadd hk dX12_count_251 ?_
    refine g_norm (v := 0) (by decide) ?_
    exact g_iret hk hR rfl (Or.inr (Or.inr (Or.inr (Or.inr (Or.inr (Or.inr (Or.inr (Or.inr (Or.inr (Or.inr (Or.inr (Or.inl ⟨c669, c670, c671, c672, c673, c674, c675, c676, c677, c678, c679, c680, rfl, rfl⟩)))))))))))) dX12_count_252
  by_cases c681 : a668.toInt = 12
  · refine g_tabIn (tgt := 253) (a := 12) hk dX12_count_3 c681 (by decide) (by decide) rfl (by decide) ?_
    refine g_sipush (v := (-1000)) hk dX12_count_253 (by decide) ?_
    refine g_istore_n (lv' := [(2, .int (-1000)), (0, .ref (r 0)), (1, .int a668)]) hk dX12_count_256 (by decide) rfl ?_
    refine g_iconst (v := 0) hk dX12_count_257 (by decide) ?_
    refine g_istore_n (lv' := [(3, .int 0), (2, .int (-1000)), (0, .ref (r 0)), (1, .int a668)]) hk dX12_count_258 (by decide) rfl ?_
    refine g_iload_n hk dX12_count_259 rfl ?_
    refine g_aload_n hk dX12_count_260 rfl ?_
    refine gM_r0_35 hk hin12 (List.mem_cons_of_mem _ (List.mem_append_left _ (List.mem_of_getElem? (i := 0) rfl))) dX12_count_261 ?_
    refine g_iconst (v := 0) hk dX12_count_264 (by decide) ?_
    refine lM_17 (v := 0) hk (vp_in_iff.mpr ⟨by decide, by decide⟩) rfl dX12_count_265 ?_
    refine g_icmp_ge (tgt := 304) (a := 0) (b := 0) hk dX12_count_266 (by decide) rfl rfl (fun _ => ?_) (fun z9 => absurd (show (0 : Int) ≤ (0 : Int) from by decide) z9)
    refine g_iload_n hk dX12_count_304 rfl ?_
    exact g_iret hk hR rfl (Or.inr (Or.inr (Or.inr (Or.inr (Or.inr (Or.inr (Or.inr (Or.inr (Or.inr (Or.inr (Or.inr (Or.inr (Or.inl ⟨c669, c670, c671, c672, c673, c674, c675, c676, c677, c678, c679, c680, c681, rfl, rfl⟩))))))))))))) dX12_count_305
  by_cases c682 : a668.toInt = 13
  · refine g_tabIn (tgt := 306) (a := 13) hk dX12_count_3 c682 (by decide) (by decide) rfl (by decide) ?_
    refine g_ldc (v := 100000) hk (List.mem_cons_of_mem _ (List.mem_append_left _ (List.mem_of_getElem? (i := 13) rfl))) dX12_count_306 ?_
    refine g_istore_n (lv' := [(2, .int 100000), (0, .ref (r 0)), (1, .int a668)]) hk dX12_count_308 (by decide) rfl ?_
    refine g_iconst (v := 0) hk dX12_count_309 (by decide) ?_
    refine g_istore_n (lv' := [(3, .int 0), (2, .int 100000), (0, .ref (r 0)), (1, .int a668)]) hk dX12_count_310 (by decide) rfl ?_
    refine g_iload_n hk dX12_count_311 rfl ?_
    refine g_aload_n hk dX12_count_312 rfl ?_
    refine gM_r0_35 hk hin12 (List.mem_cons_of_mem _ (List.mem_append_left _ (List.mem_of_getElem? (i := 0) rfl))) dX12_count_313 ?_
    refine g_iconst (v := 0) hk dX12_count_316 (by decide) ?_
    refine lM_17 (v := 0) hk (vp_in_iff.mpr ⟨by decide, by decide⟩) rfl dX12_count_317 ?_
    refine g_icmp_ge (tgt := 348) (a := 0) (b := 0) hk dX12_count_318 (by decide) rfl rfl (fun _ => ?_) (fun z9 => absurd (show (0 : Int) ≤ (0 : Int) from by decide) z9)
    refine g_iload_n hk dX12_count_348 rfl ?_
    refine g_ldc (v := 100000) hk (List.mem_cons_of_mem _ (List.mem_append_left _ (List.mem_of_getElem? (i := 13) rfl))) dX12_count_349 ?_
    refine g_icmp_ne (tgt := 360) (a := 100000) (b := 100000) hk dX12_count_351 (by decide) rfl rfl (fun z9 => absurd z9 (show ¬ ((100000 : Int) ≠ (100000 : Int)) from by decide)) (fun _ => ?_)
    refine g_sipush (v := (-1000)) hk dX12_count_354 (by decide) ?_
    refine g_goto (tgt := 361) hk dX12_count_357 (by decide) ?_
    exact g_iret hk hR rfl (Or.inr (Or.inr (Or.inr (Or.inr (Or.inr (Or.inr (Or.inr (Or.inr (Or.inr (Or.inr (Or.inr (Or.inr (Or.inr (Or.inl ⟨c669, c670, c671, c672, c673, c674, c675, c676, c677, c678, c679, c680, c681, c682, rfl, rfl⟩)))))))))))))) dX12_count_361
  by_cases c683 : a668.toInt = 14
  · refine g_tabIn (tgt := 362) (a := 14) hk dX12_count_3 c683 (by decide) (by decide) rfl (by decide) ?_
    refine g_aload_n hk dX12_count_362 rfl ?_
    refine g_iload_n hk dX12_count_363 rfl ?_
    refine g_callV (n := 1) hk (m201_X12_isThere l D zt g r) (SP.same _) (fun _ h => h) (gi_V (List.mem_cons_of_mem _ (List.mem_append_left _ (List.mem_of_getElem? (i := 7) rfl))) (List.mem_cons_of_mem _ (List.mem_append_left _ (List.mem_of_getElem? (i := 8) rfl))) (List.mem_cons_of_mem _ (List.mem_append_left _ (List.mem_of_getElem? (i := 9) rfl))) (List.mem_cons_of_mem _ (List.mem_append_left _ (List.mem_of_getElem? (i := 4) rfl))) (gi_sub (fun w h => (List.mem_cons_of_mem _ (List.mem_append_right _ (List.mem_append_right _ (List.mem_append_right _ (List.mem_append_right _ (List.mem_append_left _ h))))))) zg_m201_X12_isThere)) rfl rfl rfl (by decide +kernel) ⟨Nat.le_of_ble_eq_true rfl, Nat.le_of_ble_eq_true rfl⟩ 0 rfl rfl rfl rfl (Nat.le_of_ble_eq_true rfl) ⟨Nat.le_of_ble_eq_true rfl, Nat.le_of_ble_eq_true rfl⟩ dX12_count_364 (fun v ty' w' hp hk' => ?_)
    obtain ⟨rfl, rfl⟩ := hp
    show GW κ 4 0 0 (wM r g iM1 aM1 lM1) 367 [(2, .int 0), (0, .ref (r 0)), (1, .int a668)] [.int 0]
    refine g_if_eq (tgt := 376) (a := 0) hk dX12_count_367 (by decide) rfl (fun _ => ?_) (fun z9 => absurd (show (0 : Int) = (0 : Int) from by decide) z9)
    refine g_iload_n hk dX12_count_376 rfl ?_
    exact g_iret hk hR rfl (Or.inr (Or.inr (Or.inr (Or.inr (Or.inr (Or.inr (Or.inr (Or.inr (Or.inr (Or.inr (Or.inr (Or.inr (Or.inr (Or.inr (Or.inl ⟨c669, c670, c671, c672, c673, c674, c675, c676, c677, c678, c679, c680, c681, c682, c683, rfl, rfl⟩))))))))))))))) dX12_count_377
  refine g_tabOut (tgt := 378) (a := a668.toInt) hk dX12_count_3 rfl (by omega) (by decide) ?_
  refine g_iconst (v := (-1)) hk dX12_count_378 (by decide) ?_
  exact g_iret hk hR rfl (Or.inr (Or.inr (Or.inr (Or.inr (Or.inr (Or.inr (Or.inr (Or.inr (Or.inr (Or.inr (Or.inr (Or.inr (Or.inr (Or.inr (Or.inr (⟨c669, c670, c671, c672, c673, c674, c675, c676, c677, c678, c679, c680, c681, c682, c683, rfl, rfl⟩)))))))))))))))) dX12_count_379
