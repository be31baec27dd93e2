def wo_m293_X9_findOdd : List Cond := [Cond.fieldLink RX9 98 "WarpDesk$Stretches" "oddWindow" "I", Cond.fieldLink RX9 101 "WarpDesk$Stretches" "oddDistance" "I", Cond.methodLink RX9 50 yX9_bringAll, Cond.instanceMethod yX9_bringAll, Cond.selects RX9 yX9_bringAll yX9_bringAll, Cond.initialized RX9, Cond.fieldLink RX9 15 "WarpDesk$Stretches" "isThere" "[Z"]
def wz_m293_X9_findOdd : List Cond := .code yX9_findOdd cX9_findOdd 3 none :: (wo_m293_X9_findOdd ++ (wsX90 ++ (wz_m294_X9_bringAll ++ ([] : List Cond))))
theorem zg_m293_X9_findOdd : ∀ w ∈ wz_m293_X9_findOdd, goodWord w = true := zg_cons rfl (zg_app (by decide +kernel) (zg_app zgU_wsX90 (zg_app zg_m294_X9_bringAll zg_nil)))
theorem zi_m293_X9_findOdd : ∀ w ∈ wz_m293_X9_findOdd, w ∈ lw_tbl := zi_cons zw_1304 (zi_app (zi_cons zw_460 (zi_cons zw_462 (zi_cons zw_1255 (zi_cons zw_1257 (zi_cons zw_39 (zi_cons zw_114 (zi_cons zw_449 zi_nil))))))) (zi_app inX9 (zi_app zi_m294_X9_bringAll zi_nil)))
set_option maxHeartbeats 4000000 in
set_option maxRecDepth 100000 in
theorem m293_X9_findOdd (l : Launch) (D : va_G) (zt : Nat × Nat × Nat) (d : Nat → ClassId) (q : Nat → Nat) (a993 : Int32) (h0 : 2 ≤ a993.toInt) (h1 : a993.toInt ≤ 16) : GM l D zt (tyX d) yX9_findOdd wz_m293_X9_findOdd ({ frames := 2, cells := 0, slots := 0, locals := 45 } : Room) [.ref (q 49), .int a993] (wX q d iX0 aX0) (fun v _ w' => v = none ∧ w' = wX q d (upd (upd iX0 43 (-2)) 44 (-2)) aX0) 0 0 := by
  refine GM.of (cc := cX9_findOdd) (maxL := 3) (ret := none) (own := RX9) (lv := [(0, .ref (q 49)), (1, .int a993)]) (by decide) rfl rfl (Nat.le_of_ble_eq_true rfl) rfl (fun κ sz hk hR hN => ?_)
  have hin9 : ∀ w ∈ u_ws RX9 TX9 11, w ∈ wz_m293_X9_findOdd := fun w h => (List.mem_cons_of_mem _ (List.mem_append_right _ (List.mem_append_left _ h)))
  refine g_aload_n hk dX9_findOdd_0 rfl ?_
  refine g_bipush (v := (-2)) hk dX9_findOdd_1 (by decide) ?_
  refine pX_i43 hk hin9 (List.mem_cons_of_mem _ (List.mem_append_left _ (List.mem_of_getElem? (i := 0) rfl))) dX9_findOdd_3 ?_
  refine g_aload_n hk dX9_findOdd_6 rfl ?_
  refine g_bipush (v := (-2)) hk dX9_findOdd_7 (by decide) ?_
  refine pX_i44 hk hin9 (List.mem_cons_of_mem _ (List.mem_append_left _ (List.mem_of_getElem? (i := 1) rfl))) dX9_findOdd_9 ?_
  refine g_aload_n hk dX9_findOdd_12 rfl ?_
  refine g_iload_n hk dX9_findOdd_13 rfl ?_
  refine g_callV (n := 1) hk (m294_X9_bringAll l D zt d q a993 (by omega) (by omega)) (SP.same _) (fun _ h => h) (gi_V (List.mem_cons_of_mem _ (List.mem_append_left _ (List.mem_of_getElem? (i := 2) rfl))) (List.mem_cons_of_mem _ (List.mem_append_left _ (List.mem_of_getElem? (i := 3) rfl))) (List.mem_cons_of_mem _ (List.mem_append_left _ (List.mem_of_getElem? (i := 4) rfl))) (List.mem_cons_of_mem _ (List.mem_append_left _ (List.mem_of_getElem? (i := 5) rfl))) (gi_sub (fun w h => (List.mem_cons_of_mem _ (List.mem_append_right _ (List.mem_append_right _ (List.mem_append_left _ h))))) zg_m294_X9_bringAll)) rfl rfl rfl (by decide +kernel) ⟨Nat.le_of_ble_eq_true rfl, Nat.le_of_ble_eq_true rfl⟩ 49 rfl rfl rfl rfl (Nat.le_of_ble_eq_true rfl) ⟨Nat.le_of_ble_eq_true rfl, Nat.le_of_ble_eq_true rfl⟩ dX9_findOdd_14 (fun v ty' w' hp hk' => ?_)
  obtain ⟨rfl, rfl⟩ := hp
  show GW κ 3 0 0 (wX q d (upd (upd iX0 43 (-2)) 44 (-2)) aX0) 17 [(0, .ref (q 49)), (1, .int a993)] []
  refine g_iconst (v := 0) hk dX9_findOdd_17 (by decide) ?_
  refine g_istore_n (lv' := [(2, .int 0), (0, .ref (q 49)), (1, .int a993)]) hk dX9_findOdd_18 (by decide) rfl ?_
  have lp1002 : ∀ (n1004 k1003 : Nat), k1003 + n1004 = 160 → GW κ 3 0 0 (wX q d (upd (upd iX0 43 (-2)) 44 (-2)) aX0) 19 [(2, .int (nI k1003)), (0, .ref (q 49)), (1, .int a993)] [] := by
    intro n1004
    induction n1004 with
    | zero =>
      intro k1003 hk1003
      obtain rfl : k1003 = 160 := by omega
      show GW κ 3 0 0 (wX q d (upd (upd iX0 43 (-2)) 44 (-2)) aX0) 19 [(2, .int 160), (0, .ref (q 49)), (1, .int a993)] []
      refine g_iload_n hk dX9_findOdd_19 rfl ?_
      refine g_sipush (v := 160) hk dX9_findOdd_20 (by decide) ?_
      refine g_icmp_ge (tgt := 85) (a := 160) (b := 160) hk dX9_findOdd_23 (by decide) rfl rfl (fun _ => ?_) (fun z9 => absurd (show (160 : Int) ≤ (160 : Int) from by decide) z9)
      exact g_vret hk hR ⟨rfl, rfl⟩ dX9_findOdd_85
    | succ n1004 ih =>
      intro k1003 hk1003
      obtain ⟨x1005, ex1005⟩ : ∃ x : Int32, x = nI k1003 := ⟨_, rfl⟩
      have hx1005 : x1005.toInt = (k1003 : Int) := by rw [ex1005]; exact nI_toInt (by omega)
      rw [← ex1005]
      refine g_iload_n hk dX9_findOdd_19 rfl ?_
      refine g_sipush (v := 160) hk dX9_findOdd_20 (by decide) ?_
      refine g_icmp_ge (tgt := 85) (a := x1005.toInt) (b := 160) hk dX9_findOdd_23 (by decide) rfl rfl (fun z9 => absurd z9 (show ¬ (160 ≤ x1005.toInt) from by omega)) (fun _ => ?_)
      refine g_aload_n hk dX9_findOdd_26 rfl ?_
      refine gX_r49_3 hk hin9 (List.mem_cons_of_mem _ (List.mem_append_left _ (List.mem_of_getElem? (i := 6) rfl))) dX9_findOdd_27 ?_
      refine g_iload_n hk dX9_findOdd_30 rfl ?_
      refine lX_31 (v := 0) hk (vp_in_iff.mpr ⟨by omega, by omega⟩) rfl dX9_findOdd_31 ?_
      refine g_if_ne (tgt := 38) (a := 0) hk dX9_findOdd_32 (by decide) rfl (fun z9 => absurd z9 (show ¬ ((0 : Int) ≠ (0 : Int)) from by decide)) (fun _ => ?_)
      refine g_goto (tgt := 79) hk dX9_findOdd_35 (by decide) ?_
      obtain ⟨y1006, ey1006⟩ : ∃ y : Int32, y = x1005 + Int32.ofInt 1 := ⟨_, rfl⟩
      refine g_iinc (v := y1006) (lv' := [(2, .int y1006), (0, .ref (q 49)), (1, .int a993)]) hk 0 dX9_findOdd_79 rfl ey1006.symm (by decide) rfl ?_
      have fy1006 : y1006 = nI (k1003 + 1) := by rw [ey1006, ex1005]; exact nI_1 (k1003)
      refine g_goto (tgt := 19) hk dX9_findOdd_82 (by decide) ?_
      rw [fy1006]
      exact g_lv (List.forall_mem_cons.mpr ⟨List.mem_of_getElem? (i := 0) rfl, (List.forall_mem_cons.mpr ⟨List.mem_of_getElem? (i := 1) rfl, (List.forall_mem_cons.mpr ⟨List.mem_of_getElem? (i := 2) rfl, (fun _ h => absurd h List.not_mem_nil)⟩)⟩)⟩) (ih (k1003 + 1) (by omega))
  exact lp1002 160 0 (by omega)
def wo_m292_X11_odd : List Cond := [Cond.methodLink RX11 196 yX11_isStretch, Cond.static yX11_isStretch, Cond.initialized RX11, Cond.fieldLink RX11 81 "WarpDesk" "stretches" "LWarpDesk$Stretches;", Cond.methodLink RX11 344 yX9_findOdd, Cond.instanceMethod yX9_findOdd, Cond.selects RX9 yX9_findOdd yX9_findOdd, Cond.initialized RX9, Cond.fieldLink RX11 350 "WarpDesk$Stretches" "oddDistance" "I", Cond.fieldLink RX11 347 "WarpDesk$Stretches" "oddWindow" "I"]
def wz_m292_X11_odd : List Cond := .code yX11_odd cX11_odd 3 (some .int) :: (wo_m292_X11_odd ++ (wsX90 ++ (wsX110 ++ (wz_m273_X11_isStretch ++ (wz_m293_X9_findOdd ++ ([] : List Cond))))))
theorem zg_m292_X11_odd : ∀ w ∈ wz_m292_X11_odd, goodWord w = true := zg_cons rfl (zg_app (by decide +kernel) (zg_app zgU_wsX90 (zg_app zgU_wsX110 (zg_app zg_m273_X11_isStretch (zg_app zg_m293_X9_findOdd zg_nil)))))
theorem zi_m292_X11_odd : ∀ w ∈ wz_m292_X11_odd, w ∈ lw_tbl := zi_cons zw_1300 (zi_app (zi_cons zw_926 (zi_cons zw_927 (zi_cons zw_103 (zi_cons zw_496 (zi_cons zw_1301 (zi_cons zw_1302 (zi_cons zw_1303 (zi_cons zw_114 (zi_cons zw_463 (zi_cons zw_461 zi_nil)))))))))) (zi_app inX9 (zi_app inX11 (zi_app zi_m273_X11_isStretch (zi_app zi_m293_X9_findOdd zi_nil)))))
set_option maxHeartbeats 4000000 in
set_option maxRecDepth 100000 in
theorem m292_X11_odd (l : Launch) (D : va_G) (zt : Nat × Nat × Nat) (d : Nat → ClassId) (q : Nat → Nat) (a984 : Int32) (a985 : Int32) : GM l D zt (tyX d) yX11_odd wz_m292_X11_odd ({ frames := 3, cells := 0, slots := 0, locals := 67 } : Room) [.ref (q 0), .int a984, .int a985] (wX q d iX0 aX0) (fun v _ w' => ((a984.toInt < 2) ∧ v = some (.int (-1)) ∧ w' = wX q d iX0 aX0) ∨ ((¬ (a984.toInt < 2)) ∧ (16 < a984.toInt) ∧ v = some (.int (-1)) ∧ w' = wX q d iX0 aX0) ∨ ((¬ (a984.toInt < 2)) ∧ (¬ (16 < a984.toInt)) ∧ (a985.toInt < 0) ∧ v = some (.int (-1)) ∧ w' = wX q d iX0 aX0) ∨ ((¬ (a984.toInt < 2)) ∧ (¬ (16 < a984.toInt)) ∧ (¬ (a985.toInt < 0)) ∧ (a985.toInt ≤ 1) ∧ (a985.toInt ≠ 0) ∧ v = some (.int (-2)) ∧ w' = wX q d (upd (upd iX0 43 (-2)) 44 (-2)) aX0) ∨ ((¬ (a984.toInt < 2)) ∧ (¬ (16 < a984.toInt)) ∧ (¬ (a985.toInt < 0)) ∧ (a985.toInt ≤ 1) ∧ (¬ (a985.toInt ≠ 0)) ∧ v = some (.int (-2)) ∧ w' = wX q d (upd (upd iX0 43 (-2)) 44 (-2)) aX0) ∨ ((¬ (a984.toInt < 2)) ∧ (¬ (16 < a984.toInt)) ∧ (¬ (a985.toInt < 0)) ∧ (¬ (a985.toInt ≤ 1)) ∧ v = some (.int (-1)) ∧ w' = wX q d iX0 aX0)) 0 0 := by
  refine GM.of (cc := cX11_odd) (maxL := 3) (ret := (some .int)) (own := RX11) (lv := [(0, .ref (q 0)), (1, .int a984), (2, .int a985)]) (by decide) rfl rfl (Nat.le_of_ble_eq_true rfl) rfl (fun κ sz hk hR hN => ?_)
  have hin9 : ∀ w ∈ u_ws RX9 TX9 11, w ∈ wz_m292_X11_odd := fun w h => (List.mem_cons_of_mem _ (List.mem_append_right _ (List.mem_append_left _ h)))
  have hin11 : ∀ w ∈ u_ws RX11 TX11 10, w ∈ wz_m292_X11_odd := fun w h => (List.mem_cons_of_mem _ (List.mem_append_right _ (List.mem_append_right _ (List.mem_append_left _ h))))
  refine g_iload_n hk dX11_odd_0 rfl ?_
  refine g_callS (n := 1) hk (m273_X11_isStretch l D zt d q a984) (SP.same _) (fun _ h => h) (gi_S (List.mem_cons_of_mem _ (List.mem_append_left _ (List.mem_of_getElem? (i := 0) rfl))) (List.mem_cons_of_mem _ (List.mem_append_left _ (List.mem_of_getElem? (i := 1) rfl))) (List.mem_cons_of_mem _ (List.mem_append_left _ (List.mem_of_getElem? (i := 2) rfl))) (gi_sub (fun w h => (List.mem_cons_of_mem _ (List.mem_append_right _ (List.mem_append_right _ (List.mem_append_right _ (List.mem_append_left _ h)))))) zg_m273_X11_isStretch)) rfl rfl rfl (by decide +kernel) ⟨Nat.le_of_ble_eq_true rfl, Nat.le_of_ble_eq_true rfl⟩ rfl rfl (Nat.le_of_ble_eq_true rfl) ⟨Nat.le_of_ble_eq_true rfl, Nat.le_of_ble_eq_true rfl⟩ dX11_odd_1 (fun v ty' w' hp hk' => ?_)
  rcases hp with ⟨c986, rfl, rfl⟩ | ⟨c987, c988, rfl, rfl⟩ | ⟨c989, c990, rfl, rfl⟩
  · show GW κ 3 0 0 (wX q d iX0 aX0) 4 [(0, .ref (q 0)), (1, .int a984), (2, .int a985)] [.int 0]
    refine g_if_eq (tgt := 16) (a := 0) hk dX11_odd_4 (by decide) rfl (fun _ => ?_) (fun z9 => absurd (show (0 : Int) = (0 : Int) from by decide) z9)
    refine g_iconst (v := (-1)) hk dX11_odd_16 (by decide) ?_
    exact g_iret hk hR rfl (Or.inl ⟨c986, rfl, rfl⟩) dX11_odd_17
  · show GW κ 3 0 0 (wX q d iX0 aX0) 4 [(0, .ref (q 0)), (1, .int a984), (2, .int a985)] [.int 0]
    refine g_if_eq (tgt := 16) (a := 0) hk dX11_odd_4 (by decide) rfl (fun _ => ?_) (fun z9 => absurd (show (0 : Int) = (0 : Int) from by decide) z9)
    refine g_iconst (v := (-1)) hk dX11_odd_16 (by decide) ?_
    exact g_iret hk hR rfl (Or.inr (Or.inl ⟨c987, c988, rfl, rfl⟩)) dX11_odd_17
  · show GW κ 3 0 0 (wX q d iX0 aX0) 4 [(0, .ref (q 0)), (1, .int a984), (2, .int a985)] [.int 1]
    refine g_if_eq (tgt := 16) (a := 1) hk dX11_odd_4 (by decide) rfl (fun z9 => absurd z9 (show ¬ ((1 : Int) = (0 : Int)) from by decide)) (fun _ => ?_)
    refine g_iload_n hk dX11_odd_7 rfl ?_
    refine g_if_lt (tgt := 16) (a := a985.toInt) hk dX11_odd_8 (by decide) rfl (fun c991 => ?_) (fun c991 => ?_)
    · skip
      refine g_iconst (v := (-1)) hk dX11_odd_16 (by decide) ?_
      exact g_iret hk hR rfl (Or.inr (Or.inr (Or.inl ⟨c989, c990, c991, rfl, rfl⟩))) dX11_odd_17
    · skip
      refine g_iload_n hk dX11_odd_11 rfl ?_
      refine g_iconst (v := 1) hk dX11_odd_12 (by decide) ?_
      refine g_icmp_le (tgt := 18) (a := a985.toInt) (b := 1) hk dX11_odd_13 (by decide) rfl rfl (fun c992 => ?_) (fun c992 => ?_)
      · skip
        refine g_aload_n hk dX11_odd_18 rfl ?_
        refine gX_r0_9 hk hin11 (List.mem_cons_of_mem _ (List.mem_append_left _ (List.mem_of_getElem? (i := 3) rfl))) dX11_odd_19 ?_
        refine g_iload_n hk dX11_odd_22 rfl ?_
        refine g_callV (n := 1) hk (m293_X9_findOdd l D zt d q a984 (by omega) (by omega)) (SP.same _) (fun _ h => h) (gi_V (List.mem_cons_of_mem _ (List.mem_append_left _ (List.mem_of_getElem? (i := 4) rfl))) (List.mem_cons_of_mem _ (List.mem_append_left _ (List.mem_of_getElem? (i := 5) rfl))) (List.mem_cons_of_mem _ (List.mem_append_left _ (List.mem_of_getElem? (i := 6) rfl))) (List.mem_cons_of_mem _ (List.mem_append_left _ (List.mem_of_getElem? (i := 7) rfl))) (gi_sub (fun w h => (List.mem_cons_of_mem _ (List.mem_append_right _ (List.mem_append_right _ (List.mem_append_right _ (List.mem_append_right _ (List.mem_append_left _ h))))))) zg_m293_X9_findOdd)) rfl rfl rfl (by decide +kernel) ⟨Nat.le_of_ble_eq_true rfl, Nat.le_of_ble_eq_true rfl⟩ 49 rfl rfl rfl rfl (Nat.le_of_ble_eq_true rfl) ⟨Nat.le_of_ble_eq_true rfl, Nat.le_of_ble_eq_true rfl⟩ dX11_odd_23 (fun v ty' w' hp hk' => ?_)
        obtain ⟨rfl, rfl⟩ := hp
        show GW κ 3 0 0 (wX q d (upd (upd iX0 43 (-2)) 44 (-2)) aX0) 26 [(0, .ref (q 0)), (1, .int a984), (2, .int a985)] []
        refine g_iload_n hk dX11_odd_26 rfl ?_
        refine g_if_ne (tgt := 40) (a := a985.toInt) hk dX11_odd_27 (by decide) rfl (fun c1007 => ?_) (fun c1007 => ?_)
        · skip
          refine g_aload_n hk dX11_odd_40 rfl ?_
          refine gX_r0_9 hk hin11 (List.mem_cons_of_mem _ (List.mem_append_left _ (List.mem_of_getElem? (i := 3) rfl))) dX11_odd_41 ?_
          refine gX_i44 (v := (-2)) hk hin9 (List.mem_cons_of_mem _ (List.mem_append_left _ (List.mem_of_getElem? (i := 8) rfl))) dX11_odd_44 rfl ?_
          exact g_iret hk hR rfl (Or.inr (Or.inr (Or.inr (Or.inl ⟨c989, c990, c991, c992, c1007, rfl, rfl⟩)))) dX11_odd_47
        · skip
          refine g_aload_n hk dX11_odd_30 rfl ?_
          refine gX_r0_9 hk hin11 (List.mem_cons_of_mem _ (List.mem_append_left _ (List.mem_of_getElem? (i := 3) rfl))) dX11_odd_31 ?_
          refine gX_i43 (v := (-2)) hk hin9 (List.mem_cons_of_mem _ (List.mem_append_left _ (List.mem_of_getElem? (i := 9) rfl))) dX11_odd_34 rfl ?_
          refine g_goto (tgt := 47) hk dX11_odd_37 (by decide) ?_
          exact g_iret hk hR rfl (Or.inr (Or.inr (Or.inr (Or.inr (Or.inl ⟨c989, c990, c991, c992, c1007, rfl, rfl⟩))))) dX11_odd_47
      · skip
        refine g_iconst (v := (-1)) hk dX11_odd_16 (by decide) ?_
        exact g_iret hk hR rfl (Or.inr (Or.inr (Or.inr (Or.inr (Or.inr (⟨c989, c990, c991, c992, rfl, rfl⟩)))))) dX11_odd_17
def wo_m296_X11_cover : List Cond := [Cond.fieldLink RX11 35 "WarpDesk" "queries" "LWarpDesk$Queries;", Cond.methodLink RX11 251 yX4_has, Cond.instanceMethod yX4_has, Cond.selects RX4 yX4_has yX4_has, Cond.initialized RX4]
def wz_m296_X11_cover : List Cond := .code yX11_cover cX11_cover 3 (some .int) :: (wo_m296_X11_cover ++ (wsX110 ++ (wz_m240_X4_has ++ ([] : List Cond))))
theorem zg_m296_X11_cover : ∀ w ∈ wz_m296_X11_cover, goodWord w = true := zg_cons rfl (zg_app (by decide +kernel) (zg_app zgU_wsX110 (zg_app zg_m240_X4_has zg_nil)))
theorem zi_m296_X11_cover : ∀ w ∈ wz_m296_X11_cover, w ∈ lw_tbl := zi_cons zw_1184 (zi_app (zi_cons zw_490 (zi_cons zw_1086 (zi_cons zw_747 (zi_cons zw_748 (zi_cons zw_108 zi_nil))))) (zi_app inX11 (zi_app zi_m240_X4_has zi_nil)))
set_option maxHeartbeats 4000000 in
set_option maxRecDepth 100000 in
theorem m296_X11_cover (l : Launch) (D : va_G) (zt : Nat × Nat × Nat) (d : Nat → ClassId) (q : Nat → Nat) (a1008 : Int32) (a1009 : Int32) : GM l D zt (tyX d) yX11_cover wz_m296_X11_cover ({ frames := 1, cells := 0, slots := 0, locals := 21 } : Room) [.ref (q 0), .int a1008, .int a1009] (wX q d iX0 aX0) (fun v _ w' => v = some (.int (-1)) ∧ w' = wX q d iX0 aX0) 0 0 := by
  refine GM.of (cc := cX11_cover) (maxL := 3) (ret := (some .int)) (own := RX11) (lv := [(0, .ref (q 0)), (1, .int a1008), (2, .int a1009)]) (by decide) rfl rfl (Nat.le_of_ble_eq_true rfl) rfl (fun κ sz hk hR hN => ?_)
  have hin11 : ∀ w ∈ u_ws RX11 TX11 10, w ∈ wz_m296_X11_cover := fun w h => (List.mem_cons_of_mem _ (List.mem_append_right _ (List.mem_append_left _ h)))
  refine g_iload_n hk dX11_cover_0 rfl ?_
  refine g_if_lt (tgt := 15) (a := a1009.toInt) hk dX11_cover_1 (by decide) rfl (fun c1010 => ?_) (fun c1010 => ?_)
  · skip
    refine g_iconst (v := (-1)) hk dX11_cover_15 (by decide) ?_
    exact g_iret hk hR rfl ⟨rfl, rfl⟩ dX11_cover_16
  · skip
    refine g_aload_n hk dX11_cover_4 rfl ?_
    refine gX_r0_3 hk hin11 (List.mem_cons_of_mem _ (List.mem_append_left _ (List.mem_of_getElem? (i := 0) rfl))) dX11_cover_5 ?_
    refine g_iload_n hk dX11_cover_8 rfl ?_
    refine g_callV (n := 1) hk (m240_X4_has l D zt d q a1008) (SP.same _) (fun _ h => h) (gi_V (List.mem_cons_of_mem _ (List.mem_append_left _ (List.mem_of_getElem? (i := 1) rfl))) (List.mem_cons_of_mem _ (List.mem_append_left _ (List.mem_of_getElem? (i := 2) rfl))) (List.mem_cons_of_mem _ (List.mem_append_left _ (List.mem_of_getElem? (i := 3) rfl))) (List.mem_cons_of_mem _ (List.mem_append_left _ (List.mem_of_getElem? (i := 4) rfl))) (gi_sub (fun w h => (List.mem_cons_of_mem _ (List.mem_append_right _ (List.mem_append_right _ (List.mem_append_left _ h))))) zg_m240_X4_has)) rfl rfl rfl (by decide +kernel) ⟨Nat.le_of_ble_eq_true rfl, Nat.le_of_ble_eq_true rfl⟩ 15 rfl rfl rfl rfl (Nat.le_of_ble_eq_true rfl) ⟨Nat.le_of_ble_eq_true rfl, Nat.le_of_ble_eq_true rfl⟩ dX11_cover_9 (fun v ty' w' hp hk' => ?_)
    obtain ⟨rfl, rfl⟩ := hp
    show GW κ 3 0 0 (wX q d iX0 aX0) 12 [(0, .ref (q 0)), (1, .int a1008), (2, .int a1009)] [.int 0]
    refine g_if_ne (tgt := 17) (a := 0) hk dX11_cover_12 (by decide) rfl (fun z9 => absurd z9 (show ¬ ((0 : Int) ≠ (0 : Int)) from by decide)) (fun _ => ?_)
    refine g_iconst (v := (-1)) hk dX11_cover_15 (by decide) ?_
    exact g_iret hk hR rfl ⟨rfl, rfl⟩ dX11_cover_16
def wo_m297_X11_lean : List Cond := [Cond.fieldLink RX11 65 "WarpDesk" "bench" "LWarpDesk$Bench;", Cond.methodLink RX11 212 yX0_openBoth, Cond.instanceMethod yX0_openBoth, Cond.selects RX0 yX0_openBoth yX0_openBoth, Cond.initialized RX0]
def wz_m297_X11_lean : List Cond := .code yX11_lean cX11_lean 4 (some .int) :: (wo_m297_X11_lean ++ (wsX110 ++ (wz_m276_X0_openBoth ++ ([] : List Cond))))
theorem zg_m297_X11_lean : ∀ w ∈ wz_m297_X11_lean, goodWord w = true := zg_cons rfl (zg_app (by decide +kernel) (zg_app zgU_wsX110 (zg_app zg_m276_X0_openBoth zg_nil)))
theorem zi_m297_X11_lean : ∀ w ∈ wz_m297_X11_lean, w ∈ lw_tbl := zi_cons zw_1069 (zi_app (zi_cons zw_494 (zi_cons zw_969 (zi_cons zw_970 (zi_cons zw_971 (zi_cons zw_111 zi_nil))))) (zi_app inX11 (zi_app zi_m276_X0_openBoth zi_nil)))
set_option maxHeartbeats 4000000 in
set_option maxRecDepth 100000 in
theorem m297_X11_lean (l : Launch) (D : va_G) (zt : Nat × Nat × Nat) (d : Nat → ClassId) (q : Nat → Nat) (a1011 : Int32) (a1012 : Int32) (a1013 : Int32) : GM l D zt (tyX d) yX11_lean wz_m297_X11_lean ({ frames := 3, cells := 0, slots := 0, locals := 65 } : Room) [.ref (q 0), .int a1011, .int a1012, .int a1013] (wX q d iX0 aX0) (fun v _ w' => v = some (.int (-1)) ∧ w' = wX q d iX0 aX0) 0 0 := by
  refine GM.of (cc := cX11_lean) (maxL := 4) (ret := (some .int)) (own := RX11) (lv := [(0, .ref (q 0)), (1, .int a1011), (2, .int a1012), (3, .int a1013)]) (by decide) rfl rfl (Nat.le_of_ble_eq_true rfl) rfl (fun κ sz hk hR hN => ?_)
  have hin11 : ∀ w ∈ u_ws RX11 TX11 10, w ∈ wz_m297_X11_lean := fun w h => (List.mem_cons_of_mem _ (List.mem_append_right _ (List.mem_append_left _ h)))
  refine g_iload_n hk dX11_lean_0 rfl ?_
  refine g_if_lt (tgt := 21) (a := a1013.toInt) hk dX11_lean_1 (by decide) rfl (fun c1014 => ?_) (fun c1014 => ?_)
  · skip
    refine g_iconst (v := (-1)) hk dX11_lean_21 (by decide) ?_
    exact g_iret hk hR rfl ⟨rfl, rfl⟩ dX11_lean_22
  · skip
    refine g_iload_n hk dX11_lean_4 rfl ?_
    refine g_iconst (v := 1) hk dX11_lean_5 (by decide) ?_
    refine g_icmp_gt (tgt := 21) (a := a1013.toInt) (b := 1) hk dX11_lean_6 (by decide) rfl rfl (fun c1015 => ?_) (fun c1015 => ?_)
    · skip
      refine g_iconst (v := (-1)) hk dX11_lean_21 (by decide) ?_
      exact g_iret hk hR rfl ⟨rfl, rfl⟩ dX11_lean_22
    · skip
      refine g_aload_n hk dX11_lean_9 rfl ?_
      refine gX_r0_7 hk hin11 (List.mem_cons_of_mem _ (List.mem_append_left _ (List.mem_of_getElem? (i := 0) rfl))) dX11_lean_10 ?_
      refine g_iload_n hk dX11_lean_13 rfl ?_
      refine g_iload_n hk dX11_lean_14 rfl ?_
      refine g_callV (n := 2) hk (m276_X0_openBoth l D zt d q a1011 a1012) (SP.same _) (fun _ h => h) (gi_V (List.mem_cons_of_mem _ (List.mem_append_left _ (List.mem_of_getElem? (i := 1) rfl))) (List.mem_cons_of_mem _ (List.mem_append_left _ (List.mem_of_getElem? (i := 2) rfl))) (List.mem_cons_of_mem _ (List.mem_append_left _ (List.mem_of_getElem? (i := 3) rfl))) (List.mem_cons_of_mem _ (List.mem_append_left _ (List.mem_of_getElem? (i := 4) rfl))) (gi_sub (fun w h => (List.mem_cons_of_mem _ (List.mem_append_right _ (List.mem_append_right _ (List.mem_append_left _ h))))) zg_m276_X0_openBoth)) rfl rfl rfl (by decide +kernel) ⟨Nat.le_of_ble_eq_true rfl, Nat.le_of_ble_eq_true rfl⟩ 37 rfl rfl rfl rfl (Nat.le_of_ble_eq_true rfl) ⟨Nat.le_of_ble_eq_true rfl, Nat.le_of_ble_eq_true rfl⟩ dX11_lean_15 (fun v ty' w' hp hk' => ?_)
      obtain ⟨rfl, rfl⟩ := hp
      show GW κ 4 0 0 (wX q d iX0 aX0) 18 [(0, .ref (q 0)), (1, .int a1011), (2, .int a1012), (3, .int a1013)] [.int 0]
      refine g_if_ne (tgt := 23) (a := 0) hk dX11_lean_18 (by decide) rfl (fun z9 => absurd z9 (show ¬ ((0 : Int) ≠ (0 : Int)) from by decide)) (fun _ => ?_)
      refine g_iconst (v := (-1)) hk dX11_lean_21 (by decide) ?_
      exact g_iret hk hR rfl ⟨rfl, rfl⟩ dX11_lean_22
def wo_m299_X6_hasWindow : List Cond := [Cond.fieldLink RX6 19 "WarpDesk$Series" "size" "I"]
def wz_m299_X6_hasWindow : List Cond := .code yX6_hasWindow cX6_hasWindow 4 (some .boolean) :: (wo_m299_X6_hasWindow ++ (wsX60 ++ ([] : List Cond)))
theorem zg_m299_X6_hasWindow : ∀ w ∈ wz_m299_X6_hasWindow, goodWord w = true := zg_cons rfl (zg_app (by decide +kernel) (zg_app zgU_wsX60 zg_nil))
theorem zi_m299_X6_hasWindow : ∀ w ∈ wz_m299_X6_hasWindow, w ∈ lw_tbl := zi_cons zw_904 (zi_app (zi_cons zw_282 zi_nil) (zi_app inX6 zi_nil))
set_option maxHeartbeats 4000000 in
set_option maxRecDepth 100000 in
theorem m299_X6_hasWindow (l : Launch) (D : va_G) (zt : Nat × Nat × Nat) (d : Nat → ClassId) (q : Nat → Nat) (a1018 : Int32) (a1019 : Int32) : GM l D zt (tyX d) yX6_hasWindow wz_m299_X6_hasWindow ({ frames := 0, cells := 0, slots := 0, locals := 0 } : Room) [.ref (q 13), .int a1018, .int a1019] (wX q d iX0 aX0) (fun v _ w' => v = some (.int 0) ∧ w' = wX q d iX0 aX0) 0 0 := by
  refine GM.of (cc := cX6_hasWindow) (maxL := 4) (ret := (some .boolean)) (own := RX6) (lv := [(0, .ref (q 13)), (1, .int a1018), (2, .int a1019)]) (by decide) rfl rfl (Nat.le_of_ble_eq_true rfl) rfl (fun κ sz hk hR hN => ?_)
  have hin6 : ∀ w ∈ u_ws RX6 TX6 3, w ∈ wz_m299_X6_hasWindow := fun w h => (List.mem_cons_of_mem _ (List.mem_append_right _ (List.mem_append_left _ h)))
  refine g_iload_n hk dX6_hasWindow_0 rfl ?_
  refine g_if_lt (tgt := 27) (a := a1018.toInt) hk dX6_hasWindow_1 (by decide) rfl (fun c1020 => ?_) (fun c1020 => ?_)
  · skip
    refine g_iconst (v := 0) hk dX6_hasWindow_27 (by decide) ?_
    exact g_iret hk hR rfl ⟨rfl, rfl⟩ dX6_hasWindow_28
  · skip
    refine g_iload_n hk dX6_hasWindow_4 rfl ?_
    refine g_aload_n hk dX6_hasWindow_5 rfl ?_
    refine gX_i18 (v := 0) hk hin6 (List.mem_cons_of_mem _ (List.mem_append_left _ (List.mem_of_getElem? (i := 0) rfl))) dX6_hasWindow_6 rfl ?_
    refine g_icmp_ge (tgt := 27) (a := a1018.toInt) (b := 0) hk dX6_hasWindow_9 (by decide) rfl rfl (fun _ => ?_) (fun z9 => absurd (show 0 ≤ a1018.toInt from by omega) z9)
    refine g_iconst (v := 0) hk dX6_hasWindow_27 (by decide) ?_
    exact g_iret hk hR rfl ⟨rfl, rfl⟩ dX6_hasWindow_28
def wo_m298_X11_whose : List Cond := [Cond.fieldLink RX11 28 "WarpDesk" "series" "LWarpDesk$Series;", Cond.methodLink RX11 183 yX6_hasWindow, Cond.instanceMethod yX6_hasWindow, Cond.selects RX6 yX6_hasWindow yX6_hasWindow, Cond.initialized RX6]
def wz_m298_X11_whose : List Cond := .code yX11_whose cX11_whose 3 (some .int) :: (wo_m298_X11_whose ++ (wsX110 ++ (wz_m299_X6_hasWindow ++ ([] : List Cond))))
theorem zg_m298_X11_whose : ∀ w ∈ wz_m298_X11_whose, goodWord w = true := zg_cons rfl (zg_app (by decide +kernel) (zg_app zgU_wsX110 (zg_app zg_m299_X6_hasWindow zg_nil)))
theorem zi_m298_X11_whose : ∀ w ∈ wz_m298_X11_whose, w ∈ lw_tbl := zi_cons zw_1096 (zi_app (zi_cons zw_489 (zi_cons zw_901 (zi_cons zw_902 (zi_cons zw_903 (zi_cons zw_109 zi_nil))))) (zi_app inX11 (zi_app zi_m299_X6_hasWindow zi_nil)))
set_option maxHeartbeats 4000000 in
set_option maxRecDepth 100000 in
theorem m298_X11_whose (l : Launch) (D : va_G) (zt : Nat × Nat × Nat) (d : Nat → ClassId) (q : Nat → Nat) (a1016 : Int32) (a1017 : Int32) : GM l D zt (tyX d) yX11_whose wz_m298_X11_whose ({ frames := 1, cells := 0, slots := 0, locals := 23 } : Room) [.ref (q 0), .int a1016, .int a1017] (wX q d iX0 aX0) (fun v _ w' => v = some (.int (-1)) ∧ w' = wX q d iX0 aX0) 0 0 := by
  refine GM.of (cc := cX11_whose) (maxL := 3) (ret := (some .int)) (own := RX11) (lv := [(0, .ref (q 0)), (1, .int a1016), (2, .int a1017)]) (by decide) rfl rfl (Nat.le_of_ble_eq_true rfl) rfl (fun κ sz hk hR hN => ?_)
  have hin11 : ∀ w ∈ u_ws RX11 TX11 10, w ∈ wz_m298_X11_whose := fun w h => (List.mem_cons_of_mem _ (List.mem_append_right _ (List.mem_append_left _ h)))
  refine g_aload_n hk dX11_whose_0 rfl ?_
  refine gX_r0_2 hk hin11 (List.mem_cons_of_mem _ (List.mem_append_left _ (List.mem_of_getElem? (i := 0) rfl))) dX11_whose_1 ?_
  refine g_iload_n hk dX11_whose_4 rfl ?_
  refine g_iload_n hk dX11_whose_5 rfl ?_
  refine g_callV (n := 2) hk (m299_X6_hasWindow l D zt d q a1016 a1017) (SP.same _) (fun _ h => h) (gi_V (List.mem_cons_of_mem _ (List.mem_append_left _ (List.mem_of_getElem? (i := 1) rfl))) (List.mem_cons_of_mem _ (List.mem_append_left _ (List.mem_of_getElem? (i := 2) rfl))) (List.mem_cons_of_mem _ (List.mem_append_left _ (List.mem_of_getElem? (i := 3) rfl))) (List.mem_cons_of_mem _ (List.mem_append_left _ (List.mem_of_getElem? (i := 4) rfl))) (gi_sub (fun w h => (List.mem_cons_of_mem _ (List.mem_append_right _ (List.mem_append_right _ (List.mem_append_left _ h))))) zg_m299_X6_hasWindow)) rfl rfl rfl (by decide +kernel) ⟨Nat.le_of_ble_eq_true rfl, Nat.le_of_ble_eq_true rfl⟩ 13 rfl rfl rfl rfl (Nat.le_of_ble_eq_true rfl) ⟨Nat.le_of_ble_eq_true rfl, Nat.le_of_ble_eq_true rfl⟩ dX11_whose_6 (fun v ty' w' hp hk' => ?_)
  obtain ⟨rfl, rfl⟩ := hp
  show GW κ 3 0 0 (wX q d iX0 aX0) 9 [(0, .ref (q 0)), (1, .int a1016), (2, .int a1017)] [.int 0]
  refine g_if_eq (tgt := 24) (a := 0) hk dX11_whose_9 (by decide) rfl (fun _ => ?_) (fun z9 => absurd (show (0 : Int) = (0 : Int) from by decide) z9)
  refine g_iconst (v := (-1)) hk dX11_whose_24 (by decide) ?_
  exact g_iret hk hR rfl ⟨rfl, rfl⟩ dX11_whose_25
def wo_m300_X11_rank : List Cond := [Cond.fieldLink RX11 65 "WarpDesk" "bench" "LWarpDesk$Bench;", Cond.methodLink RX11 299 yX0_hasBoth, Cond.instanceMethod yX0_hasBoth, Cond.selects RX0 yX0_hasBoth yX0_hasBoth, Cond.initialized RX0]
def wz_m300_X11_rank : List Cond := .code yX11_rank cX11_rank 3 (some .int) :: (wo_m300_X11_rank ++ (wsX110 ++ (wz_m277_X0_hasBoth ++ ([] : List Cond))))
theorem zg_m300_X11_rank : ∀ w ∈ wz_m300_X11_rank, goodWord w = true := zg_cons rfl (zg_app (by decide +kernel) (zg_app zgU_wsX110 (zg_app zg_m277_X0_hasBoth zg_nil)))
theorem zi_m300_X11_rank : ∀ w ∈ wz_m300_X11_rank, w ∈ lw_tbl := zi_cons zw_1207 (zi_app (zi_cons zw_494 (zi_cons zw_1198 (zi_cons zw_974 (zi_cons zw_975 (zi_cons zw_111 zi_nil))))) (zi_app inX11 (zi_app zi_m277_X0_hasBoth zi_nil)))
set_option maxHeartbeats 4000000 in
set_option maxRecDepth 100000 in
theorem m300_X11_rank (l : Launch) (D : va_G) (zt : Nat × Nat × Nat) (d : Nat → ClassId) (q : Nat → Nat) (a1021 : Int32) (a1022 : Int32) : GM l D zt (tyX d) yX11_rank wz_m300_X11_rank ({ frames := 2, cells := 0, slots := 0, locals := 43 } : Room) [.ref (q 0), .int a1021, .int a1022] (wX q d iX0 aX0) (fun v _ w' => v = some (.int (-1)) ∧ w' = wX q d iX0 aX0) 0 0 := by
  refine GM.of (cc := cX11_rank) (maxL := 3) (ret := (some .int)) (own := RX11) (lv := [(0, .ref (q 0)), (1, .int a1021), (2, .int a1022)]) (by decide) rfl rfl (Nat.le_of_ble_eq_true rfl) rfl (fun κ sz hk hR hN => ?_)
  have hin11 : ∀ w ∈ u_ws RX11 TX11 10, w ∈ wz_m300_X11_rank := fun w h => (List.mem_cons_of_mem _ (List.mem_append_right _ (List.mem_append_left _ h)))
  refine g_aload_n hk dX11_rank_0 rfl ?_
  refine gX_r0_7 hk hin11 (List.mem_cons_of_mem _ (List.mem_append_left _ (List.mem_of_getElem? (i := 0) rfl))) dX11_rank_1 ?_
  refine g_iload_n hk dX11_rank_4 rfl ?_
  refine g_iload_n hk dX11_rank_5 rfl ?_
  refine g_callV (n := 2) hk (m277_X0_hasBoth l D zt d q a1021 a1022) (SP.same _) (fun _ h => h) (gi_V (List.mem_cons_of_mem _ (List.mem_append_left _ (List.mem_of_getElem? (i := 1) rfl))) (List.mem_cons_of_mem _ (List.mem_append_left _ (List.mem_of_getElem? (i := 2) rfl))) (List.mem_cons_of_mem _ (List.mem_append_left _ (List.mem_of_getElem? (i := 3) rfl))) (List.mem_cons_of_mem _ (List.mem_append_left _ (List.mem_of_getElem? (i := 4) rfl))) (gi_sub (fun w h => (List.mem_cons_of_mem _ (List.mem_append_right _ (List.mem_append_right _ (List.mem_append_left _ h))))) zg_m277_X0_hasBoth)) rfl rfl rfl (by decide +kernel) ⟨Nat.le_of_ble_eq_true rfl, Nat.le_of_ble_eq_true rfl⟩ 37 rfl rfl rfl rfl (Nat.le_of_ble_eq_true rfl) ⟨Nat.le_of_ble_eq_true rfl, Nat.le_of_ble_eq_true rfl⟩ dX11_rank_6 (fun v ty' w' hp hk' => ?_)
  obtain ⟨rfl, rfl⟩ := hp
  show GW κ 3 0 0 (wX q d iX0 aX0) 9 [(0, .ref (q 0)), (1, .int a1021), (2, .int a1022)] [.int 0]
  refine g_if_ne (tgt := 14) (a := 0) hk dX11_rank_9 (by decide) rfl (fun z9 => absurd z9 (show ¬ ((0 : Int) ≠ (0 : Int)) from by decide)) (fun _ => ?_)
  refine g_iconst (v := (-1)) hk dX11_rank_12 (by decide) ?_
  exact g_iret hk hR rfl ⟨rfl, rfl⟩ dX11_rank_13
def wo_m301_X11_kth : List Cond := [Cond.fieldLink RX11 35 "WarpDesk" "queries" "LWarpDesk$Queries;", Cond.methodLink RX11 251 yX4_has, Cond.instanceMethod yX4_has, Cond.selects RX4 yX4_has yX4_has, Cond.initialized RX4]
def wz_m301_X11_kth : List Cond := .code yX11_kth cX11_kth 5 (some .int) :: (wo_m301_X11_kth ++ (wsX110 ++ (wz_m240_X4_has ++ ([] : List Cond))))
theorem zg_m301_X11_kth : ∀ w ∈ wz_m301_X11_kth, goodWord w = true := zg_cons rfl (zg_app (by decide +kernel) (zg_app zgU_wsX110 (zg_app zg_m240_X4_has zg_nil)))
theorem zi_m301_X11_kth : ∀ w ∈ wz_m301_X11_kth, w ∈ lw_tbl := zi_cons zw_1220 (zi_app (zi_cons zw_490 (zi_cons zw_1086 (zi_cons zw_747 (zi_cons zw_748 (zi_cons zw_108 zi_nil))))) (zi_app inX11 (zi_app zi_m240_X4_has zi_nil)))
set_option maxHeartbeats 4000000 in
set_option maxRecDepth 100000 in
theorem m301_X11_kth (l : Launch) (D : va_G) (zt : Nat × Nat × Nat) (d : Nat → ClassId) (q : Nat → Nat) (a1023 : Int32) (a1024 : Int32) (a1025 : Int32) : GM l D zt (tyX d) yX11_kth wz_m301_X11_kth ({ frames := 1, cells := 0, slots := 0, locals := 21 } : Room) [.ref (q 0), .int a1023, .int a1024, .int a1025] (wX q d iX0 aX0) (fun v _ w' => v = some (.int (-1)) ∧ w' = wX q d iX0 aX0) 0 0 := by
  refine GM.of (cc := cX11_kth) (maxL := 5) (ret := (some .int)) (own := RX11) (lv := [(0, .ref (q 0)), (1, .int a1023), (2, .int a1024), (3, .int a1025)]) (by decide) rfl rfl (Nat.le_of_ble_eq_true rfl) rfl (fun κ sz hk hR hN => ?_)
  have hin11 : ∀ w ∈ u_ws RX11 TX11 10, w ∈ wz_m301_X11_kth := fun w h => (List.mem_cons_of_mem _ (List.mem_append_right _ (List.mem_append_left _ h)))
  refine g_iload_n hk dX11_kth_0 rfl ?_
  refine g_if_lt (tgt := 24) (a := a1024.toInt) hk dX11_kth_1 (by decide) rfl (fun c1026 => ?_) (fun c1026 => ?_)
  · skip
    refine g_iconst (v := (-1)) hk dX11_kth_24 (by decide) ?_
    exact g_iret hk hR rfl ⟨rfl, rfl⟩ dX11_kth_25
  · skip
    refine g_iload_n hk dX11_kth_4 rfl ?_
    refine g_if_lt (tgt := 24) (a := a1025.toInt) hk dX11_kth_5 (by decide) rfl (fun c1027 => ?_) (fun c1027 => ?_)
    · skip
      refine g_iconst (v := (-1)) hk dX11_kth_24 (by decide) ?_
      exact g_iret hk hR rfl ⟨rfl, rfl⟩ dX11_kth_25
    · skip
      refine g_iload_n hk dX11_kth_8 rfl ?_
      refine g_iconst (v := 1) hk dX11_kth_9 (by decide) ?_
      refine g_icmp_gt (tgt := 24) (a := a1025.toInt) (b := 1) hk dX11_kth_10 (by decide) rfl rfl (fun c1028 => ?_) (fun c1028 => ?_)
      · skip
        refine g_iconst (v := (-1)) hk dX11_kth_24 (by decide) ?_
        exact g_iret hk hR rfl ⟨rfl, rfl⟩ dX11_kth_25
      · skip
        refine g_aload_n hk dX11_kth_13 rfl ?_
        refine gX_r0_3 hk hin11 (List.mem_cons_of_mem _ (List.mem_append_left _ (List.mem_of_getElem? (i := 0) rfl))) dX11_kth_14 ?_
        refine g_iload_n hk dX11_kth_17 rfl ?_
        refine g_callV (n := 1) hk (m240_X4_has l D zt d q a1023) (SP.same _) (fun _ h => h) (gi_V (List.mem_cons_of_mem _ (List.mem_append_left _ (List.mem_of_getElem? (i := 1) rfl))) (List.mem_cons_of_mem _ (List.mem_append_left _ (List.mem_of_getElem? (i := 2) rfl))) (List.mem_cons_of_mem _ (List.mem_append_left _ (List.mem_of_getElem? (i := 3) rfl))) (List.mem_cons_of_mem _ (List.mem_append_left _ (List.mem_of_getElem? (i := 4) rfl))) (gi_sub (fun w h => (List.mem_cons_of_mem _ (List.mem_append_right _ (List.mem_append_right _ (List.mem_append_left _ h))))) zg_m240_X4_has)) rfl rfl rfl (by decide +kernel) ⟨Nat.le_of_ble_eq_true rfl, Nat.le_of_ble_eq_true rfl⟩ 15 rfl rfl rfl rfl (Nat.le_of_ble_eq_true rfl) ⟨Nat.le_of_ble_eq_true rfl, Nat.le_of_ble_eq_true rfl⟩ dX11_kth_18 (fun v ty' w' hp hk' => ?_)
        obtain ⟨rfl, rfl⟩ := hp
        show GW κ 5 0 0 (wX q d iX0 aX0) 21 [(0, .ref (q 0)), (1, .int a1023), (2, .int a1024), (3, .int a1025)] [.int 0]
        refine g_if_ne (tgt := 26) (a := 0) hk dX11_kth_21 (by decide) rfl (fun z9 => absurd z9 (show ¬ ((0 : Int) ≠ (0 : Int)) from by decide)) (fun _ => ?_)
        refine g_iconst (v := (-1)) hk dX11_kth_24 (by decide) ?_
        exact g_iret hk hR rfl ⟨rfl, rfl⟩ dX11_kth_25
def wo_m302_X11_slack : List Cond := [Cond.fieldLink RX11 35 "WarpDesk" "queries" "LWarpDesk$Queries;", Cond.methodLink RX11 251 yX4_has, Cond.instanceMethod yX4_has, Cond.selects RX4 yX4_has yX4_has, Cond.initialized RX4]
def wz_m302_X11_slack : List Cond := .code yX11_slack cX11_slack 2 (some .int) :: (wo_m302_X11_slack ++ (wsX110 ++ (wz_m240_X4_has ++ ([] : List Cond))))
theorem zg_m302_X11_slack : ∀ w ∈ wz_m302_X11_slack, goodWord w = true := zg_cons rfl (zg_app (by decide +kernel) (zg_app zgU_wsX110 (zg_app zg_m240_X4_has zg_nil)))
theorem zi_m302_X11_slack : ∀ w ∈ wz_m302_X11_slack, w ∈ lw_tbl := zi_cons zw_1230 (zi_app (zi_cons zw_490 (zi_cons zw_1086 (zi_cons zw_747 (zi_cons zw_748 (zi_cons zw_108 zi_nil))))) (zi_app inX11 (zi_app zi_m240_X4_has zi_nil)))
set_option maxHeartbeats 4000000 in
set_option maxRecDepth 100000 in
theorem m302_X11_slack (l : Launch) (D : va_G) (zt : Nat × Nat × Nat) (d : Nat → ClassId) (q : Nat → Nat) (a1029 : Int32) : GM l D zt (tyX d) yX11_slack wz_m302_X11_slack ({ frames := 1, cells := 0, slots := 0, locals := 21 } : Room) [.ref (q 0), .int a1029] (wX q d iX0 aX0) (fun v _ w' => v = some (.int (-1)) ∧ w' = wX q d iX0 aX0) 0 0 := by
  refine GM.of (cc := cX11_slack) (maxL := 2) (ret := (some .int)) (own := RX11) (lv := [(0, .ref (q 0)), (1, .int a1029)]) (by decide) rfl rfl (Nat.le_of_ble_eq_true rfl) rfl (fun κ sz hk hR hN => ?_)
  have hin11 : ∀ w ∈ u_ws RX11 TX11 10, w ∈ wz_m302_X11_slack := fun w h => (List.mem_cons_of_mem _ (List.mem_append_right _ (List.mem_append_left _ h)))
  refine g_aload_n hk dX11_slack_0 rfl ?_
  refine gX_r0_3 hk hin11 (List.mem_cons_of_mem _ (List.mem_append_left _ (List.mem_of_getElem? (i := 0) rfl))) dX11_slack_1 ?_
  refine g_iload_n hk dX11_slack_4 rfl ?_
  refine g_callV (n := 1) hk (m240_X4_has l D zt d q a1029) (SP.same _) (fun _ h => h) (gi_V (List.mem_cons_of_mem _ (List.mem_append_left _ (List.mem_of_getElem? (i := 1) rfl))) (List.mem_cons_of_mem _ (List.mem_append_left _ (List.mem_of_getElem? (i := 2) rfl))) (List.mem_cons_of_mem _ (List.mem_append_left _ (List.mem_of_getElem? (i := 3) rfl))) (List.mem_cons_of_mem _ (List.mem_append_left _ (List.mem_of_getElem? (i := 4) rfl))) (gi_sub (fun w h => (List.mem_cons_of_mem _ (List.mem_append_right _ (List.mem_append_right _ (List.mem_append_left _ h))))) zg_m240_X4_has)) rfl rfl rfl (by decide +kernel) ⟨Nat.le_of_ble_eq_true rfl, Nat.le_of_ble_eq_true rfl⟩ 15 rfl rfl rfl rfl (Nat.le_of_ble_eq_true rfl) ⟨Nat.le_of_ble_eq_true rfl, Nat.le_of_ble_eq_true rfl⟩ dX11_slack_5 (fun v ty' w' hp hk' => ?_)
  obtain ⟨rfl, rfl⟩ := hp
  show GW κ 2 0 0 (wX q d iX0 aX0) 8 [(0, .ref (q 0)), (1, .int a1029)] [.int 0]
  refine g_if_eq (tgt := 22) (a := 0) hk dX11_slack_8 (by decide) rfl (fun _ => ?_) (fun z9 => absurd (show (0 : Int) = (0 : Int) from by decide) z9)
  refine g_iconst (v := (-1)) hk dX11_slack_22 (by decide) ?_
  exact g_iret hk hR rfl ⟨rfl, rfl⟩ dX11_slack_23
def wo_m303_X11_turns : List Cond := [Cond.fieldLink RX11 35 "WarpDesk" "queries" "LWarpDesk$Queries;", Cond.methodLink RX11 251 yX4_has, Cond.instanceMethod yX4_has, Cond.selects RX4 yX4_has yX4_has, Cond.initialized RX4]
def wz_m303_X11_turns : List Cond := .code yX11_turns cX11_turns 2 (some .int) :: (wo_m303_X11_turns ++ (wsX110 ++ (wz_m240_X4_has ++ ([] : List Cond))))
theorem zg_m303_X11_turns : ∀ w ∈ wz_m303_X11_turns, goodWord w = true := zg_cons rfl (zg_app (by decide +kernel) (zg_app zgU_wsX110 (zg_app zg_m240_X4_has zg_nil)))
theorem zi_m303_X11_turns : ∀ w ∈ wz_m303_X11_turns, w ∈ lw_tbl := zi_cons zw_1242 (zi_app (zi_cons zw_490 (zi_cons zw_1086 (zi_cons zw_747 (zi_cons zw_748 (zi_cons zw_108 zi_nil))))) (zi_app inX11 (zi_app zi_m240_X4_has zi_nil)))
set_option maxHeartbeats 4000000 in
set_option maxRecDepth 100000 in
theorem m303_X11_turns (l : Launch) (D : va_G) (zt : Nat × Nat × Nat) (d : Nat → ClassId) (q : Nat → Nat) (a1030 : Int32) : GM l D zt (tyX d) yX11_turns wz_m303_X11_turns ({ frames := 1, cells := 0, slots := 0, locals := 21 } : Room) [.ref (q 0), .int a1030] (wX q d iX0 aX0) (fun v _ w' => v = some (.int (-1)) ∧ w' = wX q d iX0 aX0) 0 0 := by
  refine GM.of (cc := cX11_turns) (maxL := 2) (ret := (some .int)) (own := RX11) (lv := [(0, .ref (q 0)), (1, .int a1030)]) (by decide) rfl rfl (Nat.le_of_ble_eq_true rfl) rfl (fun κ sz hk hR hN => ?_)
  have hin11 : ∀ w ∈ u_ws RX11 TX11 10, w ∈ wz_m303_X11_turns := fun w h => (List.mem_cons_of_mem _ (List.mem_append_right _ (List.mem_append_left _ h)))
  refine g_aload_n hk dX11_turns_0 rfl ?_
  refine gX_r0_3 hk hin11 (List.mem_cons_of_mem _ (List.mem_append_left _ (List.mem_of_getElem? (i := 0) rfl))) dX11_turns_1 ?_
  refine g_iload_n hk dX11_turns_4 rfl ?_
  refine g_callV (n := 1) hk (m240_X4_has l D zt d q a1030) (SP.same _) (fun _ h => h) (gi_V (List.mem_cons_of_mem _ (List.mem_append_left _ (List.mem_of_getElem? (i := 1) rfl))) (List.mem_cons_of_mem _ (List.mem_append_left _ (List.mem_of_getElem? (i := 2) rfl))) (List.mem_cons_of_mem _ (List.mem_append_left _ (List.mem_of_getElem? (i := 3) rfl))) (List.mem_cons_of_mem _ (List.mem_append_left _ (List.mem_of_getElem? (i := 4) rfl))) (gi_sub (fun w h => (List.mem_cons_of_mem _ (List.mem_append_right _ (List.mem_append_right _ (List.mem_append_left _ h))))) zg_m240_X4_has)) rfl rfl rfl (by decide +kernel) ⟨Nat.le_of_ble_eq_true rfl, Nat.le_of_ble_eq_true rfl⟩ 15 rfl rfl rfl rfl (Nat.le_of_ble_eq_true rfl) ⟨Nat.le_of_ble_eq_true rfl, Nat.le_of_ble_eq_true rfl⟩ dX11_turns_5 (fun v ty' w' hp hk' => ?_)
  obtain ⟨rfl, rfl⟩ := hp
  show GW κ 2 0 0 (wX q d iX0 aX0) 8 [(0, .ref (q 0)), (1, .int a1030)] [.int 0]
  refine g_if_ne (tgt := 13) (a := 0) hk dX11_turns_8 (by decide) rfl (fun z9 => absurd z9 (show ¬ ((0 : Int) ≠ (0 : Int)) from by decide)) (fun _ => ?_)
  refine g_iconst (v := (-1)) hk dX11_turns_11 (by decide) ?_
  exact g_iret hk hR rfl ⟨rfl, rfl⟩ dX11_turns_12
def wo_m305_X6_flatWindows : List Cond := [Cond.fieldLink RX6 19 "WarpDesk$Series" "size" "I"]
def wz_m305_X6_flatWindows : List Cond := .code yX6_flatWindows cX6_flatWindows 5 (some .int) :: (wo_m305_X6_flatWindows ++ (wsX60 ++ ([] : List Cond)))
theorem zg_m305_X6_flatWindows : ∀ w ∈ wz_m305_X6_flatWindows, goodWord w = true := zg_cons rfl (zg_app (by decide +kernel) (zg_app zgU_wsX60 zg_nil))
theorem zi_m305_X6_flatWindows : ∀ w ∈ wz_m305_X6_flatWindows, w ∈ lw_tbl := zi_cons zw_1312 (zi_app (zi_cons zw_282 zi_nil) (zi_app inX6 zi_nil))
set_option maxHeartbeats 4000000 in
set_option maxRecDepth 100000 in
theorem m305_X6_flatWindows (l : Launch) (D : va_G) (zt : Nat × Nat × Nat) (d : Nat → ClassId) (q : Nat → Nat) (a1034 : Int32) (h0 : 1 ≤ a1034.toInt) (h1 : a1034.toInt ≤ 160) : GM l D zt (tyX d) yX6_flatWindows wz_m305_X6_flatWindows ({ frames := 0, cells := 0, slots := 0, locals := 0 } : Room) [.ref (q 13), .int a1034] (wX q d iX0 aX0) (fun v _ w' => v = some (.int 0) ∧ w' = wX q d iX0 aX0) 0 0 := by
  refine GM.of (cc := cX6_flatWindows) (maxL := 5) (ret := (some .int)) (own := RX6) (lv := [(0, .ref (q 13)), (1, .int a1034)]) (by decide) rfl rfl (Nat.le_of_ble_eq_true rfl) rfl (fun κ sz hk hR hN => ?_)
  have hin6 : ∀ w ∈ u_ws RX6 TX6 3, w ∈ wz_m305_X6_flatWindows := fun w h => (List.mem_cons_of_mem _ (List.mem_append_right _ (List.mem_append_left _ h)))
  refine g_iconst (v := 0) hk dX6_flatWindows_0 (by decide) ?_
  refine g_istore_n (lv' := [(2, .int 0), (0, .ref (q 13)), (1, .int a1034)]) hk dX6_flatWindows_1 (by decide) rfl ?_
  refine g_iconst (v := 0) hk dX6_flatWindows_2 (by decide) ?_
  refine g_istore_n (lv' := [(3, .int 0), (2, .int 0), (0, .ref (q 13)), (1, .int a1034)]) hk dX6_flatWindows_3 (by decide) rfl ?_
  refine g_iconst (v := 0) hk dX6_flatWindows_4 (by decide) ?_
  refine g_istore (lv' := [(4, .int 0), (3, .int 0), (2, .int 0), (0, .ref (q 13)), (1, .int a1034)]) hk dX6_flatWindows_5 (by decide) rfl ?_
  refine g_iload hk dX6_flatWindows_7 rfl ?_
  refine g_aload_n hk dX6_flatWindows_9 rfl ?_
  refine gX_i18 (v := 0) hk hin6 (List.mem_cons_of_mem _ (List.mem_append_left _ (List.mem_of_getElem? (i := 0) rfl))) dX6_flatWindows_10 rfl ?_
  refine g_icmp_ge (tgt := 73) (a := 0) (b := 0) hk dX6_flatWindows_13 (by decide) rfl rfl (fun _ => ?_) (fun z9 => absurd (show (0 : Int) ≤ (0 : Int) from by decide) z9)
  refine g_iload_n hk dX6_flatWindows_73 rfl ?_
  exact g_iret hk hR rfl ⟨rfl, rfl⟩ dX6_flatWindows_74
def wo_m304_X11_flat : List Cond := [Cond.fieldLink RX11 28 "WarpDesk" "series" "LWarpDesk$Series;", Cond.methodLink RX11 353 yX6_flatWindows, Cond.instanceMethod yX6_flatWindows, Cond.selects RX6 yX6_flatWindows yX6_flatWindows, Cond.initialized RX6]
def wz_m304_X11_flat : List Cond := .code yX11_flat cX11_flat 2 (some .int) :: (wo_m304_X11_flat ++ (wsX110 ++ (wz_m305_X6_flatWindows ++ ([] : List Cond))))
theorem zg_m304_X11_flat : ∀ w ∈ wz_m304_X11_flat, goodWord w = true := zg_cons rfl (zg_app (by decide +kernel) (zg_app zgU_wsX110 (zg_app zg_m305_X6_flatWindows zg_nil)))
theorem zi_m304_X11_flat : ∀ w ∈ wz_m304_X11_flat, w ∈ lw_tbl := zi_cons zw_1308 (zi_app (zi_cons zw_489 (zi_cons zw_1309 (zi_cons zw_1310 (zi_cons zw_1311 (zi_cons zw_109 zi_nil))))) (zi_app inX11 (zi_app zi_m305_X6_flatWindows zi_nil)))
set_option maxHeartbeats 4000000 in
set_option maxRecDepth 100000 in
theorem m304_X11_flat (l : Launch) (D : va_G) (zt : Nat × Nat × Nat) (d : Nat → ClassId) (q : Nat → Nat) (a1031 : Int32) : GM l D zt (tyX d) yX11_flat wz_m304_X11_flat ({ frames := 1, cells := 0, slots := 0, locals := 24 } : Room) [.ref (q 0), .int a1031] (wX q d iX0 aX0) (fun v _ w' => ((a1031.toInt < 1) ∧ v = some (.int (-1)) ∧ w' = wX q d iX0 aX0) ∨ ((¬ (a1031.toInt < 1)) ∧ (a1031.toInt ≤ 160) ∧ v = some (.int 0) ∧ w' = wX q d iX0 aX0) ∨ ((¬ (a1031.toInt < 1)) ∧ (¬ (a1031.toInt ≤ 160)) ∧ v = some (.int (-1)) ∧ w' = wX q d iX0 aX0)) 0 0 := by
  refine GM.of (cc := cX11_flat) (maxL := 2) (ret := (some .int)) (own := RX11) (lv := [(0, .ref (q 0)), (1, .int a1031)]) (by decide) rfl rfl (Nat.le_of_ble_eq_true rfl) rfl (fun κ sz hk hR hN => ?_)
  have hin11 : ∀ w ∈ u_ws RX11 TX11 10, w ∈ wz_m304_X11_flat := fun w h => (List.mem_cons_of_mem _ (List.mem_append_right _ (List.mem_append_left _ h)))
  refine g_iload_n hk dX11_flat_0 rfl ?_
  refine g_iconst (v := 1) hk dX11_flat_1 (by decide) ?_
  refine g_icmp_lt (tgt := 12) (a := a1031.toInt) (b := 1) hk dX11_flat_2 (by decide) rfl rfl (fun c1032 => ?_) (fun c1032 => ?_)
  · skip
    refine g_iconst (v := (-1)) hk dX11_flat_12 (by decide) ?_
    refine g_goto (tgt := 24) hk dX11_flat_13 (by decide) ?_
    exact g_iret hk hR rfl (Or.inl ⟨c1032, rfl, rfl⟩) dX11_flat_24
  · skip
    refine g_iload_n hk dX11_flat_5 rfl ?_
    refine g_sipush (v := 160) hk dX11_flat_6 (by decide) ?_
    refine g_icmp_le (tgt := 16) (a := a1031.toInt) (b := 160) hk dX11_flat_9 (by decide) rfl rfl (fun c1033 => ?_) (fun c1033 => ?_)
    · skip
      refine g_aload_n hk dX11_flat_16 rfl ?_
      refine gX_r0_2 hk hin11 (List.mem_cons_of_mem _ (List.mem_append_left _ (List.mem_of_getElem? (i := 0) rfl))) dX11_flat_17 ?_
      refine g_iload_n hk dX11_flat_20 rfl ?_
      refine g_callV (n := 1) hk (m305_X6_flatWindows l D zt d q a1031 (by omega) (by omega)) (SP.same _) (fun _ h => h) (gi_V (List.mem_cons_of_mem _ (List.mem_append_left _ (List.mem_of_getElem? (i := 1) rfl))) (List.mem_cons_of_mem _ (List.mem_append_left _ (List.mem_of_getElem? (i := 2) rfl))) (List.mem_cons_of_mem _ (List.mem_append_left _ (List.mem_of_getElem? (i := 3) rfl))) (List.mem_cons_of_mem _ (List.mem_append_left _ (List.mem_of_getElem? (i := 4) rfl))) (gi_sub (fun w h => (List.mem_cons_of_mem _ (List.mem_append_right _ (List.mem_append_right _ (List.mem_append_left _ h))))) zg_m305_X6_flatWindows)) rfl rfl rfl (by decide +kernel) ⟨Nat.le_of_ble_eq_true rfl, Nat.le_of_ble_eq_true rfl⟩ 13 rfl rfl rfl rfl (Nat.le_of_ble_eq_true rfl) ⟨Nat.le_of_ble_eq_true rfl, Nat.le_of_ble_eq_true rfl⟩ dX11_flat_21 (fun v ty' w' hp hk' => ?_)
      obtain ⟨rfl, rfl⟩ := hp
      show GW κ 2 0 0 (wX q d iX0 aX0) 24 [(0, .ref (q 0)), (1, .int a1031)] [.int 0]
      exact g_iret hk hR rfl (Or.inr (Or.inl ⟨c1032, c1033, rfl, rfl⟩)) dX11_flat_24
    · skip
      refine g_iconst (v := (-1)) hk dX11_flat_12 (by decide) ?_
      refine g_goto (tgt := 24) hk dX11_flat_13 (by decide) ?_
      exact g_iret hk hR rfl (Or.inr (Or.inr (⟨c1032, c1033, rfl, rfl⟩))) dX11_flat_24
def wo_m307_X6_longestRunFirst : List Cond := [Cond.fieldLink RX6 19 "WarpDesk$Series" "size" "I"]
def wz_m307_X6_longestRunFirst : List Cond := .code yX6_longestRunFirst cX6_longestRunFirst 5 (some .int) :: (wo_m307_X6_longestRunFirst ++ (wsX60 ++ ([] : List Cond)))
theorem zg_m307_X6_longestRunFirst : ∀ w ∈ wz_m307_X6_longestRunFirst, goodWord w = true := zg_cons rfl (zg_app (by decide +kernel) (zg_app zgU_wsX60 zg_nil))
theorem zi_m307_X6_longestRunFirst : ∀ w ∈ wz_m307_X6_longestRunFirst, w ∈ lw_tbl := zi_cons zw_1320 (zi_app (zi_cons zw_282 zi_nil) (zi_app inX6 zi_nil))
set_option maxHeartbeats 4000000 in
set_option maxRecDepth 100000 in
theorem m307_X6_longestRunFirst (l : Launch) (D : va_G) (zt : Nat × Nat × Nat) (d : Nat → ClassId) (q : Nat → Nat) : GM l D zt (tyX d) yX6_longestRunFirst wz_m307_X6_longestRunFirst ({ frames := 0, cells := 0, slots := 0, locals := 0 } : Room) [.ref (q 13)] (wX q d iX0 aX0) (fun v _ w' => v = some (.int (-2)) ∧ w' = wX q d iX0 aX0) 0 0 := by
  refine GM.of (cc := cX6_longestRunFirst) (maxL := 5) (ret := (some .int)) (own := RX6) (lv := [(0, .ref (q 13))]) (by decide) rfl rfl (Nat.le_of_ble_eq_true rfl) rfl (fun κ sz hk hR hN => ?_)
  have hin6 : ∀ w ∈ u_ws RX6 TX6 3, w ∈ wz_m307_X6_longestRunFirst := fun w h => (List.mem_cons_of_mem _ (List.mem_append_right _ (List.mem_append_left _ h)))
  refine g_bipush (v := (-2)) hk dX6_longestRunFirst_0 (by decide) ?_
  refine g_istore_n (lv' := [(1, .int (-2)), (0, .ref (q 13))]) hk dX6_longestRunFirst_2 (by decide) rfl ?_
  refine g_iconst (v := 0) hk dX6_longestRunFirst_3 (by decide) ?_
  refine g_istore_n (lv' := [(2, .int 0), (1, .int (-2)), (0, .ref (q 13))]) hk dX6_longestRunFirst_4 (by decide) rfl ?_
  refine g_iconst (v := 0) hk dX6_longestRunFirst_5 (by decide) ?_
  refine g_istore_n (lv' := [(3, .int 0), (2, .int 0), (1, .int (-2)), (0, .ref (q 13))]) hk dX6_longestRunFirst_6 (by decide) rfl ?_
  refine g_iload_n hk dX6_longestRunFirst_7 rfl ?_
  refine g_aload_n hk dX6_longestRunFirst_8 rfl ?_
  refine gX_i18 (v := 0) hk hin6 (List.mem_cons_of_mem _ (List.mem_append_left _ (List.mem_of_getElem? (i := 0) rfl))) dX6_longestRunFirst_9 rfl ?_
  refine g_icmp_ge (tgt := 39) (a := 0) (b := 0) hk dX6_longestRunFirst_12 (by decide) rfl rfl (fun _ => ?_) (fun z9 => absurd (show (0 : Int) ≤ (0 : Int) from by decide) z9)
  refine g_iload_n hk dX6_longestRunFirst_39 rfl ?_
  exact g_iret hk hR rfl ⟨rfl, rfl⟩ dX6_longestRunFirst_40
def wo_m306_X11_whole : List Cond := [Cond.fieldLink RX11 28 "WarpDesk" "series" "LWarpDesk$Series;", Cond.methodLink RX11 356 yX6_longestRunFirst, Cond.instanceMethod yX6_longestRunFirst, Cond.selects RX6 yX6_longestRunFirst yX6_longestRunFirst, Cond.initialized RX6]
def wz_m306_X11_whole : List Cond := .code yX11_whole cX11_whole 3 (some .int) :: (wo_m306_X11_whole ++ (wsX110 ++ (wz_m307_X6_longestRunFirst ++ ([] : List Cond))))
theorem zg_m306_X11_whole : ∀ w ∈ wz_m306_X11_whole, goodWord w = true := zg_cons rfl (zg_app (by decide +kernel) (zg_app zgU_wsX110 (zg_app zg_m307_X6_longestRunFirst zg_nil)))
theorem zi_m306_X11_whole : ∀ w ∈ wz_m306_X11_whole, w ∈ lw_tbl := zi_cons zw_1316 (zi_app (zi_cons zw_489 (zi_cons zw_1317 (zi_cons zw_1318 (zi_cons zw_1319 (zi_cons zw_109 zi_nil))))) (zi_app inX11 (zi_app zi_m307_X6_longestRunFirst zi_nil)))
set_option maxHeartbeats 4000000 in
set_option maxRecDepth 100000 in
theorem m306_X11_whole (l : Launch) (D : va_G) (zt : Nat × Nat × Nat) (d : Nat → ClassId) (q : Nat → Nat) (a1035 : Int32) : GM l D zt (tyX d) yX11_whole wz_m306_X11_whole ({ frames := 1, cells := 0, slots := 0, locals := 24 } : Room) [.ref (q 0), .int a1035] (wX q d iX0 aX0) (fun v _ w' => ((a1035.toInt < 0) ∧ v = some (.int (-1)) ∧ w' = wX q d iX0 aX0) ∨ ((¬ (a1035.toInt < 0)) ∧ (a1035.toInt ≤ 1) ∧ v = some (.int (-2)) ∧ w' = wX q d iX0 aX0) ∨ ((¬ (a1035.toInt < 0)) ∧ (¬ (a1035.toInt ≤ 1)) ∧ v = some (.int (-1)) ∧ w' = wX q d iX0 aX0)) 0 0 := by
  refine GM.of (cc := cX11_whole) (maxL := 3) (ret := (some .int)) (own := RX11) (lv := [(0, .ref (q 0)), (1, .int a1035)]) (by decide) rfl rfl (Nat.le_of_ble_eq_true rfl) rfl (fun κ sz hk hR hN => ?_)
  have hin11 : ∀ w ∈ u_ws RX11 TX11 10, w ∈ wz_m306_X11_whole := fun w h => (List.mem_cons_of_mem _ (List.mem_append_right _ (List.mem_append_left _ h)))
  refine g_iload_n hk dX11_whole_0 rfl ?_
  refine g_if_lt (tgt := 9) (a := a1035.toInt) hk dX11_whole_1 (by decide) rfl (fun c1036 => ?_) (fun c1036 => ?_)
  · skip
    refine g_iconst (v := (-1)) hk dX11_whole_9 (by decide) ?_
    exact g_iret hk hR rfl (Or.inl ⟨c1036, rfl, rfl⟩) dX11_whole_10
  · skip
    refine g_iload_n hk dX11_whole_4 rfl ?_
    refine g_iconst (v := 1) hk dX11_whole_5 (by decide) ?_
    refine g_icmp_le (tgt := 11) (a := a1035.toInt) (b := 1) hk dX11_whole_6 (by decide) rfl rfl (fun c1037 => ?_) (fun c1037 => ?_)
    · skip
      refine g_aload_n hk dX11_whole_11 rfl ?_
      refine gX_r0_2 hk hin11 (List.mem_cons_of_mem _ (List.mem_append_left _ (List.mem_of_getElem? (i := 0) rfl))) dX11_whole_12 ?_
      refine g_callV (n := 0) hk (m307_X6_longestRunFirst l D zt d q) (SP.same _) (fun _ h => h) (gi_V (List.mem_cons_of_mem _ (List.mem_append_left _ (List.mem_of_getElem? (i := 1) rfl))) (List.mem_cons_of_mem _ (List.mem_append_left _ (List.mem_of_getElem? (i := 2) rfl))) (List.mem_cons_of_mem _ (List.mem_append_left _ (List.mem_of_getElem? (i := 3) rfl))) (List.mem_cons_of_mem _ (List.mem_append_left _ (List.mem_of_getElem? (i := 4) rfl))) (gi_sub (fun w h => (List.mem_cons_of_mem _ (List.mem_append_right _ (List.mem_append_right _ (List.mem_append_left _ h))))) zg_m307_X6_longestRunFirst)) rfl rfl rfl (by decide +kernel) ⟨Nat.le_of_ble_eq_true rfl, Nat.le_of_ble_eq_true rfl⟩ 13 rfl rfl rfl rfl (Nat.le_of_ble_eq_true rfl) ⟨Nat.le_of_ble_eq_true rfl, Nat.le_of_ble_eq_true rfl⟩ dX11_whole_15 (fun v ty' w' hp hk' => ?_)
      obtain ⟨rfl, rfl⟩ := hp
      show GW κ 3 0 0 (wX q d iX0 aX0) 18 [(0, .ref (q 0)), (1, .int a1035)] [.int (-2)]
      refine g_istore_n (lv' := [(2, .int (-2)), (0, .ref (q 0)), (1, .int a1035)]) hk dX11_whole_18 (by decide) rfl ?_
      refine g_iload_n hk dX11_whole_19 rfl ?_
      refine g_if_lt (tgt := 27) (a := (-2)) hk dX11_whole_20 (by decide) rfl (fun _ => ?_) (fun z9 => absurd (show ((-2) : Int) < (0 : Int) from by decide) z9)
      refine g_iload_n hk dX11_whole_27 rfl ?_
      exact g_iret hk hR rfl (Or.inr (Or.inl ⟨c1036, c1037, rfl, rfl⟩)) dX11_whole_28
    · skip
      refine g_iconst (v := (-1)) hk dX11_whole_9 (by decide) ?_
      exact g_iret hk hR rfl (Or.inr (Or.inr (⟨c1036, c1037, rfl, rfl⟩))) dX11_whole_10
def wo_m309_X1_firedBits : List Cond := [Cond.fieldLink RX1 43 "WarpDesk$Finder" "queries" "LWarpDesk$Queries;", Cond.fieldLink RX1 161 "WarpDesk$Queries" "size" "I"]
def wz_m309_X1_firedBits : List Cond := .code yX1_firedBits cX1_firedBits 5 (some .int) :: (wo_m309_X1_firedBits ++ (wsX10 ++ (wsX40 ++ ([] : List Cond))))
theorem zg_m309_X1_firedBits : ∀ w ∈ wz_m309_X1_firedBits, goodWord w = true := zg_cons rfl (zg_app (by decide +kernel) (zg_app zgU_wsX10 (zg_app zgU_wsX40 zg_nil)))
theorem zi_m309_X1_firedBits : ∀ w ∈ wz_m309_X1_firedBits, w ∈ lw_tbl := zi_cons zw_1112 (zi_app (zi_cons zw_404 (zi_cons zw_221 zi_nil)) (zi_app inX1 (zi_app inX4 zi_nil)))
set_option maxHeartbeats 4000000 in
set_option maxRecDepth 100000 in
theorem m309_X1_firedBits (l : Launch) (D : va_G) (zt : Nat × Nat × Nat) (d : Nat → ClassId) (q : Nat → Nat) (a1040 : Int32) (h0 : 0 ≤ a1040.toInt) : GM l D zt (tyX d) yX1_firedBits wz_m309_X1_firedBits ({ frames := 0, cells := 0, slots := 0, locals := 0 } : Room) [.ref (q 43), .int a1040] (wX q d iX0 aX0) (fun v _ w' => v = some (.int 0) ∧ w' = wX q d iX0 aX0) 0 0 := by
  refine GM.of (cc := cX1_firedBits) (maxL := 5) (ret := (some .int)) (own := RX1) (lv := [(0, .ref (q 43)), (1, .int a1040)]) (by decide) rfl rfl (Nat.le_of_ble_eq_true rfl) rfl (fun κ sz hk hR hN => ?_)
  have hin1 : ∀ w ∈ u_ws RX1 TX1 11, w ∈ wz_m309_X1_firedBits := fun w h => (List.mem_cons_of_mem _ (List.mem_append_right _ (List.mem_append_left _ h)))
  have hin4 : ∀ w ∈ u_ws RX4 TX4 3, w ∈ wz_m309_X1_firedBits := fun w h => (List.mem_cons_of_mem _ (List.mem_append_right _ (List.mem_append_right _ (List.mem_append_left _ h))))
  refine g_iconst (v := 0) hk dX1_firedBits_0 (by decide) ?_
  refine g_istore_n (lv' := [(2, .int 0), (0, .ref (q 43)), (1, .int a1040)]) hk dX1_firedBits_1 (by decide) rfl ?_
  refine g_iconst (v := 0) hk dX1_firedBits_2 (by decide) ?_
  refine g_istore_n (lv' := [(3, .int 0), (2, .int 0), (0, .ref (q 43)), (1, .int a1040)]) hk dX1_firedBits_3 (by decide) rfl ?_
  refine g_iload_n hk dX1_firedBits_4 rfl ?_
  refine g_aload_n hk dX1_firedBits_5 rfl ?_
  refine gX_r43_2 hk hin1 (List.mem_cons_of_mem _ (List.mem_append_left _ (List.mem_of_getElem? (i := 0) rfl))) dX1_firedBits_6 ?_
  refine gX_i19 (v := 0) hk hin4 (List.mem_cons_of_mem _ (List.mem_append_left _ (List.mem_of_getElem? (i := 1) rfl))) dX1_firedBits_9 rfl ?_
  refine g_icmp_ge (tgt := 72) (a := 0) (b := 0) hk dX1_firedBits_12 (by decide) rfl rfl (fun _ => ?_) (fun z9 => absurd (show (0 : Int) ≤ (0 : Int) from by decide) z9)
  refine g_iload_n hk dX1_firedBits_72 rfl ?_
  exact g_iret hk hR rfl ⟨rfl, rfl⟩ dX1_firedBits_73
def wo_m308_X11_fired : List Cond := [Cond.fieldLink RX11 74 "WarpDesk" "finder" "LWarpDesk$Finder;", Cond.methodLink RX11 266 yX1_firedBits, Cond.instanceMethod yX1_firedBits, Cond.selects RX1 yX1_firedBits yX1_firedBits, Cond.initialized RX1]
def wz_m308_X11_fired : List Cond := .code yX11_fired cX11_fired 2 (some .int) :: (wo_m308_X11_fired ++ (wsX110 ++ (wz_m309_X1_firedBits ++ ([] : List Cond))))
theorem zg_m308_X11_fired : ∀ w ∈ wz_m308_X11_fired, goodWord w = true := zg_cons rfl (zg_app (by decide +kernel) (zg_app zgU_wsX110 (zg_app zg_m309_X1_firedBits zg_nil)))
theorem zi_m308_X11_fired : ∀ w ∈ wz_m308_X11_fired, w ∈ lw_tbl := zi_cons zw_1108 (zi_app (zi_cons zw_495 (zi_cons zw_1109 (zi_cons zw_1110 (zi_cons zw_1111 (zi_cons zw_113 zi_nil))))) (zi_app inX11 (zi_app zi_m309_X1_firedBits zi_nil)))
set_option maxHeartbeats 4000000 in
set_option maxRecDepth 100000 in
theorem m308_X11_fired (l : Launch) (D : va_G) (zt : Nat × Nat × Nat) (d : Nat → ClassId) (q : Nat → Nat) (a1038 : Int32) : GM l D zt (tyX d) yX11_fired wz_m308_X11_fired ({ frames := 1, cells := 0, slots := 0, locals := 24 } : Room) [.ref (q 0), .int a1038] (wX q d iX0 aX0) (fun v _ w' => ((0 ≤ a1038.toInt) ∧ v = some (.int 0) ∧ w' = wX q d iX0 aX0) ∨ ((¬ (0 ≤ a1038.toInt)) ∧ v = some (.int (-1)) ∧ w' = wX q d iX0 aX0)) 0 0 := by
  refine GM.of (cc := cX11_fired) (maxL := 2) (ret := (some .int)) (own := RX11) (lv := [(0, .ref (q 0)), (1, .int a1038)]) (by decide) rfl rfl (Nat.le_of_ble_eq_true rfl) rfl (fun κ sz hk hR hN => ?_)
  have hin11 : ∀ w ∈ u_ws RX11 TX11 10, w ∈ wz_m308_X11_fired := fun w h => (List.mem_cons_of_mem _ (List.mem_append_right _ (List.mem_append_left _ h)))
  refine g_iload_n hk dX11_fired_0 rfl ?_
  refine g_if_ge (tgt := 8) (a := a1038.toInt) hk dX11_fired_1 (by decide) rfl (fun c1039 => ?_) (fun c1039 => ?_)
  · skip
    refine g_aload_n hk dX11_fired_8 rfl ?_
    refine gX_r0_8 hk hin11 (List.mem_cons_of_mem _ (List.mem_append_left _ (List.mem_of_getElem? (i := 0) rfl))) dX11_fired_9 ?_
    refine g_iload_n hk dX11_fired_12 rfl ?_
    refine g_callV (n := 1) hk (m309_X1_firedBits l D zt d q a1038 (by omega)) (SP.same _) (fun _ h => h) (gi_V (List.mem_cons_of_mem _ (List.mem_append_left _ (List.mem_of_getElem? (i := 1) rfl))) (List.mem_cons_of_mem _ (List.mem_append_left _ (List.mem_of_getElem? (i := 2) rfl))) (List.mem_cons_of_mem _ (List.mem_append_left _ (List.mem_of_getElem? (i := 3) rfl))) (List.mem_cons_of_mem _ (List.mem_append_left _ (List.mem_of_getElem? (i := 4) rfl))) (gi_sub (fun w h => (List.mem_cons_of_mem _ (List.mem_append_right _ (List.mem_append_right _ (List.mem_append_left _ h))))) zg_m309_X1_firedBits)) rfl rfl rfl (by decide +kernel) ⟨Nat.le_of_ble_eq_true rfl, Nat.le_of_ble_eq_true rfl⟩ 43 rfl rfl rfl rfl (Nat.le_of_ble_eq_true rfl) ⟨Nat.le_of_ble_eq_true rfl, Nat.le_of_ble_eq_true rfl⟩ dX11_fired_13 (fun v ty' w' hp hk' => ?_)
    obtain ⟨rfl, rfl⟩ := hp
    show GW κ 2 0 0 (wX q d iX0 aX0) 16 [(0, .ref (q 0)), (1, .int a1038)] [.int 0]
    exact g_iret hk hR rfl (Or.inl ⟨c1039, rfl, rfl⟩) dX11_fired_16
  · skip
    refine g_iconst (v := (-1)) hk dX11_fired_4 (by decide) ?_
    refine g_goto (tgt := 16) hk dX11_fired_5 (by decide) ?_
    exact g_iret hk hR rfl (Or.inr (⟨c1039, rfl, rfl⟩)) dX11_fired_16
def wo_m311_X6_copyInto : List Cond := [Cond.fieldLink RX6 22 "WarpDesk$Stand" "size" "I", Cond.fieldLink RX6 19 "WarpDesk$Series" "size" "I"]
def wz_m311_X6_copyInto : List Cond := .code yX6_copyInto cX6_copyInto 3 none :: (wo_m311_X6_copyInto ++ (wsX60 ++ (wsX80 ++ ([] : List Cond))))
theorem zg_m311_X6_copyInto : ∀ w ∈ wz_m311_X6_copyInto, goodWord w = true := zg_cons rfl (zg_app (by decide +kernel) (zg_app zgU_wsX60 (zg_app zgU_wsX80 zg_nil)))
theorem zi_m311_X6_copyInto : ∀ w ∈ wz_m311_X6_copyInto, w ∈ lw_tbl := zi_cons zw_1333 (zi_app (zi_cons zw_196 (zi_cons zw_282 zi_nil)) (zi_app inX6 (zi_app inX8 zi_nil)))
set_option maxHeartbeats 4000000 in
set_option maxRecDepth 100000 in
theorem m311_X6_copyInto (l : Launch) (D : va_G) (zt : Nat × Nat × Nat) (d : Nat → ClassId) (q : Nat → Nat) : GM l D zt (tyX d) yX6_copyInto wz_m311_X6_copyInto ({ frames := 0, cells := 0, slots := 0, locals := 0 } : Room) [.ref (q 13), .ref (q 25)] (wX q d iX0 aX0) (fun v _ w' => v = none ∧ w' = wX q d iX0 aX0) 0 0 := by
  refine GM.of (cc := cX6_copyInto) (maxL := 3) (ret := none) (own := RX6) (lv := [(0, .ref (q 13)), (1, .ref (q 25))]) (by decide) rfl rfl (Nat.le_of_ble_eq_true rfl) rfl (fun κ sz hk hR hN => ?_)
  have hin6 : ∀ w ∈ u_ws RX6 TX6 3, w ∈ wz_m311_X6_copyInto := fun w h => (List.mem_cons_of_mem _ (List.mem_append_right _ (List.mem_append_left _ h)))
  have hin8 : ∀ w ∈ u_ws RX8 TX8 4, w ∈ wz_m311_X6_copyInto := fun w h => (List.mem_cons_of_mem _ (List.mem_append_right _ (List.mem_append_right _ (List.mem_append_left _ h))))
  refine g_aload_n hk dX6_copyInto_0 rfl ?_
  refine g_iconst (v := 0) hk dX6_copyInto_1 (by decide) ?_
  refine pX_i22 hk hin8 (List.mem_cons_of_mem _ (List.mem_append_left _ (List.mem_of_getElem? (i := 0) rfl))) dX6_copyInto_2 ?_
  refine gX_sameI rfl ?_
  refine g_iconst (v := 0) hk dX6_copyInto_5 (by decide) ?_
  refine g_istore_n (lv' := [(2, .int 0), (0, .ref (q 13)), (1, .ref (q 25))]) hk dX6_copyInto_6 (by decide) rfl ?_
  refine g_iload_n hk dX6_copyInto_7 rfl ?_
  refine g_aload_n hk dX6_copyInto_8 rfl ?_
  refine gX_i18 (v := 0) hk hin6 (List.mem_cons_of_mem _ (List.mem_append_left _ (List.mem_of_getElem? (i := 1) rfl))) dX6_copyInto_9 rfl ?_
  refine g_icmp_ge (tgt := 30) (a := 0) (b := 0) hk dX6_copyInto_12 (by decide) rfl rfl (fun _ => ?_) (fun z9 => absurd (show (0 : Int) ≤ (0 : Int) from by decide) z9)
  exact g_vret hk hR ⟨rfl, rfl⟩ dX6_copyInto_30
def wo_m313_X7_valueOf : List Cond := [Cond.fieldLink RX7 20 "WarpDesk$Settings" "values" "[I"]
def wz_m313_X7_valueOf : List Cond := .code yX7_valueOf cX7_valueOf 2 (some .int) :: (wo_m313_X7_valueOf ++ (wsX70 ++ ([] : List Cond)))
theorem zg_m313_X7_valueOf : ∀ w ∈ wz_m313_X7_valueOf, goodWord w = true := zg_cons rfl (zg_app (by decide +kernel) (zg_app zgU_wsX70 zg_nil))
theorem zi_m313_X7_valueOf : ∀ w ∈ wz_m313_X7_valueOf, w ∈ lw_tbl := zi_cons zw_788 (zi_app (zi_cons zw_190 zi_nil) (zi_app inX7 zi_nil))
set_option maxHeartbeats 4000000 in
set_option maxRecDepth 100000 in
theorem m313_X7_valueOf (l : Launch) (D : va_G) (zt : Nat × Nat × Nat) (d : Nat → ClassId) (q : Nat → Nat) : GM l D zt (tyX d) yX7_valueOf wz_m313_X7_valueOf ({ frames := 0, cells := 0, slots := 0, locals := 0 } : Room) [.ref (q 18), .int 0] (wX q d iX0 aX0) (fun v _ w' => v = some (.int 2) ∧ w' = wX q d iX0 aX0) 0 0 := by
  refine GM.of (cc := cX7_valueOf) (maxL := 2) (ret := (some .int)) (own := RX7) (lv := [(0, .ref (q 18)), (1, .int 0)]) (by decide) rfl rfl (Nat.le_of_ble_eq_true rfl) rfl (fun κ sz hk hR hN => ?_)
  have hin7 : ∀ w ∈ u_ws RX7 TX7 1, w ∈ wz_m313_X7_valueOf := fun w h => (List.mem_cons_of_mem _ (List.mem_append_right _ (List.mem_append_left _ h)))
  refine g_iload_n hk dX7_valueOf_0 rfl ?_
  refine g_if_lt (tgt := 22) (a := 0) hk dX7_valueOf_1 (by decide) rfl (fun z9 => absurd z9 (show ¬ ((0 : Int) < (0 : Int)) from by decide)) (fun _ => ?_)
  refine g_iload_n hk dX7_valueOf_4 rfl ?_
  refine g_aload_n hk dX7_valueOf_5 rfl ?_
  refine gX_r18_0 hk hin7 (List.mem_cons_of_mem _ (List.mem_append_left _ (List.mem_of_getElem? (i := 0) rfl))) dX7_valueOf_6 ?_
  refine nX_10 hk dX7_valueOf_9 ?_
  refine g_icmp_ge (tgt := 22) (a := 0) (b := 4) hk dX7_valueOf_10 (by decide) rfl rfl (fun z9 => absurd z9 (show ¬ ((4 : Int) ≤ (0 : Int)) from by decide)) (fun _ => ?_)
  refine g_aload_n hk dX7_valueOf_13 rfl ?_
  refine gX_r18_0 hk hin7 (List.mem_cons_of_mem _ (List.mem_append_left _ (List.mem_of_getElem? (i := 0) rfl))) dX7_valueOf_14 ?_
  refine g_iload_n hk dX7_valueOf_17 rfl ?_
  refine lX_10 (v := 2) hk (vp_in_iff.mpr ⟨by decide, by decide⟩) rfl dX7_valueOf_18 ?_
  refine g_goto (tgt := 23) hk dX7_valueOf_19 (by decide) ?_
  exact g_iret hk hR rfl ⟨rfl, rfl⟩ dX7_valueOf_23
def wo_m314_X7_valueOf : List Cond := [Cond.fieldLink RX7 20 "WarpDesk$Settings" "values" "[I"]
def wz_m314_X7_valueOf : List Cond := .code yX7_valueOf cX7_valueOf 2 (some .int) :: (wo_m314_X7_valueOf ++ (wsX70 ++ ([] : List Cond)))
theorem zg_m314_X7_valueOf : ∀ w ∈ wz_m314_X7_valueOf, goodWord w = true := zg_cons rfl (zg_app (by decide +kernel) (zg_app zgU_wsX70 zg_nil))
theorem zi_m314_X7_valueOf : ∀ w ∈ wz_m314_X7_valueOf, w ∈ lw_tbl := zi_cons zw_788 (zi_app (zi_cons zw_190 zi_nil) (zi_app inX7 zi_nil))
set_option maxHeartbeats 4000000 in
set_option maxRecDepth 100000 in
theorem m314_X7_valueOf (l : Launch) (D : va_G) (zt : Nat × Nat × Nat) (d : Nat → ClassId) (q : Nat → Nat) : GM l D zt (tyX d) yX7_valueOf wz_m314_X7_valueOf ({ frames := 0, cells := 0, slots := 0, locals := 0 } : Room) [.ref (q 18), .int 1] (wX q d iX0 aX0) (fun v _ w' => v = some (.int 0) ∧ w' = wX q d iX0 aX0) 0 0 := by
  refine GM.of (cc := cX7_valueOf) (maxL := 2) (ret := (some .int)) (own := RX7) (lv := [(0, .ref (q 18)), (1, .int 1)]) (by decide) rfl rfl (Nat.le_of_ble_eq_true rfl) rfl (fun κ sz hk hR hN => ?_)
  have hin7 : ∀ w ∈ u_ws RX7 TX7 1, w ∈ wz_m314_X7_valueOf := fun w h => (List.mem_cons_of_mem _ (List.mem_append_right _ (List.mem_append_left _ h)))
  refine g_iload_n hk dX7_valueOf_0 rfl ?_
  refine g_if_lt (tgt := 22) (a := 1) hk dX7_valueOf_1 (by decide) rfl (fun z9 => absurd z9 (show ¬ ((1 : Int) < (0 : Int)) from by decide)) (fun _ => ?_)
  refine g_iload_n hk dX7_valueOf_4 rfl ?_
  refine g_aload_n hk dX7_valueOf_5 rfl ?_
  refine gX_r18_0 hk hin7 (List.mem_cons_of_mem _ (List.mem_append_left _ (List.mem_of_getElem? (i := 0) rfl))) dX7_valueOf_6 ?_
  refine nX_10 hk dX7_valueOf_9 ?_
  refine g_icmp_ge (tgt := 22) (a := 1) (b := 4) hk dX7_valueOf_10 (by decide) rfl rfl (fun z9 => absurd z9 (show ¬ ((4 : Int) ≤ (1 : Int)) from by decide)) (fun _ => ?_)
  refine g_aload_n hk dX7_valueOf_13 rfl ?_
  refine gX_r18_0 hk hin7 (List.mem_cons_of_mem _ (List.mem_append_left _ (List.mem_of_getElem? (i := 0) rfl))) dX7_valueOf_14 ?_
  refine g_iload_n hk dX7_valueOf_17 rfl ?_
  refine lX_10 (v := 0) hk (vp_in_iff.mpr ⟨by decide, by decide⟩) rfl dX7_valueOf_18 ?_
  refine g_goto (tgt := 23) hk dX7_valueOf_19 (by decide) ?_
  exact g_iret hk hR rfl ⟨rfl, rfl⟩ dX7_valueOf_23
def wo_m315_X7_valueOf : List Cond := [Cond.fieldLink RX7 20 "WarpDesk$Settings" "values" "[I"]
def wz_m315_X7_valueOf : List Cond := .code yX7_valueOf cX7_valueOf 2 (some .int) :: (wo_m315_X7_valueOf ++ (wsX70 ++ ([] : List Cond)))
theorem zg_m315_X7_valueOf : ∀ w ∈ wz_m315_X7_valueOf, goodWord w = true := zg_cons rfl (zg_app (by decide +kernel) (zg_app zgU_wsX70 zg_nil))
theorem zi_m315_X7_valueOf : ∀ w ∈ wz_m315_X7_valueOf, w ∈ lw_tbl := zi_cons zw_788 (zi_app (zi_cons zw_190 zi_nil) (zi_app inX7 zi_nil))
set_option maxHeartbeats 4000000 in
set_option maxRecDepth 100000 in
theorem m315_X7_valueOf (l : Launch) (D : va_G) (zt : Nat × Nat × Nat) (d : Nat → ClassId) (q : Nat → Nat) : GM l D zt (tyX d) yX7_valueOf wz_m315_X7_valueOf ({ frames := 0, cells := 0, slots := 0, locals := 0 } : Room) [.ref (q 18), .int 2] (wX q d iX0 aX0) (fun v _ w' => v = some (.int 0) ∧ w' = wX q d iX0 aX0) 0 0 := by
  refine GM.of (cc := cX7_valueOf) (maxL := 2) (ret := (some .int)) (own := RX7) (lv := [(0, .ref (q 18)), (1, .int 2)]) (by decide) rfl rfl (Nat.le_of_ble_eq_true rfl) rfl (fun κ sz hk hR hN => ?_)
  have hin7 : ∀ w ∈ u_ws RX7 TX7 1, w ∈ wz_m315_X7_valueOf := fun w h => (List.mem_cons_of_mem _ (List.mem_append_right _ (List.mem_append_left _ h)))
  refine g_iload_n hk dX7_valueOf_0 rfl ?_
  refine g_if_lt (tgt := 22) (a := 2) hk dX7_valueOf_1 (by decide) rfl (fun z9 => absurd z9 (show ¬ ((2 : Int) < (0 : Int)) from by decide)) (fun _ => ?_)
  refine g_iload_n hk dX7_valueOf_4 rfl ?_
  refine g_aload_n hk dX7_valueOf_5 rfl ?_
  refine gX_r18_0 hk hin7 (List.mem_cons_of_mem _ (List.mem_append_left _ (List.mem_of_getElem? (i := 0) rfl))) dX7_valueOf_6 ?_
  refine nX_10 hk dX7_valueOf_9 ?_
  refine g_icmp_ge (tgt := 22) (a := 2) (b := 4) hk dX7_valueOf_10 (by decide) rfl rfl (fun z9 => absurd z9 (show ¬ ((4 : Int) ≤ (2 : Int)) from by decide)) (fun _ => ?_)
  refine g_aload_n hk dX7_valueOf_13 rfl ?_
  refine gX_r18_0 hk hin7 (List.mem_cons_of_mem _ (List.mem_append_left _ (List.mem_of_getElem? (i := 0) rfl))) dX7_valueOf_14 ?_
  refine g_iload_n hk dX7_valueOf_17 rfl ?_
  refine lX_10 (v := 0) hk (vp_in_iff.mpr ⟨by decide, by decide⟩) rfl dX7_valueOf_18 ?_
  refine g_goto (tgt := 23) hk dX7_valueOf_19 (by decide) ?_
  exact g_iret hk hR rfl ⟨rfl, rfl⟩ dX7_valueOf_23
def wo_m316_X7_valueOf : List Cond := [Cond.fieldLink RX7 20 "WarpDesk$Settings" "values" "[I"]
def wz_m316_X7_valueOf : List Cond := .code yX7_valueOf cX7_valueOf 2 (some .int) :: (wo_m316_X7_valueOf ++ (wsX70 ++ ([] : List Cond)))
theorem zg_m316_X7_valueOf : ∀ w ∈ wz_m316_X7_valueOf, goodWord w = true := zg_cons rfl (zg_app (by decide +kernel) (zg_app zgU_wsX70 zg_nil))
theorem zi_m316_X7_valueOf : ∀ w ∈ wz_m316_X7_valueOf, w ∈ lw_tbl := zi_cons zw_788 (zi_app (zi_cons zw_190 zi_nil) (zi_app inX7 zi_nil))
set_option maxHeartbeats 4000000 in
set_option maxRecDepth 100000 in
theorem m316_X7_valueOf (l : Launch) (D : va_G) (zt : Nat × Nat × Nat) (d : Nat → ClassId) (q : Nat → Nat) : GM l D zt (tyX d) yX7_valueOf wz_m316_X7_valueOf ({ frames := 0, cells := 0, slots := 0, locals := 0 } : Room) [.ref (q 18), .int 3] (wX q d iX0 aX0) (fun v _ w' => v = some (.int 8) ∧ w' = wX q d iX0 aX0) 0 0 := by
  refine GM.of (cc := cX7_valueOf) (maxL := 2) (ret := (some .int)) (own := RX7) (lv := [(0, .ref (q 18)), (1, .int 3)]) (by decide) rfl rfl (Nat.le_of_ble_eq_true rfl) rfl (fun κ sz hk hR hN => ?_)
  have hin7 : ∀ w ∈ u_ws RX7 TX7 1, w ∈ wz_m316_X7_valueOf := fun w h => (List.mem_cons_of_mem _ (List.mem_append_right _ (List.mem_append_left _ h)))
  refine g_iload_n hk dX7_valueOf_0 rfl ?_
  refine g_if_lt (tgt := 22) (a := 3) hk dX7_valueOf_1 (by decide) rfl (fun z9 => absurd z9 (show ¬ ((3 : Int) < (0 : Int)) from by decide)) (fun _ => ?_)
  refine g_iload_n hk dX7_valueOf_4 rfl ?_
  refine g_aload_n hk dX7_valueOf_5 rfl ?_
  refine gX_r18_0 hk hin7 (List.mem_cons_of_mem _ (List.mem_append_left _ (List.mem_of_getElem? (i := 0) rfl))) dX7_valueOf_6 ?_
  refine nX_10 hk dX7_valueOf_9 ?_
  refine g_icmp_ge (tgt := 22) (a := 3) (b := 4) hk dX7_valueOf_10 (by decide) rfl rfl (fun z9 => absurd z9 (show ¬ ((4 : Int) ≤ (3 : Int)) from by decide)) (fun _ => ?_)
  refine g_aload_n hk dX7_valueOf_13 rfl ?_
  refine gX_r18_0 hk hin7 (List.mem_cons_of_mem _ (List.mem_append_left _ (List.mem_of_getElem? (i := 0) rfl))) dX7_valueOf_14 ?_
  refine g_iload_n hk dX7_valueOf_17 rfl ?_
  refine lX_10 (v := 8) hk (vp_in_iff.mpr ⟨by decide, by decide⟩) rfl dX7_valueOf_18 ?_
  refine g_goto (tgt := 23) hk dX7_valueOf_19 (by decide) ?_
  exact g_iret hk hR rfl ⟨rfl, rfl⟩ dX7_valueOf_23
def wo_m312_X7_takeFrom : List Cond := [Cond.fieldLink RX7 20 "WarpDesk$Settings" "values" "[I", Cond.methodLink RX7 33 yX7_valueOf, Cond.instanceMethod yX7_valueOf, Cond.selects RX7 yX7_valueOf yX7_valueOf, Cond.initialized RX7]
def wz_m312_X7_takeFrom : List Cond := .code yX7_takeFrom cX7_takeFrom 3 none :: (wo_m312_X7_takeFrom ++ (wsX70 ++ (wz_m313_X7_valueOf ++ (wz_m314_X7_valueOf ++ (wz_m315_X7_valueOf ++ (wz_m316_X7_valueOf ++ ([] : List Cond)))))))
theorem zg_m312_X7_takeFrom : ∀ w ∈ wz_m312_X7_takeFrom, goodWord w = true := zg_cons rfl (zg_app (by decide +kernel) (zg_app zgU_wsX70 (zg_app zg_m313_X7_valueOf (zg_app zg_m314_X7_valueOf (zg_app zg_m315_X7_valueOf (zg_app zg_m316_X7_valueOf zg_nil))))))
theorem zi_m312_X7_takeFrom : ∀ w ∈ wz_m312_X7_takeFrom, w ∈ lw_tbl := zi_cons zw_784 (zi_app (zi_cons zw_190 (zi_cons zw_785 (zi_cons zw_786 (zi_cons zw_787 (zi_cons zw_107 zi_nil))))) (zi_app inX7 (zi_app zi_m313_X7_valueOf (zi_app zi_m314_X7_valueOf (zi_app zi_m315_X7_valueOf (zi_app zi_m316_X7_valueOf zi_nil))))))
set_option maxHeartbeats 4000000 in
set_option maxRecDepth 100000 in
theorem m312_X7_takeFrom (l : Launch) (D : va_G) (zt : Nat × Nat × Nat) (d : Nat → ClassId) (q : Nat → Nat) : GM l D zt (tyX d) yX7_takeFrom wz_m312_X7_takeFrom ({ frames := 1, cells := 0, slots := 0, locals := 21 } : Room) [.ref (q 27), .ref (q 18)] (wX q d iX0 aX0) (fun v _ w' => v = none ∧ w' = wX q d iX0 aX0) 0 0 := by
  refine GM.of (cc := cX7_takeFrom) (maxL := 3) (ret := none) (own := RX7) (lv := [(0, .ref (q 27)), (1, .ref (q 18))]) (by decide) rfl rfl (Nat.le_of_ble_eq_true rfl) rfl (fun κ sz hk hR hN => ?_)
  have hin7 : ∀ w ∈ u_ws RX7 TX7 1, w ∈ wz_m312_X7_takeFrom := fun w h => (List.mem_cons_of_mem _ (List.mem_append_right _ (List.mem_append_left _ h)))
  refine g_iconst (v := 0) hk dX7_takeFrom_0 (by decide) ?_
  refine g_istore_n (lv' := [(2, .int 0), (0, .ref (q 27)), (1, .ref (q 18))]) hk dX7_takeFrom_1 (by decide) rfl ?_
  refine g_iload_n hk dX7_takeFrom_2 rfl ?_
  refine g_aload_n hk dX7_takeFrom_3 rfl ?_
  refine gX_r27_0 hk hin7 (List.mem_cons_of_mem _ (List.mem_append_left _ (List.mem_of_getElem? (i := 0) rfl))) dX7_takeFrom_4 ?_
  refine nX_16 hk dX7_takeFrom_7 ?_
  refine g_icmp_ge (tgt := 28) (a := 0) (b := 4) hk dX7_takeFrom_8 (by decide) rfl rfl (fun z9 => absurd z9 (show ¬ ((4 : Int) ≤ (0 : Int)) from by decide)) (fun _ => ?_)
  refine g_aload_n hk dX7_takeFrom_11 rfl ?_
  refine gX_r27_0 hk hin7 (List.mem_cons_of_mem _ (List.mem_append_left _ (List.mem_of_getElem? (i := 0) rfl))) dX7_takeFrom_12 ?_
  refine g_iload_n hk dX7_takeFrom_15 rfl ?_
  refine g_aload_n hk dX7_takeFrom_16 rfl ?_
  refine g_iload_n hk dX7_takeFrom_17 rfl ?_
  refine g_callV (n := 1) hk (m313_X7_valueOf l D zt d q) (SP.same _) (fun _ h => h) (gi_V (List.mem_cons_of_mem _ (List.mem_append_left _ (List.mem_of_getElem? (i := 1) rfl))) (List.mem_cons_of_mem _ (List.mem_append_left _ (List.mem_of_getElem? (i := 2) rfl))) (List.mem_cons_of_mem _ (List.mem_append_left _ (List.mem_of_getElem? (i := 3) rfl))) (List.mem_cons_of_mem _ (List.mem_append_left _ (List.mem_of_getElem? (i := 4) rfl))) (gi_sub (fun w h => (List.mem_cons_of_mem _ (List.mem_append_right _ (List.mem_append_right _ (List.mem_append_left _ h))))) zg_m313_X7_valueOf)) rfl rfl rfl (by decide +kernel) ⟨Nat.le_of_ble_eq_true rfl, Nat.le_of_ble_eq_true rfl⟩ 18 rfl rfl rfl rfl (Nat.le_of_ble_eq_true rfl) ⟨Nat.le_of_ble_eq_true rfl, Nat.le_of_ble_eq_true rfl⟩ dX7_takeFrom_18 (fun v ty' w' hp hk' => ?_)
  obtain ⟨rfl, rfl⟩ := hp
  show GW κ 3 0 0 (wX q d iX0 aX0) 21 [(2, .int 0), (0, .ref (q 27)), (1, .ref (q 18))] [.int 2, .int 0, .ref (q 28)]
  refine sX_16 (j := 0) hk (vp_in_iff.mpr ⟨by decide, by decide⟩) (by decide) dX7_takeFrom_21 ?_
  refine gX_same rfl ?_
  refine g_iinc (v := 1) (lv' := [(2, .int 1), (0, .ref (q 27)), (1, .ref (q 18))]) hk 0 dX7_takeFrom_22 rfl (by decide) (by decide) rfl ?_
  refine g_goto (tgt := 2) hk dX7_takeFrom_25 (by decide) ?_
  refine g_iload_n hk dX7_takeFrom_2 rfl ?_
  refine g_aload_n hk dX7_takeFrom_3 rfl ?_
  refine gX_r27_0 hk hin7 (List.mem_cons_of_mem _ (List.mem_append_left _ (List.mem_of_getElem? (i := 0) rfl))) dX7_takeFrom_4 ?_
  refine nX_16 hk dX7_takeFrom_7 ?_
  refine g_icmp_ge (tgt := 28) (a := 1) (b := 4) hk dX7_takeFrom_8 (by decide) rfl rfl (fun z9 => absurd z9 (show ¬ ((4 : Int) ≤ (1 : Int)) from by decide)) (fun _ => ?_)
  refine g_aload_n hk dX7_takeFrom_11 rfl ?_
  refine gX_r27_0 hk hin7 (List.mem_cons_of_mem _ (List.mem_append_left _ (List.mem_of_getElem? (i := 0) rfl))) dX7_takeFrom_12 ?_
  refine g_iload_n hk dX7_takeFrom_15 rfl ?_
  refine g_aload_n hk dX7_takeFrom_16 rfl ?_
  refine g_iload_n hk dX7_takeFrom_17 rfl ?_
  refine g_callV (n := 1) hk (m314_X7_valueOf l D zt d q) (SP.same _) (fun _ h => h) (gi_V (List.mem_cons_of_mem _ (List.mem_append_left _ (List.mem_of_getElem? (i := 1) rfl))) (List.mem_cons_of_mem _ (List.mem_append_left _ (List.mem_of_getElem? (i := 2) rfl))) (List.mem_cons_of_mem _ (List.mem_append_left _ (List.mem_of_getElem? (i := 3) rfl))) (List.mem_cons_of_mem _ (List.mem_append_left _ (List.mem_of_getElem? (i := 4) rfl))) (gi_sub (fun w h => (List.mem_cons_of_mem _ (List.mem_append_right _ (List.mem_append_right _ (List.mem_append_right _ (List.mem_append_left _ h)))))) zg_m314_X7_valueOf)) rfl rfl rfl (by decide +kernel) ⟨Nat.le_of_ble_eq_true rfl, Nat.le_of_ble_eq_true rfl⟩ 18 rfl rfl rfl rfl (Nat.le_of_ble_eq_true rfl) ⟨Nat.le_of_ble_eq_true rfl, Nat.le_of_ble_eq_true rfl⟩ dX7_takeFrom_18 (fun v ty' w' hp hk' => ?_)
  obtain ⟨rfl, rfl⟩ := hp
  show GW κ 3 0 0 (wX q d iX0 aX0) 21 [(2, .int 1), (0, .ref (q 27)), (1, .ref (q 18))] [.int 0, .int 1, .ref (q 28)]
  refine sX_16 (j := 1) hk (vp_in_iff.mpr ⟨by decide, by decide⟩) (by decide) dX7_takeFrom_21 ?_
  refine gX_same rfl ?_
  refine g_iinc (v := 2) (lv' := [(2, .int 2), (0, .ref (q 27)), (1, .ref (q 18))]) hk 0 dX7_takeFrom_22 rfl (by decide) (by decide) rfl ?_
  refine g_goto (tgt := 2) hk dX7_takeFrom_25 (by decide) ?_
  refine g_iload_n hk dX7_takeFrom_2 rfl ?_
  refine g_aload_n hk dX7_takeFrom_3 rfl ?_
  refine gX_r27_0 hk hin7 (List.mem_cons_of_mem _ (List.mem_append_left _ (List.mem_of_getElem? (i := 0) rfl))) dX7_takeFrom_4 ?_
  refine nX_16 hk dX7_takeFrom_7 ?_
  refine g_icmp_ge (tgt := 28) (a := 2) (b := 4) hk dX7_takeFrom_8 (by decide) rfl rfl (fun z9 => absurd z9 (show ¬ ((4 : Int) ≤ (2 : Int)) from by decide)) (fun _ => ?_)
  refine g_aload_n hk dX7_takeFrom_11 rfl ?_
  refine gX_r27_0 hk hin7 (List.mem_cons_of_mem _ (List.mem_append_left _ (List.mem_of_getElem? (i := 0) rfl))) dX7_takeFrom_12 ?_
  refine g_iload_n hk dX7_takeFrom_15 rfl ?_
  refine g_aload_n hk dX7_takeFrom_16 rfl ?_
  refine g_iload_n hk dX7_takeFrom_17 rfl ?_
  refine g_callV (n := 1) hk (m315_X7_valueOf l D zt d q) (SP.same _) (fun _ h => h) (gi_V (List.mem_cons_of_mem _ (List.mem_append_left _ (List.mem_of_getElem? (i := 1) rfl))) (List.mem_cons_of_mem _ (List.mem_append_left _ (List.mem_of_getElem? (i := 2) rfl))) (List.mem_cons_of_mem _ (List.mem_append_left _ (List.mem_of_getElem? (i := 3) rfl))) (List.mem_cons_of_mem _ (List.mem_append_left _ (List.mem_of_getElem? (i := 4) rfl))) (gi_sub (fun w h => (List.mem_cons_of_mem _ (List.mem_append_right _ (List.mem_append_right _ (List.mem_append_right _ (List.mem_append_right _ (List.mem_append_left _ h))))))) zg_m315_X7_valueOf)) rfl rfl rfl (by decide +kernel) ⟨Nat.le_of_ble_eq_true rfl, Nat.le_of_ble_eq_true rfl⟩ 18 rfl rfl rfl rfl (Nat.le_of_ble_eq_true rfl) ⟨Nat.le_of_ble_eq_true rfl, Nat.le_of_ble_eq_true rfl⟩ dX7_takeFrom_18 (fun v ty' w' hp hk' => ?_)
  obtain ⟨rfl, rfl⟩ := hp
  show GW κ 3 0 0 (wX q d iX0 aX0) 21 [(2, .int 2), (0, .ref (q 27)), (1, .ref (q 18))] [.int 0, .int 2, .ref (q 28)]
  refine sX_16 (j := 2) hk (vp_in_iff.mpr ⟨by decide, by decide⟩) (by decide) dX7_takeFrom_21 ?_
  refine gX_same rfl ?_
  refine g_iinc (v := 3) (lv' := [(2, .int 3), (0, .ref (q 27)), (1, .ref (q 18))]) hk 0 dX7_takeFrom_22 rfl (by decide) (by decide) rfl ?_
  refine g_goto (tgt := 2) hk dX7_takeFrom_25 (by decide) ?_
  refine g_iload_n hk dX7_takeFrom_2 rfl ?_
  refine g_aload_n hk dX7_takeFrom_3 rfl ?_
  refine gX_r27_0 hk hin7 (List.mem_cons_of_mem _ (List.mem_append_left _ (List.mem_of_getElem? (i := 0) rfl))) dX7_takeFrom_4 ?_
  refine nX_16 hk dX7_takeFrom_7 ?_
  refine g_icmp_ge (tgt := 28) (a := 3) (b := 4) hk dX7_takeFrom_8 (by decide) rfl rfl (fun z9 => absurd z9 (show ¬ ((4 : Int) ≤ (3 : Int)) from by decide)) (fun _ => ?_)
  refine g_aload_n hk dX7_takeFrom_11 rfl ?_
  refine gX_r27_0 hk hin7 (List.mem_cons_of_mem _ (List.mem_append_left _ (List.mem_of_getElem? (i := 0) rfl))) dX7_takeFrom_12 ?_
  refine g_iload_n hk dX7_takeFrom_15 rfl ?_
  refine g_aload_n hk dX7_takeFrom_16 rfl ?_
  refine g_iload_n hk dX7_takeFrom_17 rfl ?_
  refine g_callV (n := 1) hk (m316_X7_valueOf l D zt d q) (SP.same _) (fun _ h => h) (gi_V (List.mem_cons_of_mem _ (List.mem_append_left _ (List.mem_of_getElem? (i := 1) rfl))) (List.mem_cons_of_mem _ (List.mem_append_left _ (List.mem_of_getElem? (i := 2) rfl))) (List.mem_cons_of_mem _ (List.mem_append_left _ (List.mem_of_getElem? (i := 3) rfl))) (List.mem_cons_of_mem _ (List.mem_append_left _ (List.mem_of_getElem? (i := 4) rfl))) (gi_sub (fun w h => (List.mem_cons_of_mem _ (List.mem_append_right _ (List.mem_append_right _ (List.mem_append_right _ (List.mem_append_right _ (List.mem_append_right _ (List.mem_append_left _ h)))))))) zg_m316_X7_valueOf)) rfl rfl rfl (by decide +kernel) ⟨Nat.le_of_ble_eq_true rfl, Nat.le_of_ble_eq_true rfl⟩ 18 rfl rfl rfl rfl (Nat.le_of_ble_eq_true rfl) ⟨Nat.le_of_ble_eq_true rfl, Nat.le_of_ble_eq_true rfl⟩ dX7_takeFrom_18 (fun v ty' w' hp hk' => ?_)
  obtain ⟨rfl, rfl⟩ := hp
  show GW κ 3 0 0 (wX q d iX0 aX0) 21 [(2, .int 3), (0, .ref (q 27)), (1, .ref (q 18))] [.int 8, .int 3, .ref (q 28)]
  refine sX_16 (j := 3) hk (vp_in_iff.mpr ⟨by decide, by decide⟩) (by decide) dX7_takeFrom_21 ?_
  refine gX_same rfl ?_
  refine g_iinc (v := 4) (lv' := [(2, .int 4), (0, .ref (q 27)), (1, .ref (q 18))]) hk 0 dX7_takeFrom_22 rfl (by decide) (by decide) rfl ?_
  refine g_goto (tgt := 2) hk dX7_takeFrom_25 (by decide) ?_
  refine g_iload_n hk dX7_takeFrom_2 rfl ?_
  refine g_aload_n hk dX7_takeFrom_3 rfl ?_
  refine gX_r27_0 hk hin7 (List.mem_cons_of_mem _ (List.mem_append_left _ (List.mem_of_getElem? (i := 0) rfl))) dX7_takeFrom_4 ?_
  refine nX_16 hk dX7_takeFrom_7 ?_
  refine g_icmp_ge (tgt := 28) (a := 4) (b := 4) hk dX7_takeFrom_8 (by decide) rfl rfl (fun _ => ?_) (fun z9 => absurd (show (4 : Int) ≤ (4 : Int) from by decide) z9)
  exact g_vret hk hR ⟨rfl, rfl⟩ dX7_takeFrom_28
def wo_m317_X6_copyInto : List Cond := [Cond.fieldLink RX6 22 "WarpDesk$Stand" "size" "I", Cond.fieldLink RX6 19 "WarpDesk$Series" "size" "I"]
def wz_m317_X6_copyInto : List Cond := .code yX6_copyInto cX6_copyInto 3 none :: (wo_m317_X6_copyInto ++ (wsX60 ++ (wsX80 ++ ([] : List Cond))))
theorem zg_m317_X6_copyInto : ∀ w ∈ wz_m317_X6_copyInto, goodWord w = true := zg_cons rfl (zg_app (by decide +kernel) (zg_app zgU_wsX60 (zg_app zgU_wsX80 zg_nil)))
theorem zi_m317_X6_copyInto : ∀ w ∈ wz_m317_X6_copyInto, w ∈ lw_tbl := zi_cons zw_1333 (zi_app (zi_cons zw_196 (zi_cons zw_282 zi_nil)) (zi_app inX6 (zi_app inX8 zi_nil)))
set_option maxHeartbeats 4000000 in
set_option maxRecDepth 100000 in
theorem m317_X6_copyInto (l : Launch) (D : va_G) (zt : Nat × Nat × Nat) (d : Nat → ClassId) (q : Nat → Nat) : GM l D zt (tyX d) yX6_copyInto wz_m317_X6_copyInto ({ frames := 0, cells := 0, slots := 0, locals := 0 } : Room) [.ref (q 13), .ref (q 29)] (wX q d iX0 aX0) (fun v _ w' => v = none ∧ w' = wX q d iX0 aX0) 0 0 := by
  refine GM.of (cc := cX6_copyInto) (maxL := 3) (ret := none) (own := RX6) (lv := [(0, .ref (q 13)), (1, .ref (q 29))]) (by decide) rfl rfl (Nat.le_of_ble_eq_true rfl) rfl (fun κ sz hk hR hN => ?_)
  have hin6 : ∀ w ∈ u_ws RX6 TX6 3, w ∈ wz_m317_X6_copyInto := fun w h => (List.mem_cons_of_mem _ (List.mem_append_right _ (List.mem_append_left _ h)))
  have hin8 : ∀ w ∈ u_ws RX8 TX8 4, w ∈ wz_m317_X6_copyInto := fun w h => (List.mem_cons_of_mem _ (List.mem_append_right _ (List.mem_append_right _ (List.mem_append_left _ h))))
  refine g_aload_n hk dX6_copyInto_0 rfl ?_
  refine g_iconst (v := 0) hk dX6_copyInto_1 (by decide) ?_
  refine pX_i24 hk hin8 (List.mem_cons_of_mem _ (List.mem_append_left _ (List.mem_of_getElem? (i := 0) rfl))) dX6_copyInto_2 ?_
  refine gX_sameI rfl ?_
  refine g_iconst (v := 0) hk dX6_copyInto_5 (by decide) ?_
  refine g_istore_n (lv' := [(2, .int 0), (0, .ref (q 13)), (1, .ref (q 29))]) hk dX6_copyInto_6 (by decide) rfl ?_
  refine g_iload_n hk dX6_copyInto_7 rfl ?_
  refine g_aload_n hk dX6_copyInto_8 rfl ?_
  refine gX_i18 (v := 0) hk hin6 (List.mem_cons_of_mem _ (List.mem_append_left _ (List.mem_of_getElem? (i := 1) rfl))) dX6_copyInto_9 rfl ?_
  refine g_icmp_ge (tgt := 30) (a := 0) (b := 0) hk dX6_copyInto_12 (by decide) rfl rfl (fun _ => ?_) (fun z9 => absurd (show (0 : Int) ≤ (0 : Int) from by decide) z9)
  exact g_vret hk hR ⟨rfl, rfl⟩ dX6_copyInto_30
def wo_m318_X7_takeFrom : List Cond := [Cond.fieldLink RX7 20 "WarpDesk$Settings" "values" "[I", Cond.methodLink RX7 33 yX7_valueOf, Cond.instanceMethod yX7_valueOf, Cond.selects RX7 yX7_valueOf yX7_valueOf, Cond.initialized RX7]
def wz_m318_X7_takeFrom : List Cond := .code yX7_takeFrom cX7_takeFrom 3 none :: (wo_m318_X7_takeFrom ++ (wsX70 ++ (wz_m313_X7_valueOf ++ (wz_m314_X7_valueOf ++ (wz_m315_X7_valueOf ++ (wz_m316_X7_valueOf ++ ([] : List Cond)))))))
theorem zg_m318_X7_takeFrom : ∀ w ∈ wz_m318_X7_takeFrom, goodWord w = true := zg_cons rfl (zg_app (by decide +kernel) (zg_app zgU_wsX70 (zg_app zg_m313_X7_valueOf (zg_app zg_m314_X7_valueOf (zg_app zg_m315_X7_valueOf (zg_app zg_m316_X7_valueOf zg_nil))))))
theorem zi_m318_X7_takeFrom : ∀ w ∈ wz_m318_X7_takeFrom, w ∈ lw_tbl := zi_cons zw_784 (zi_app (zi_cons zw_190 (zi_cons zw_785 (zi_cons zw_786 (zi_cons zw_787 (zi_cons zw_107 zi_nil))))) (zi_app inX7 (zi_app zi_m313_X7_valueOf (zi_app zi_m314_X7_valueOf (zi_app zi_m315_X7_valueOf (zi_app zi_m316_X7_valueOf zi_nil))))))
set_option maxHeartbeats 4000000 in
set_option maxRecDepth 100000 in
theorem m318_X7_takeFrom (l : Launch) (D : va_G) (zt : Nat × Nat × Nat) (d : Nat → ClassId) (q : Nat → Nat) : GM l D zt (tyX d) yX7_takeFrom wz_m318_X7_takeFrom ({ frames := 1, cells := 0, slots := 0, locals := 21 } : Room) [.ref (q 31), .ref (q 18)] (wX q d iX0 aX0) (fun v _ w' => v = none ∧ w' = wX q d iX0 aX0) 0 0 := by
  refine GM.of (cc := cX7_takeFrom) (maxL := 3) (ret := none) (own := RX7) (lv := [(0, .ref (q 31)), (1, .ref (q 18))]) (by decide) rfl rfl (Nat.le_of_ble_eq_true rfl) rfl (fun κ sz hk hR hN => ?_)
  have hin7 : ∀ w ∈ u_ws RX7 TX7 1, w ∈ wz_m318_X7_takeFrom := fun w h => (List.mem_cons_of_mem _ (List.mem_append_right _ (List.mem_append_left _ h)))
  refine g_iconst (v := 0) hk dX7_takeFrom_0 (by decide) ?_
  refine g_istore_n (lv' := [(2, .int 0), (0, .ref (q 31)), (1, .ref (q 18))]) hk dX7_takeFrom_1 (by decide) rfl ?_
  refine g_iload_n hk dX7_takeFrom_2 rfl ?_
  refine g_aload_n hk dX7_takeFrom_3 rfl ?_
  refine gX_r31_0 hk hin7 (List.mem_cons_of_mem _ (List.mem_append_left _ (List.mem_of_getElem? (i := 0) rfl))) dX7_takeFrom_4 ?_
  refine nX_18 hk dX7_takeFrom_7 ?_
  refine g_icmp_ge (tgt := 28) (a := 0) (b := 4) hk dX7_takeFrom_8 (by decide) rfl rfl (fun z9 => absurd z9 (show ¬ ((4 : Int) ≤ (0 : Int)) from by decide)) (fun _ => ?_)
  refine g_aload_n hk dX7_takeFrom_11 rfl ?_
  refine gX_r31_0 hk hin7 (List.mem_cons_of_mem _ (List.mem_append_left _ (List.mem_of_getElem? (i := 0) rfl))) dX7_takeFrom_12 ?_
  refine g_iload_n hk dX7_takeFrom_15 rfl ?_
  refine g_aload_n hk dX7_takeFrom_16 rfl ?_
  refine g_iload_n hk dX7_takeFrom_17 rfl ?_
  refine g_callV (n := 1) hk (m313_X7_valueOf l D zt d q) (SP.same _) (fun _ h => h) (gi_V (List.mem_cons_of_mem _ (List.mem_append_left _ (List.mem_of_getElem? (i := 1) rfl))) (List.mem_cons_of_mem _ (List.mem_append_left _ (List.mem_of_getElem? (i := 2) rfl))) (List.mem_cons_of_mem _ (List.mem_append_left _ (List.mem_of_getElem? (i := 3) rfl))) (List.mem_cons_of_mem _ (List.mem_append_left _ (List.mem_of_getElem? (i := 4) rfl))) (gi_sub (fun w h => (List.mem_cons_of_mem _ (List.mem_append_right _ (List.mem_append_right _ (List.mem_append_left _ h))))) zg_m313_X7_valueOf)) rfl rfl rfl (by decide +kernel) ⟨Nat.le_of_ble_eq_true rfl, Nat.le_of_ble_eq_true rfl⟩ 18 rfl rfl rfl rfl (Nat.le_of_ble_eq_true rfl) ⟨Nat.le_of_ble_eq_true rfl, Nat.le_of_ble_eq_true rfl⟩ dX7_takeFrom_18 (fun v ty' w' hp hk' => ?_)
  obtain ⟨rfl, rfl⟩ := hp
  show GW κ 3 0 0 (wX q d iX0 aX0) 21 [(2, .int 0), (0, .ref (q 31)), (1, .ref (q 18))] [.int 2, .int 0, .ref (q 32)]
  refine sX_18 (j := 0) hk (vp_in_iff.mpr ⟨by decide, by decide⟩) (by decide) dX7_takeFrom_21 ?_
  refine gX_same rfl ?_
  refine g_iinc (v := 1) (lv' := [(2, .int 1), (0, .ref (q 31)), (1, .ref (q 18))]) hk 0 dX7_takeFrom_22 rfl (by decide) (by decide) rfl ?_
  refine g_goto (tgt := 2) hk dX7_takeFrom_25 (by decide) ?_
  refine g_iload_n hk dX7_takeFrom_2 rfl ?_
  refine g_aload_n hk dX7_takeFrom_3 rfl ?_
  refine gX_r31_0 hk hin7 (List.mem_cons_of_mem _ (List.mem_append_left _ (List.mem_of_getElem? (i := 0) rfl))) dX7_takeFrom_4 ?_
  refine nX_18 hk dX7_takeFrom_7 ?_
  refine g_icmp_ge (tgt := 28) (a := 1) (b := 4) hk dX7_takeFrom_8 (by decide) rfl rfl (fun z9 => absurd z9 (show ¬ ((4 : Int) ≤ (1 : Int)) from by decide)) (fun _ => ?_)
  refine g_aload_n hk dX7_takeFrom_11 rfl ?_
  refine gX_r31_0 hk hin7 (List.mem_cons_of_mem _ (List.mem_append_left _ (List.mem_of_getElem? (i := 0) rfl))) dX7_takeFrom_12 ?_
  refine g_iload_n hk dX7_takeFrom_15 rfl ?_
  refine g_aload_n hk dX7_takeFrom_16 rfl ?_
  refine g_iload_n hk dX7_takeFrom_17 rfl ?_
  refine g_callV (n := 1) hk (m314_X7_valueOf l D zt d q) (SP.same _) (fun _ h => h) (gi_V (List.mem_cons_of_mem _ (List.mem_append_left _ (List.mem_of_getElem? (i := 1) rfl))) (List.mem_cons_of_mem _ (List.mem_append_left _ (List.mem_of_getElem? (i := 2) rfl))) (List.mem_cons_of_mem _ (List.mem_append_left _ (List.mem_of_getElem? (i := 3) rfl))) (List.mem_cons_of_mem _ (List.mem_append_left _ (List.mem_of_getElem? (i := 4) rfl))) (gi_sub (fun w h => (List.mem_cons_of_mem _ (List.mem_append_right _ (List.mem_append_right _ (List.mem_append_right _ (List.mem_append_left _ h)))))) zg_m314_X7_valueOf)) rfl rfl rfl (by decide +kernel) ⟨Nat.le_of_ble_eq_true rfl, Nat.le_of_ble_eq_true rfl⟩ 18 rfl rfl rfl rfl (Nat.le_of_ble_eq_true rfl) ⟨Nat.le_of_ble_eq_true rfl, Nat.le_of_ble_eq_true rfl⟩ dX7_takeFrom_18 (fun v ty' w' hp hk' => ?_)
  obtain ⟨rfl, rfl⟩ := hp
  show GW κ 3 0 0 (wX q d iX0 aX0) 21 [(2, .int 1), (0, .ref (q 31)), (1, .ref (q 18))] [.int 0, .int 1, .ref (q 32)]
  refine sX_18 (j := 1) hk (vp_in_iff.mpr ⟨by decide, by decide⟩) (by decide) dX7_takeFrom_21 ?_
  refine gX_same rfl ?_
  refine g_iinc (v := 2) (lv' := [(2, .int 2), (0, .ref (q 31)), (1, .ref (q 18))]) hk 0 dX7_takeFrom_22 rfl (by decide) (by decide) rfl ?_
  refine g_goto (tgt := 2) hk dX7_takeFrom_25 (by decide) ?_
  refine g_iload_n hk dX7_takeFrom_2 rfl ?_
  refine g_aload_n hk dX7_takeFrom_3 rfl ?_
  refine gX_r31_0 hk hin7 (List.mem_cons_of_mem _ (List.mem_append_left _ (List.mem_of_getElem? (i := 0) rfl))) dX7_takeFrom_4 ?_
  refine nX_18 hk dX7_takeFrom_7 ?_
  refine g_icmp_ge (tgt := 28) (a := 2) (b := 4) hk dX7_takeFrom_8 (by decide) rfl rfl (fun z9 => absurd z9 (show ¬ ((4 : Int) ≤ (2 : Int)) from by decide)) (fun _ => ?_)
  refine g_aload_n hk dX7_takeFrom_11 rfl ?_
  refine gX_r31_0 hk hin7 (List.mem_cons_of_mem _ (List.mem_append_left _ (List.mem_of_getElem? (i := 0) rfl))) dX7_takeFrom_12 ?_
  refine g_iload_n hk dX7_takeFrom_15 rfl ?_
  refine g_aload_n hk dX7_takeFrom_16 rfl ?_
  refine g_iload_n hk dX7_takeFrom_17 rfl ?_
  refine g_callV (n := 1) hk (m315_X7_valueOf l D zt d q) (SP.same _) (fun _ h => h) (gi_V (List.mem_cons_of_mem _ (List.mem_append_left _ (List.mem_of_getElem? (i := 1) rfl))) (List.mem_cons_of_mem _ (List.mem_append_left _ (List.mem_of_getElem? (i := 2) rfl))) (List.mem_cons_of_mem _ (List.mem_append_left _ (List.mem_of_getElem? (i := 3) rfl))) (List.mem_cons_of_mem _ (List.mem_append_left _ (List.mem_of_getElem? (i := 4) rfl))) (gi_sub (fun w h => (List.mem_cons_of_mem _ (List.mem_append_right _ (List.mem_append_right _ (List.mem_append_right _ (List.mem_append_right _ (List.mem_append_left _ h))))))) zg_m315_X7_valueOf)) rfl rfl rfl (by decide +kernel) ⟨Nat.le_of_ble_eq_true rfl, Nat.le_of_ble_eq_true rfl⟩ 18 rfl rfl rfl rfl (Nat.le_of_ble_eq_true rfl) ⟨Nat.le_of_ble_eq_true rfl, Nat.le_of_ble_eq_true rfl⟩ dX7_takeFrom_18 (fun v ty' w' hp hk' => ?_)
  obtain ⟨rfl, rfl⟩ := hp
  show GW κ 3 0 0 (wX q d iX0 aX0) 21 [(2, .int 2), (0, .ref (q 31)), (1, .ref (q 18))] [.int 0, .int 2, .ref (q 32)]
  refine sX_18 (j := 2) hk (vp_in_iff.mpr ⟨by decide, by decide⟩) (by decide) dX7_takeFrom_21 ?_
  refine gX_same rfl ?_
  refine g_iinc (v := 3) (lv' := [(2, .int 3), (0, .ref (q 31)), (1, .ref (q 18))]) hk 0 dX7_takeFrom_22 rfl (by decide) (by decide) rfl ?_
  refine g_goto (tgt := 2) hk dX7_takeFrom_25 (by decide) ?_
  refine g_iload_n hk dX7_takeFrom_2 rfl ?_
  refine g_aload_n hk dX7_takeFrom_3 rfl ?_
  refine gX_r31_0 hk hin7 (List.mem_cons_of_mem _ (List.mem_append_left _ (List.mem_of_getElem? (i := 0) rfl))) dX7_takeFrom_4 ?_
  refine nX_18 hk dX7_takeFrom_7 ?_
  refine g_icmp_ge (tgt := 28) (a := 3) (b := 4) hk dX7_takeFrom_8 (by decide) rfl rfl (fun z9 => absurd z9 (show ¬ ((4 : Int) ≤ (3 : Int)) from by decide)) (fun _ => ?_)
  refine g_aload_n hk dX7_takeFrom_11 rfl ?_
  refine gX_r31_0 hk hin7 (List.mem_cons_of_mem _ (List.mem_append_left _ (List.mem_of_getElem? (i := 0) rfl))) dX7_takeFrom_12 ?_
  refine g_iload_n hk dX7_takeFrom_15 rfl ?_
  refine g_aload_n hk dX7_takeFrom_16 rfl ?_
  refine g_iload_n hk dX7_takeFrom_17 rfl ?_
  refine g_callV (n := 1) hk (m316_X7_valueOf l D zt d q) (SP.same _) (fun _ h => h) (gi_V (List.mem_cons_of_mem _ (List.mem_append_left _ (List.mem_of_getElem? (i := 1) rfl))) (List.mem_cons_of_mem _ (List.mem_append_left _ (List.mem_of_getElem? (i := 2) rfl))) (List.mem_cons_of_mem _ (List.mem_append_left _ (List.mem_of_getElem? (i := 3) rfl))) (List.mem_cons_of_mem _ (List.mem_append_left _ (List.mem_of_getElem? (i := 4) rfl))) (gi_sub (fun w h => (List.mem_cons_of_mem _ (List.mem_append_right _ (List.mem_append_right _ (List.mem_append_right _ (List.mem_append_right _ (List.mem_append_right _ (List.mem_append_left _ h)))))))) zg_m316_X7_valueOf)) rfl rfl rfl (by decide +kernel) ⟨Nat.le_of_ble_eq_true rfl, Nat.le_of_ble_eq_true rfl⟩ 18 rfl rfl rfl rfl (Nat.le_of_ble_eq_true rfl) ⟨Nat.le_of_ble_eq_true rfl, Nat.le_of_ble_eq_true rfl⟩ dX7_takeFrom_18 (fun v ty' w' hp hk' => ?_)
  obtain ⟨rfl, rfl⟩ := hp
  show GW κ 3 0 0 (wX q d iX0 aX0) 21 [(2, .int 3), (0, .ref (q 31)), (1, .ref (q 18))] [.int 8, .int 3, .ref (q 32)]
  refine sX_18 (j := 3) hk (vp_in_iff.mpr ⟨by decide, by decide⟩) (by decide) dX7_takeFrom_21 ?_
  refine gX_same rfl ?_
  refine g_iinc (v := 4) (lv' := [(2, .int 4), (0, .ref (q 31)), (1, .ref (q 18))]) hk 0 dX7_takeFrom_22 rfl (by decide) (by decide) rfl ?_
  refine g_goto (tgt := 2) hk dX7_takeFrom_25 (by decide) ?_
  refine g_iload_n hk dX7_takeFrom_2 rfl ?_
  refine g_aload_n hk dX7_takeFrom_3 rfl ?_
  refine gX_r31_0 hk hin7 (List.mem_cons_of_mem _ (List.mem_append_left _ (List.mem_of_getElem? (i := 0) rfl))) dX7_takeFrom_4 ?_
  refine nX_18 hk dX7_takeFrom_7 ?_
  refine g_icmp_ge (tgt := 28) (a := 4) (b := 4) hk dX7_takeFrom_8 (by decide) rfl rfl (fun _ => ?_) (fun z9 => absurd (show (4 : Int) ≤ (4 : Int) from by decide) z9)
  exact g_vret hk hR ⟨rfl, rfl⟩ dX7_takeFrom_28
def wo_m319_X6_copyInto : List Cond := [Cond.fieldLink RX6 22 "WarpDesk$Stand" "size" "I", Cond.fieldLink RX6 19 "WarpDesk$Series" "size" "I"]
def wz_m319_X6_copyInto : List Cond := .code yX6_copyInto cX6_copyInto 3 none :: (wo_m319_X6_copyInto ++ (wsX60 ++ (wsX80 ++ ([] : List Cond))))
theorem zg_m319_X6_copyInto : ∀ w ∈ wz_m319_X6_copyInto, goodWord w = true := zg_cons rfl (zg_app (by decide +kernel) (zg_app zgU_wsX60 (zg_app zgU_wsX80 zg_nil)))
theorem zi_m319_X6_copyInto : ∀ w ∈ wz_m319_X6_copyInto, w ∈ lw_tbl := zi_cons zw_1333 (zi_app (zi_cons zw_196 (zi_cons zw_282 zi_nil)) (zi_app inX6 (zi_app inX8 zi_nil)))
set_option maxHeartbeats 4000000 in
set_option maxRecDepth 100000 in
theorem m319_X6_copyInto (l : Launch) (D : va_G) (zt : Nat × Nat × Nat) (d : Nat → ClassId) (q : Nat → Nat) : GM l D zt (tyX d) yX6_copyInto wz_m319_X6_copyInto ({ frames := 0, cells := 0, slots := 0, locals := 0 } : Room) [.ref (q 13), .ref (q 33)] (wX q d iX0 aX0) (fun v _ w' => v = none ∧ w' = wX q d iX0 aX0) 0 0 := by
  refine GM.of (cc := cX6_copyInto) (maxL := 3) (ret := none) (own := RX6) (lv := [(0, .ref (q 13)), (1, .ref (q 33))]) (by decide) rfl rfl (Nat.le_of_ble_eq_true rfl) rfl (fun κ sz hk hR hN => ?_)
  have hin6 : ∀ w ∈ u_ws RX6 TX6 3, w ∈ wz_m319_X6_copyInto := fun w h => (List.mem_cons_of_mem _ (List.mem_append_right _ (List.mem_append_left _ h)))
  have hin8 : ∀ w ∈ u_ws RX8 TX8 4, w ∈ wz_m319_X6_copyInto := fun w h => (List.mem_cons_of_mem _ (List.mem_append_right _ (List.mem_append_right _ (List.mem_append_left _ h))))
  refine g_aload_n hk dX6_copyInto_0 rfl ?_
  refine g_iconst (v := 0) hk dX6_copyInto_1 (by decide) ?_
  refine pX_i26 hk hin8 (List.mem_cons_of_mem _ (List.mem_append_left _ (List.mem_of_getElem? (i := 0) rfl))) dX6_copyInto_2 ?_
  refine gX_sameI rfl ?_
  refine g_iconst (v := 0) hk dX6_copyInto_5 (by decide) ?_
  refine g_istore_n (lv' := [(2, .int 0), (0, .ref (q 13)), (1, .ref (q 33))]) hk dX6_copyInto_6 (by decide) rfl ?_
  refine g_iload_n hk dX6_copyInto_7 rfl ?_
  refine g_aload_n hk dX6_copyInto_8 rfl ?_
  refine gX_i18 (v := 0) hk hin6 (List.mem_cons_of_mem _ (List.mem_append_left _ (List.mem_of_getElem? (i := 1) rfl))) dX6_copyInto_9 rfl ?_
  refine g_icmp_ge (tgt := 30) (a := 0) (b := 0) hk dX6_copyInto_12 (by decide) rfl rfl (fun _ => ?_) (fun z9 => absurd (show (0 : Int) ≤ (0 : Int) from by decide) z9)
  exact g_vret hk hR ⟨rfl, rfl⟩ dX6_copyInto_30
def wo_m320_X7_takeFrom : List Cond := [Cond.fieldLink RX7 20 "WarpDesk$Settings" "values" "[I", Cond.methodLink RX7 33 yX7_valueOf, Cond.instanceMethod yX7_valueOf, Cond.selects RX7 yX7_valueOf yX7_valueOf, Cond.initialized RX7]
def wz_m320_X7_takeFrom : List Cond := .code yX7_takeFrom cX7_takeFrom 3 none :: (wo_m320_X7_takeFrom ++ (wsX70 ++ (wz_m313_X7_valueOf ++ (wz_m314_X7_valueOf ++ (wz_m315_X7_valueOf ++ (wz_m316_X7_valueOf ++ ([] : List Cond)))))))
theorem zg_m320_X7_takeFrom : ∀ w ∈ wz_m320_X7_takeFrom, goodWord w = true := zg_cons rfl (zg_app (by decide +kernel) (zg_app zgU_wsX70 (zg_app zg_m313_X7_valueOf (zg_app zg_m314_X7_valueOf (zg_app zg_m315_X7_valueOf (zg_app zg_m316_X7_valueOf zg_nil))))))
theorem zi_m320_X7_takeFrom : ∀ w ∈ wz_m320_X7_takeFrom, w ∈ lw_tbl := zi_cons zw_784 (zi_app (zi_cons zw_190 (zi_cons zw_785 (zi_cons zw_786 (zi_cons zw_787 (zi_cons zw_107 zi_nil))))) (zi_app inX7 (zi_app zi_m313_X7_valueOf (zi_app zi_m314_X7_valueOf (zi_app zi_m315_X7_valueOf (zi_app zi_m316_X7_valueOf zi_nil))))))
set_option maxHeartbeats 4000000 in
set_option maxRecDepth 100000 in
theorem m320_X7_takeFrom (l : Launch) (D : va_G) (zt : Nat × Nat × Nat) (d : Nat → ClassId) (q : Nat → Nat) : GM l D zt (tyX d) yX7_takeFrom wz_m320_X7_takeFrom ({ frames := 1, cells := 0, slots := 0, locals := 21 } : Room) [.ref (q 35), .ref (q 18)] (wX q d iX0 aX0) (fun v _ w' => v = none ∧ w' = wX q d iX0 aX0) 0 0 := by
  refine GM.of (cc := cX7_takeFrom) (maxL := 3) (ret := none) (own := RX7) (lv := [(0, .ref (q 35)), (1, .ref (q 18))]) (by decide) rfl rfl (Nat.le_of_ble_eq_true rfl) rfl (fun κ sz hk hR hN => ?_)
  have hin7 : ∀ w ∈ u_ws RX7 TX7 1, w ∈ wz_m320_X7_takeFrom := fun w h => (List.mem_cons_of_mem _ (List.mem_append_right _ (List.mem_append_left _ h)))
  refine g_iconst (v := 0) hk dX7_takeFrom_0 (by decide) ?_
  refine g_istore_n (lv' := [(2, .int 0), (0, .ref (q 35)), (1, .ref (q 18))]) hk dX7_takeFrom_1 (by decide) rfl ?_
  refine g_iload_n hk dX7_takeFrom_2 rfl ?_
  refine g_aload_n hk dX7_takeFrom_3 rfl ?_
  refine gX_r35_0 hk hin7 (List.mem_cons_of_mem _ (List.mem_append_left _ (List.mem_of_getElem? (i := 0) rfl))) dX7_takeFrom_4 ?_
  refine nX_20 hk dX7_takeFrom_7 ?_
  refine g_icmp_ge (tgt := 28) (a := 0) (b := 4) hk dX7_takeFrom_8 (by decide) rfl rfl (fun z9 => absurd z9 (show ¬ ((4 : Int) ≤ (0 : Int)) from by decide)) (fun _ => ?_)
  refine g_aload_n hk dX7_takeFrom_11 rfl ?_
  refine gX_r35_0 hk hin7 (List.mem_cons_of_mem _ (List.mem_append_left _ (List.mem_of_getElem? (i := 0) rfl))) dX7_takeFrom_12 ?_
  refine g_iload_n hk dX7_takeFrom_15 rfl ?_
  refine g_aload_n hk dX7_takeFrom_16 rfl ?_
  refine g_iload_n hk dX7_takeFrom_17 rfl ?_
  refine g_callV (n := 1) hk (m313_X7_valueOf l D zt d q) (SP.same _) (fun _ h => h) (gi_V (List.mem_cons_of_mem _ (List.mem_append_left _ (List.mem_of_getElem? (i := 1) rfl))) (List.mem_cons_of_mem _ (List.mem_append_left _ (List.mem_of_getElem? (i := 2) rfl))) (List.mem_cons_of_mem _ (List.mem_append_left _ (List.mem_of_getElem? (i := 3) rfl))) (List.mem_cons_of_mem _ (List.mem_append_left _ (List.mem_of_getElem? (i := 4) rfl))) (gi_sub (fun w h => (List.mem_cons_of_mem _ (List.mem_append_right _ (List.mem_append_right _ (List.mem_append_left _ h))))) zg_m313_X7_valueOf)) rfl rfl rfl (by decide +kernel) ⟨Nat.le_of_ble_eq_true rfl, Nat.le_of_ble_eq_true rfl⟩ 18 rfl rfl rfl rfl (Nat.le_of_ble_eq_true rfl) ⟨Nat.le_of_ble_eq_true rfl, Nat.le_of_ble_eq_true rfl⟩ dX7_takeFrom_18 (fun v ty' w' hp hk' => ?_)
  obtain ⟨rfl, rfl⟩ := hp
  show GW κ 3 0 0 (wX q d iX0 aX0) 21 [(2, .int 0), (0, .ref (q 35)), (1, .ref (q 18))] [.int 2, .int 0, .ref (q 36)]
  refine sX_20 (j := 0) hk (vp_in_iff.mpr ⟨by decide, by decide⟩) (by decide) dX7_takeFrom_21 ?_
  refine gX_same rfl ?_
  refine g_iinc (v := 1) (lv' := [(2, .int 1), (0, .ref (q 35)), (1, .ref (q 18))]) hk 0 dX7_takeFrom_22 rfl (by decide) (by decide) rfl ?_
  refine g_goto (tgt := 2) hk dX7_takeFrom_25 (by decide) ?_
  refine g_iload_n hk dX7_takeFrom_2 rfl ?_
  refine g_aload_n hk dX7_takeFrom_3 rfl ?_
  refine gX_r35_0 hk hin7 (List.mem_cons_of_mem _ (List.mem_append_left _ (List.mem_of_getElem? (i := 0) rfl))) dX7_takeFrom_4 ?_
  refine nX_20 hk dX7_takeFrom_7 ?_
  refine g_icmp_ge (tgt := 28) (a := 1) (b := 4) hk dX7_takeFrom_8 (by decide) rfl rfl (fun z9 => absurd z9 (show ¬ ((4 : Int) ≤ (1 : Int)) from by decide)) (fun _ => ?_)
  refine g_aload_n hk dX7_takeFrom_11 rfl ?_
  refine gX_r35_0 hk hin7 (List.mem_cons_of_mem _ (List.mem_append_left _ (List.mem_of_getElem? (i := 0) rfl))) dX7_takeFrom_12 ?_
  refine g_iload_n hk dX7_takeFrom_15 rfl ?_
  refine g_aload_n hk dX7_takeFrom_16 rfl ?_
  refine g_iload_n hk dX7_takeFrom_17 rfl ?_
  refine g_callV (n := 1) hk (m314_X7_valueOf l D zt d q) (SP.same _) (fun _ h => h) (gi_V (List.mem_cons_of_mem _ (List.mem_append_left _ (List.mem_of_getElem? (i := 1) rfl))) (List.mem_cons_of_mem _ (List.mem_append_left _ (List.mem_of_getElem? (i := 2) rfl))) (List.mem_cons_of_mem _ (List.mem_append_left _ (List.mem_of_getElem? (i := 3) rfl))) (List.mem_cons_of_mem _ (List.mem_append_left _ (List.mem_of_getElem? (i := 4) rfl))) (gi_sub (fun w h => (List.mem_cons_of_mem _ (List.mem_append_right _ (List.mem_append_right _ (List.mem_append_right _ (List.mem_append_left _ h)))))) zg_m314_X7_valueOf)) rfl rfl rfl (by decide +kernel) ⟨Nat.le_of_ble_eq_true rfl, Nat.le_of_ble_eq_true rfl⟩ 18 rfl rfl rfl rfl (Nat.le_of_ble_eq_true rfl) ⟨Nat.le_of_ble_eq_true rfl, Nat.le_of_ble_eq_true rfl⟩ dX7_takeFrom_18 (fun v ty' w' hp hk' => ?_)
  obtain ⟨rfl, rfl⟩ := hp
  show GW κ 3 0 0 (wX q d iX0 aX0) 21 [(2, .int 1), (0, .ref (q 35)), (1, .ref (q 18))] [.int 0, .int 1, .ref (q 36)]
  refine sX_20 (j := 1) hk (vp_in_iff.mpr ⟨by decide, by decide⟩) (by decide) dX7_takeFrom_21 ?_
  refine gX_same rfl ?_
  refine g_iinc (v := 2) (lv' := [(2, .int 2), (0, .ref (q 35)), (1, .ref (q 18))]) hk 0 dX7_takeFrom_22 rfl (by decide) (by decide) rfl ?_
  refine g_goto (tgt := 2) hk dX7_takeFrom_25 (by decide) ?_
  refine g_iload_n hk dX7_takeFrom_2 rfl ?_
  refine g_aload_n hk dX7_takeFrom_3 rfl ?_
  refine gX_r35_0 hk hin7 (List.mem_cons_of_mem _ (List.mem_append_left _ (List.mem_of_getElem? (i := 0) rfl))) dX7_takeFrom_4 ?_
  refine nX_20 hk dX7_takeFrom_7 ?_
  refine g_icmp_ge (tgt := 28) (a := 2) (b := 4) hk dX7_takeFrom_8 (by decide) rfl rfl (fun z9 => absurd z9 (show ¬ ((4 : Int) ≤ (2 : Int)) from by decide)) (fun _ => ?_)
  refine g_aload_n hk dX7_takeFrom_11 rfl ?_
  refine gX_r35_0 hk hin7 (List.mem_cons_of_mem _ (List.mem_append_left _ (List.mem_of_getElem? (i := 0) rfl))) dX7_takeFrom_12 ?_
  refine g_iload_n hk dX7_takeFrom_15 rfl ?_
  refine g_aload_n hk dX7_takeFrom_16 rfl ?_
  refine g_iload_n hk dX7_takeFrom_17 rfl ?_
  refine g_callV (n := 1) hk (m315_X7_valueOf l D zt d q) (SP.same _) (fun _ h => h) (gi_V (List.mem_cons_of_mem _ (List.mem_append_left _ (List.mem_of_getElem? (i := 1) rfl))) (List.mem_cons_of_mem _ (List.mem_append_left _ (List.mem_of_getElem? (i := 2) rfl))) (List.mem_cons_of_mem _ (List.mem_append_left _ (List.mem_of_getElem? (i := 3) rfl))) (List.mem_cons_of_mem _ (List.mem_append_left _ (List.mem_of_getElem? (i := 4) rfl))) (gi_sub (fun w h => (List.mem_cons_of_mem _ (List.mem_append_right _ (List.mem_append_right _ (List.mem_append_right _ (List.mem_append_right _ (List.mem_append_left _ h))))))) zg_m315_X7_valueOf)) rfl rfl rfl (by decide +kernel) ⟨Nat.le_of_ble_eq_true rfl, Nat.le_of_ble_eq_true rfl⟩ 18 rfl rfl rfl rfl (Nat.le_of_ble_eq_true rfl) ⟨Nat.le_of_ble_eq_true rfl, Nat.le_of_ble_eq_true rfl⟩ dX7_takeFrom_18 (fun v ty' w' hp hk' => ?_)
  obtain ⟨rfl, rfl⟩ := hp
  show GW κ 3 0 0 (wX q d iX0 aX0) 21 [(2, .int 2), (0, .ref (q 35)), (1, .ref (q 18))] [.int 0, .int 2, .ref (q 36)]
  refine sX_20 (j := 2) hk (vp_in_iff.mpr ⟨by decide, by decide⟩) (by decide) dX7_takeFrom_21 ?_
  refine gX_same rfl ?_
  refine g_iinc (v := 3) (lv' := [(2, .int 3), (0, .ref (q 35)), (1, .ref (q 18))]) hk 0 dX7_takeFrom_22 rfl (by decide) (by decide) rfl ?_
  refine g_goto (tgt := 2) hk dX7_takeFrom_25 (by decide) ?_
  refine g_iload_n hk dX7_takeFrom_2 rfl ?_
  refine g_aload_n hk dX7_takeFrom_3 rfl ?_
  refine gX_r35_0 hk hin7 (List.mem_cons_of_mem _ (List.mem_append_left _ (List.mem_of_getElem? (i := 0) rfl))) dX7_takeFrom_4 ?_
  refine nX_20 hk dX7_takeFrom_7 ?_
  refine g_icmp_ge (tgt := 28) (a := 3) (b := 4) hk dX7_takeFrom_8 (by decide) rfl rfl (fun z9 => absurd z9 (show ¬ ((4 : Int) ≤ (3 : Int)) from by decide)) (fun _ => ?_)
  refine g_aload_n hk dX7_takeFrom_11 rfl ?_
  refine gX_r35_0 hk hin7 (List.mem_cons_of_mem _ (List.mem_append_left _ (List.mem_of_getElem? (i := 0) rfl))) dX7_takeFrom_12 ?_
  refine g_iload_n hk dX7_takeFrom_15 rfl ?_
  refine g_aload_n hk dX7_takeFrom_16 rfl ?_
  refine g_iload_n hk dX7_takeFrom_17 rfl ?_
  refine g_callV (n := 1) hk (m316_X7_valueOf l D zt d q) (SP.same _) (fun _ h => h) (gi_V (List.mem_cons_of_mem _ (List.mem_append_left _ (List.mem_of_getElem? (i := 1) rfl))) (List.mem_cons_of_mem _ (List.mem_append_left _ (List.mem_of_getElem? (i := 2) rfl))) (List.mem_cons_of_mem _ (List.mem_append_left _ (List.mem_of_getElem? (i := 3) rfl))) (List.mem_cons_of_mem _ (List.mem_append_left _ (List.mem_of_getElem? (i := 4) rfl))) (gi_sub (fun w h => (List.mem_cons_of_mem _ (List.mem_append_right _ (List.mem_append_right _ (List.mem_append_right _ (List.mem_append_right _ (List.mem_append_right _ (List.mem_append_left _ h)))))))) zg_m316_X7_valueOf)) rfl rfl rfl (by decide +kernel) ⟨Nat.le_of_ble_eq_true rfl, Nat.le_of_ble_eq_true rfl⟩ 18 rfl rfl rfl rfl (Nat.le_of_ble_eq_true rfl) ⟨Nat.le_of_ble_eq_true rfl, Nat.le_of_ble_eq_true rfl⟩ dX7_takeFrom_18 (fun v ty' w' hp hk' => ?_)
  obtain ⟨rfl, rfl⟩ := hp
  show GW κ 3 0 0 (wX q d iX0 aX0) 21 [(2, .int 3), (0, .ref (q 35)), (1, .ref (q 18))] [.int 8, .int 3, .ref (q 36)]
  refine sX_20 (j := 3) hk (vp_in_iff.mpr ⟨by decide, by decide⟩) (by decide) dX7_takeFrom_21 ?_
  refine gX_same rfl ?_
  refine g_iinc (v := 4) (lv' := [(2, .int 4), (0, .ref (q 35)), (1, .ref (q 18))]) hk 0 dX7_takeFrom_22 rfl (by decide) (by decide) rfl ?_
  refine g_goto (tgt := 2) hk dX7_takeFrom_25 (by decide) ?_
  refine g_iload_n hk dX7_takeFrom_2 rfl ?_
  refine g_aload_n hk dX7_takeFrom_3 rfl ?_
  refine gX_r35_0 hk hin7 (List.mem_cons_of_mem _ (List.mem_append_left _ (List.mem_of_getElem? (i := 0) rfl))) dX7_takeFrom_4 ?_
  refine nX_20 hk dX7_takeFrom_7 ?_
  refine g_icmp_ge (tgt := 28) (a := 4) (b := 4) hk dX7_takeFrom_8 (by decide) rfl rfl (fun _ => ?_) (fun z9 => absurd (show (4 : Int) ≤ (4 : Int) from by decide) z9)
  exact g_vret hk hR ⟨rfl, rfl⟩ dX7_takeFrom_28
def wo_m310_X11_hold : List Cond := [Cond.fieldLink RX11 56 "WarpDesk" "slots" "[LWarpDesk$Stand;", Cond.fieldLink RX11 28 "WarpDesk" "series" "LWarpDesk$Series;", Cond.methodLink RX11 362 yX6_copyInto, Cond.instanceMethod yX6_copyInto, Cond.selects RX6 yX6_copyInto yX6_copyInto, Cond.initialized RX6, Cond.fieldLink RX11 365 "WarpDesk$Stand" "settings" "LWarpDesk$Settings;", Cond.fieldLink RX11 42 "WarpDesk" "settings" "LWarpDesk$Settings;", Cond.methodLink RX11 366 yX7_takeFrom, Cond.instanceMethod yX7_takeFrom, Cond.selects RX7 yX7_takeFrom yX7_takeFrom, Cond.initialized RX7, Cond.fieldLink RX11 110 "WarpDesk$Stand" "held" "Z"]
def wz_m310_X11_hold : List Cond := .code yX11_hold cX11_hold 3 (some .boolean) :: (wo_m310_X11_hold ++ (wsX80 ++ (wsX110 ++ (wz_m311_X6_copyInto ++ (wz_m312_X7_takeFrom ++ (wz_m317_X6_copyInto ++ (wz_m318_X7_takeFrom ++ (wz_m319_X6_copyInto ++ (wz_m320_X7_takeFrom ++ ([] : List Cond))))))))))
theorem zg_m310_X11_hold : ∀ w ∈ wz_m310_X11_hold, goodWord w = true := zg_cons rfl (zg_app (by decide +kernel) (zg_app zgU_wsX80 (zg_app zgU_wsX110 (zg_app zg_m311_X6_copyInto (zg_app zg_m312_X7_takeFrom (zg_app zg_m317_X6_copyInto (zg_app zg_m318_X7_takeFrom (zg_app zg_m319_X6_copyInto (zg_app zg_m320_X7_takeFrom zg_nil)))))))))
theorem zi_m310_X11_hold : ∀ w ∈ wz_m310_X11_hold, w ∈ lw_tbl := zi_cons zw_1329 (zi_app (zi_cons zw_493 (zi_cons zw_489 (zi_cons zw_1330 (zi_cons zw_1331 (zi_cons zw_1332 (zi_cons zw_109 (zi_cons zw_200 (zi_cons zw_491 (zi_cons zw_781 (zi_cons zw_782 (zi_cons zw_783 (zi_cons zw_107 (zi_cons zw_201 zi_nil))))))))))))) (zi_app inX8 (zi_app inX11 (zi_app zi_m311_X6_copyInto (zi_app zi_m312_X7_takeFrom (zi_app zi_m317_X6_copyInto (zi_app zi_m318_X7_takeFrom (zi_app zi_m319_X6_copyInto (zi_app zi_m320_X7_takeFrom zi_nil)))))))))
set_option maxHeartbeats 4000000 in
set_option maxRecDepth 100000 in
theorem m310_X11_hold (l : Launch) (D : va_G) (zt : Nat × Nat × Nat) (d : Nat → ClassId) (q : Nat → Nat) (a1041 : Int32) : GM l D zt (tyX d) yX11_hold wz_m310_X11_hold ({ frames := 2, cells := 0, slots := 0, locals := 43 } : Room) [.ref (q 0), .int a1041] (wX q d iX0 aX0) (fun v _ w' => ((a1041.toInt < 0) ∧ v = some (.int 0) ∧ w' = wX q d iX0 aX0) ∨ ((¬ (a1041.toInt < 0)) ∧ (a1041.toInt < 3) ∧ (a1041.toInt = 0) ∧ v = some (.int 1) ∧ w' = wX q d (upd iX0 23 1) aX0) ∨ ((¬ (a1041.toInt < 0)) ∧ (a1041.toInt < 3) ∧ (¬ (a1041.toInt = 0)) ∧ (a1041.toInt = 1) ∧ v = some (.int 1) ∧ w' = wX q d (upd iX0 25 1) aX0) ∨ ((¬ (a1041.toInt < 0)) ∧ (a1041.toInt < 3) ∧ (¬ (a1041.toInt = 0)) ∧ (¬ (a1041.toInt = 1)) ∧ (a1041.toInt = 2) ∧ v = some (.int 1) ∧ w' = wX q d (upd iX0 27 1) aX0) ∨ ((¬ (a1041.toInt < 0)) ∧ (¬ (a1041.toInt < 3)) ∧ v = some (.int 0) ∧ w' = wX q d iX0 aX0)) 0 0 := by
  refine GM.of (cc := cX11_hold) (maxL := 3) (ret := (some .boolean)) (own := RX11) (lv := [(0, .ref (q 0)), (1, .int a1041)]) (by decide) rfl rfl (Nat.le_of_ble_eq_true rfl) rfl (fun κ sz hk hR hN => ?_)
  have hin8 : ∀ w ∈ u_ws RX8 TX8 4, w ∈ wz_m310_X11_hold := fun w h => (List.mem_cons_of_mem _ (List.mem_append_right _ (List.mem_append_left _ h)))
  have hin11 : ∀ w ∈ u_ws RX11 TX11 10, w ∈ wz_m310_X11_hold := fun w h => (List.mem_cons_of_mem _ (List.mem_append_right _ (List.mem_append_right _ (List.mem_append_left _ h))))
  refine g_iload_n hk dX11_hold_0 rfl ?_
  refine g_if_lt (tgt := 13) (a := a1041.toInt) hk dX11_hold_1 (by decide) rfl (fun c1042 => ?_) (fun c1042 => ?_)
  · skip
    refine g_iconst (v := 0) hk dX11_hold_13 (by decide) ?_
    exact g_iret hk hR rfl (Or.inl ⟨c1042, rfl, rfl⟩) dX11_hold_14
  · skip
    refine g_iload_n hk dX11_hold_4 rfl ?_
    refine g_aload_n hk dX11_hold_5 rfl ?_
    refine gX_r0_6 hk hin11 (List.mem_cons_of_mem _ (List.mem_append_left _ (List.mem_of_getElem? (i := 0) rfl))) dX11_hold_6 ?_
    refine nX_14 hk dX11_hold_9 ?_
    refine g_icmp_lt (tgt := 15) (a := a1041.toInt) (b := 3) hk dX11_hold_10 (by decide) rfl rfl (fun c1043 => ?_) (fun c1043 => ?_)
    · skip
      refine g_aload_n hk dX11_hold_15 rfl ?_
      refine gX_r0_6 hk hin11 (List.mem_cons_of_mem _ (List.mem_append_left _ (List.mem_of_getElem? (i := 0) rfl))) dX11_hold_16 ?_
      refine g_iload_n hk dX11_hold_19 rfl ?_
      by_cases c1044 : a1041.toInt = 0
      · obtain rfl : a1041 = 0 := Int32.toInt_inj.mp c1044
        refine lX_14 hk (vp_in_iff.mpr ⟨by decide, by decide⟩) rfl dX11_hold_20 ?_
        refine g_astore_n (lv' := [(2, .ref (q 25)), (0, .ref (q 0)), (1, .int 0)]) hk dX11_hold_21 (by decide) rfl ?_
        refine g_aload_n hk dX11_hold_22 rfl ?_
        refine gX_r0_2 hk hin11 (List.mem_cons_of_mem _ (List.mem_append_left _ (List.mem_of_getElem? (i := 1) rfl))) dX11_hold_23 ?_
        refine g_aload_n hk dX11_hold_26 rfl ?_
        refine g_callV (n := 1) hk (m311_X6_copyInto l D zt d q) (SP.same _) (fun _ h => h) (gi_V (List.mem_cons_of_mem _ (List.mem_append_left _ (List.mem_of_getElem? (i := 2) rfl))) (List.mem_cons_of_mem _ (List.mem_append_left _ (List.mem_of_getElem? (i := 3) rfl))) (List.mem_cons_of_mem _ (List.mem_append_left _ (List.mem_of_getElem? (i := 4) rfl))) (List.mem_cons_of_mem _ (List.mem_append_left _ (List.mem_of_getElem? (i := 5) rfl))) (gi_sub (fun w h => (List.mem_cons_of_mem _ (List.mem_append_right _ (List.mem_append_right _ (List.mem_append_right _ (List.mem_append_left _ h)))))) zg_m311_X6_copyInto)) rfl rfl rfl (by decide +kernel) ⟨Nat.le_of_ble_eq_true rfl, Nat.le_of_ble_eq_true rfl⟩ 13 rfl rfl rfl rfl (Nat.le_of_ble_eq_true rfl) ⟨Nat.le_of_ble_eq_true rfl, Nat.le_of_ble_eq_true rfl⟩ dX11_hold_27 (fun v ty' w' hp hk' => ?_)
        obtain ⟨rfl, rfl⟩ := hp
        show GW κ 3 0 0 (wX q d iX0 aX0) 30 [(2, .ref (q 25)), (0, .ref (q 0)), (1, .int 0)] []
        refine g_aload_n hk dX11_hold_30 rfl ?_
        refine gX_r25_2 hk hin8 (List.mem_cons_of_mem _ (List.mem_append_left _ (List.mem_of_getElem? (i := 6) rfl))) dX11_hold_31 ?_
        refine g_aload_n hk dX11_hold_34 rfl ?_
        refine gX_r0_4 hk hin11 (List.mem_cons_of_mem _ (List.mem_append_left _ (List.mem_of_getElem? (i := 7) rfl))) dX11_hold_35 ?_
        refine g_callV (n := 1) hk (m312_X7_takeFrom l D zt d q) (SP.same _) (fun _ h => h) (gi_V (List.mem_cons_of_mem _ (List.mem_append_left _ (List.mem_of_getElem? (i := 8) rfl))) (List.mem_cons_of_mem _ (List.mem_append_left _ (List.mem_of_getElem? (i := 9) rfl))) (List.mem_cons_of_mem _ (List.mem_append_left _ (List.mem_of_getElem? (i := 10) rfl))) (List.mem_cons_of_mem _ (List.mem_append_left _ (List.mem_of_getElem? (i := 11) rfl))) (gi_sub (fun w h => (List.mem_cons_of_mem _ (List.mem_append_right _ (List.mem_append_right _ (List.mem_append_right _ (List.mem_append_right _ (List.mem_append_left _ h))))))) zg_m312_X7_takeFrom)) rfl rfl rfl (by decide +kernel) ⟨Nat.le_of_ble_eq_true rfl, Nat.le_of_ble_eq_true rfl⟩ 27 rfl rfl rfl rfl (Nat.le_of_ble_eq_true rfl) ⟨Nat.le_of_ble_eq_true rfl, Nat.le_of_ble_eq_true rfl⟩ dX11_hold_38 (fun v ty' w' hp hk' => ?_)
        obtain ⟨rfl, rfl⟩ := hp
        show GW κ 3 0 0 (wX q d iX0 aX0) 41 [(2, .ref (q 25)), (0, .ref (q 0)), (1, .int 0)] []
        refine g_aload_n hk dX11_hold_41 rfl ?_
        refine g_iconst (v := 1) hk dX11_hold_42 (by decide) ?_
        refine pX_i23 hk hin8 (List.mem_cons_of_mem _ (List.mem_append_left _ (List.mem_of_getElem? (i := 12) rfl))) ⟨rfl, rfl⟩ dX11_hold_43 ?_
        refine g_iconst (v := 1) hk dX11_hold_46 (by decide) ?_
        exact g_iret hk hR rfl (Or.inr (Or.inl ⟨c1042, c1043, c1044, rfl, rfl⟩)) dX11_hold_47
      by_cases c1045 : a1041.toInt = 1
      · obtain rfl : a1041 = 1 := Int32.toInt_inj.mp c1045
        refine lX_14 hk (vp_in_iff.mpr ⟨by decide, by decide⟩) rfl dX11_hold_20 ?_
        refine g_astore_n (lv' := [(2, .ref (q 29)), (0, .ref (q 0)), (1, .int 1)]) hk dX11_hold_21 (by decide) rfl ?_
        refine g_aload_n hk dX11_hold_22 rfl ?_
        refine gX_r0_2 hk hin11 (List.mem_cons_of_mem _ (List.mem_append_left _ (List.mem_of_getElem? (i := 1) rfl))) dX11_hold_23 ?_
        refine g_aload_n hk dX11_hold_26 rfl ?_
        refine g_callV (n := 1) hk (m317_X6_copyInto l D zt d q) (SP.same _) (fun _ h => h) (gi_V (List.mem_cons_of_mem _ (List.mem_append_left _ (List.mem_of_getElem? (i := 2) rfl))) (List.mem_cons_of_mem _ (List.mem_append_left _ (List.mem_of_getElem? (i := 3) rfl))) (List.mem_cons_of_mem _ (List.mem_append_left _ (List.mem_of_getElem? (i := 4) rfl))) (List.mem_cons_of_mem _ (List.mem_append_left _ (List.mem_of_getElem? (i := 5) rfl))) (gi_sub (fun w h => (List.mem_cons_of_mem _ (List.mem_append_right _ (List.mem_append_right _ (List.mem_append_right _ (List.mem_append_right _ (List.mem_append_right _ (List.mem_append_left _ h)))))))) zg_m317_X6_copyInto)) rfl rfl rfl (by decide +kernel) ⟨Nat.le_of_ble_eq_true rfl, Nat.le_of_ble_eq_true rfl⟩ 13 rfl rfl rfl rfl (Nat.le_of_ble_eq_true rfl) ⟨Nat.le_of_ble_eq_true rfl, Nat.le_of_ble_eq_true rfl⟩ dX11_hold_27 (fun v ty' w' hp hk' => ?_)
        obtain ⟨rfl, rfl⟩ := hp
        show GW κ 3 0 0 (wX q d iX0 aX0) 30 [(2, .ref (q 29)), (0, .ref (q 0)), (1, .int 1)] []
        refine g_aload_n hk dX11_hold_30 rfl ?_
        refine gX_r29_2 hk hin8 (List.mem_cons_of_mem _ (List.mem_append_left _ (List.mem_of_getElem? (i := 6) rfl))) dX11_hold_31 ?_
        refine g_aload_n hk dX11_hold_34 rfl ?_
        refine gX_r0_4 hk hin11 (List.mem_cons_of_mem _ (List.mem_append_left _ (List.mem_of_getElem? (i := 7) rfl))) dX11_hold_35 ?_
        refine g_callV (n := 1) hk (m318_X7_takeFrom l D zt d q) (SP.same _) (fun _ h => h) (gi_V (List.mem_cons_of_mem _ (List.mem_append_left _ (List.mem_of_getElem? (i := 8) rfl))) (List.mem_cons_of_mem _ (List.mem_append_left _ (List.mem_of_getElem? (i := 9) rfl))) (List.mem_cons_of_mem _ (List.mem_append_left _ (List.mem_of_getElem? (i := 10) rfl))) (List.mem_cons_of_mem _ (List.mem_append_left _ (List.mem_of_getElem? (i := 11) rfl))) (gi_sub (fun w h => (List.mem_cons_of_mem _ (List.mem_append_right _ (List.mem_append_right _ (List.mem_append_right _ (List.mem_append_right _ (List.mem_append_right _ (List.mem_append_right _ (List.mem_append_left _ h))))))))) zg_m318_X7_takeFrom)) rfl rfl rfl (by decide +kernel) ⟨Nat.le_of_ble_eq_true rfl, Nat.le_of_ble_eq_true rfl⟩ 31 rfl rfl rfl rfl (Nat.le_of_ble_eq_true rfl) ⟨Nat.le_of_ble_eq_true rfl, Nat.le_of_ble_eq_true rfl⟩ dX11_hold_38 (fun v ty' w' hp hk' => ?_)
        obtain ⟨rfl, rfl⟩ := hp
        show GW κ 3 0 0 (wX q d iX0 aX0) 41 [(2, .ref (q 29)), (0, .ref (q 0)), (1, .int 1)] []
        refine g_aload_n hk dX11_hold_41 rfl ?_
        refine g_iconst (v := 1) hk dX11_hold_42 (by decide) ?_
        refine pX_i25 hk hin8 (List.mem_cons_of_mem _ (List.mem_append_left _ (List.mem_of_getElem? (i := 12) rfl))) ⟨rfl, rfl⟩ dX11_hold_43 ?_
        refine g_iconst (v := 1) hk dX11_hold_46 (by decide) ?_
        exact g_iret hk hR rfl (Or.inr (Or.inr (Or.inl ⟨c1042, c1043, c1044, c1045, rfl, rfl⟩))) dX11_hold_47
      by_cases c1046 : a1041.toInt = 2
      · obtain rfl : a1041 = 2 := Int32.toInt_inj.mp c1046
        refine lX_14 hk (vp_in_iff.mpr ⟨by decide, by decide⟩) rfl dX11_hold_20 ?_
        refine g_astore_n (lv' := [(2, .ref (q 33)), (0, .ref (q 0)), (1, .int 2)]) hk dX11_hold_21 (by decide) rfl ?_
        refine g_aload_n hk dX11_hold_22 rfl ?_
        refine gX_r0_2 hk hin11 (List.mem_cons_of_mem _ (List.mem_append_left _ (List.mem_of_getElem? (i := 1) rfl))) dX11_hold_23 ?_
        refine g_aload_n hk dX11_hold_26 rfl ?_
        refine g_callV (n := 1) hk (m319_X6_copyInto l D zt d q) (SP.same _) (fun _ h => h) (gi_V (List.mem_cons_of_mem _ (List.mem_append_left _ (List.mem_of_getElem? (i := 2) rfl))) (List.mem_cons_of_mem _ (List.mem_append_left _ (List.mem_of_getElem? (i := 3) rfl))) (List.mem_cons_of_mem _ (List.mem_append_left _ (List.mem_of_getElem? (i := 4) rfl))) (List.mem_cons_of_mem _ (List.mem_append_left _ (List.mem_of_getElem? (i := 5) rfl))) (gi_sub (fun w h => (List.mem_cons_of_mem _ (List.mem_append_right _ (List.mem_append_right _ (List.mem_append_right _ (List.mem_append_right _ (List.mem_append_right _ (List.mem_append_right _ (List.mem_append_right _ (List.mem_append_left _ h)))))))))) zg_m319_X6_copyInto)) rfl rfl rfl (by decide +kernel) ⟨Nat.le_of_ble_eq_true rfl, Nat.le_of_ble_eq_true rfl⟩ 13 rfl rfl rfl rfl (Nat.le_of_ble_eq_true rfl) ⟨Nat.le_of_ble_eq_true rfl, Nat.le_of_ble_eq_true rfl⟩ dX11_hold_27 (fun v ty' w' hp hk' => ?_)
        obtain ⟨rfl, rfl⟩ := hp
        show GW κ 3 0 0 (wX q d iX0 aX0) 30 [(2, .ref (q 33)), (0, .ref (q 0)), (1, .int 2)] []
        refine g_aload_n hk dX11_hold_30 rfl ?_
        refine gX_r33_2 hk hin8 (List.mem_cons_of_mem _ (List.mem_append_left _ (List.mem_of_getElem? (i := 6) rfl))) dX11_hold_31 ?_
        refine g_aload_n hk dX11_hold_34 rfl ?_
        refine gX_r0_4 hk hin11 (List.mem_cons_of_mem _ (List.mem_append_left _ (List.mem_of_getElem? (i := 7) rfl))) dX11_hold_35 ?_
        refine g_callV (n := 1) hk (m320_X7_takeFrom l D zt d q) (SP.same _) (fun _ h => h) (gi_V (List.mem_cons_of_mem _ (List.mem_append_left _ (List.mem_of_getElem? (i := 8) rfl))) (List.mem_cons_of_mem _ (List.mem_append_left _ (List.mem_of_getElem? (i := 9) rfl))) (List.mem_cons_of_mem _ (List.mem_append_left _ (List.mem_of_getElem? (i := 10) rfl))) (List.mem_cons_of_mem _ (List.mem_append_left _ (List.mem_of_getElem? (i := 11) rfl))) (gi_sub (fun w h => (List.mem_cons_of_mem _ (List.mem_append_right _ (List.mem_append_right _ (List.mem_append_right _ (List.mem_append_right _ (List.mem_append_right _ (List.mem_append_right _ (List.mem_append_right _ (List.mem_append_right _ (List.mem_append_left _ h))))))))))) zg_m320_X7_takeFrom)) rfl rfl rfl (by decide +kernel) ⟨Nat.le_of_ble_eq_true rfl, Nat.le_of_ble_eq_true rfl⟩ 35 rfl rfl rfl rfl (Nat.le_of_ble_eq_true rfl) ⟨Nat.le_of_ble_eq_true rfl, Nat.le_of_ble_eq_true rfl⟩ dX11_hold_38 (fun v ty' w' hp hk' => ?_)
        obtain ⟨rfl, rfl⟩ := hp
        show GW κ 3 0 0 (wX q d iX0 aX0) 41 [(2, .ref (q 33)), (0, .ref (q 0)), (1, .int 2)] []
        refine g_aload_n hk dX11_hold_41 rfl ?_
        refine g_iconst (v := 1) hk dX11_hold_42 (by decide) ?_
        refine pX_i27 hk hin8 (List.mem_cons_of_mem _ (List.mem_append_left _ (List.mem_of_getElem? (i := 12) rfl))) ⟨rfl, rfl⟩ dX11_hold_43 ?_
        refine g_iconst (v := 1) hk dX11_hold_46 (by decide) ?_
        exact g_iret hk hR rfl (Or.inr (Or.inr (Or.inr (Or.inl ⟨c1042, c1043, c1044, c1045, c1046, rfl, rfl⟩)))) dX11_hold_47
      exfalso; omega
    · skip
      refine g_iconst (v := 0) hk dX11_hold_13 (by decide) ?_
      exact g_iret hk hR rfl (Or.inr (Or.inr (Or.inr (Or.inr (⟨c1042, c1043, rfl, rfl⟩))))) dX11_hold_14
def wo_m321_X11_restore : List Cond := [Cond.fieldLink RX11 56 "WarpDesk" "slots" "[LWarpDesk$Stand;", Cond.fieldLink RX11 110 "WarpDesk$Stand" "held" "Z"]
def wz_m321_X11_restore : List Cond := .code yX11_restore cX11_restore 2 (some .boolean) :: (wo_m321_X11_restore ++ (wsX80 ++ (wsX110 ++ ([] : List Cond))))
theorem zg_m321_X11_restore : ∀ w ∈ wz_m321_X11_restore, goodWord w = true := zg_cons rfl (zg_app (by decide +kernel) (zg_app zgU_wsX80 (zg_app zgU_wsX110 zg_nil)))
theorem zi_m321_X11_restore : ∀ w ∈ wz_m321_X11_restore, w ∈ lw_tbl := zi_cons zw_1338 (zi_app (zi_cons zw_493 (zi_cons zw_201 zi_nil)) (zi_app inX8 (zi_app inX11 zi_nil)))
set_option maxHeartbeats 4000000 in
set_option maxRecDepth 100000 in
theorem m321_X11_restore (l : Launch) (D : va_G) (zt : Nat × Nat × Nat) (d : Nat → ClassId) (q : Nat → Nat) (a1047 : Int32) : GM l D zt (tyX d) yX11_restore wz_m321_X11_restore ({ frames := 0, cells := 0, slots := 0, locals := 0 } : Room) [.ref (q 0), .int a1047] (wX q d iX0 aX0) (fun v _ w' => v = some (.int 0) ∧ w' = wX q d iX0 aX0) 0 0 := by
  refine GM.of (cc := cX11_restore) (maxL := 2) (ret := (some .boolean)) (own := RX11) (lv := [(0, .ref (q 0)), (1, .int a1047)]) (by decide) rfl rfl (Nat.le_of_ble_eq_true rfl) rfl (fun κ sz hk hR hN => ?_)
  have hin8 : ∀ w ∈ u_ws RX8 TX8 4, w ∈ wz_m321_X11_restore := fun w h => (List.mem_cons_of_mem _ (List.mem_append_right _ (List.mem_append_left _ h)))
  have hin11 : ∀ w ∈ u_ws RX11 TX11 10, w ∈ wz_m321_X11_restore := fun w h => (List.mem_cons_of_mem _ (List.mem_append_right _ (List.mem_append_right _ (List.mem_append_left _ h))))
  refine g_iload_n hk dX11_restore_0 rfl ?_
  refine g_if_lt (tgt := 25) (a := a1047.toInt) hk dX11_restore_1 (by decide) rfl (fun c1048 => ?_) (fun c1048 => ?_)
  · skip
    refine g_iconst (v := 0) hk dX11_restore_25 (by decide) ?_
    exact g_iret hk hR rfl ⟨rfl, rfl⟩ dX11_restore_26
  · skip
    refine g_iload_n hk dX11_restore_4 rfl ?_
    refine g_aload_n hk dX11_restore_5 rfl ?_
    refine gX_r0_6 hk hin11 (List.mem_cons_of_mem _ (List.mem_append_left _ (List.mem_of_getElem? (i := 0) rfl))) dX11_restore_6 ?_
    refine nX_14 hk dX11_restore_9 ?_
    refine g_icmp_ge (tgt := 25) (a := a1047.toInt) (b := 3) hk dX11_restore_10 (by decide) rfl rfl (fun c1049 => ?_) (fun c1049 => ?_)
    · skip
      refine g_iconst (v := 0) hk dX11_restore_25 (by decide) ?_
      exact g_iret hk hR rfl ⟨rfl, rfl⟩ dX11_restore_26
    · skip
      refine g_aload_n hk dX11_restore_13 rfl ?_
      refine gX_r0_6 hk hin11 (List.mem_cons_of_mem _ (List.mem_append_left _ (List.mem_of_getElem? (i := 0) rfl))) dX11_restore_14 ?_
      refine g_iload_n hk dX11_restore_17 rfl ?_
      by_cases c1050 : a1047.toInt = 0
      · obtain rfl : a1047 = 0 := Int32.toInt_inj.mp c1050
        refine lX_14 hk (vp_in_iff.mpr ⟨by decide, by decide⟩) rfl dX11_restore_18 ?_
        refine gX_i23 (v := 0) hk hin8 (List.mem_cons_of_mem _ (List.mem_append_left _ (List.mem_of_getElem? (i := 1) rfl))) dX11_restore_19 rfl ?_
        refine g_if_ne (tgt := 27) (a := 0) hk dX11_restore_22 (by decide) rfl (fun z9 => absurd z9 (show ¬ ((0 : Int) ≠ (0 : Int)) from by decide)) (fun _ => ?_)
        refine g_iconst (v := 0) hk dX11_restore_25 (by decide) ?_
        exact g_iret hk hR rfl ⟨rfl, rfl⟩ dX11_restore_26
      by_cases c1051 : a1047.toInt = 1
      · obtain rfl : a1047 = 1 := Int32.toInt_inj.mp c1051
        refine lX_14 hk (vp_in_iff.mpr ⟨by decide, by decide⟩) rfl dX11_restore_18 ?_
        refine gX_i25 (v := 0) hk hin8 (List.mem_cons_of_mem _ (List.mem_append_left _ (List.mem_of_getElem? (i := 1) rfl))) dX11_restore_19 rfl ?_
        refine g_if_ne (tgt := 27) (a := 0) hk dX11_restore_22 (by decide) rfl (fun z9 => absurd z9 (show ¬ ((0 : Int) ≠ (0 : Int)) from by decide)) (fun _ => ?_)
        refine g_iconst (v := 0) hk dX11_restore_25 (by decide) ?_
        exact g_iret hk hR rfl ⟨rfl, rfl⟩ dX11_restore_26
      by_cases c1052 : a1047.toInt = 2
      · obtain rfl : a1047 = 2 := Int32.toInt_inj.mp c1052
        refine lX_14 hk (vp_in_iff.mpr ⟨by decide, by decide⟩) rfl dX11_restore_18 ?_
        refine gX_i27 (v := 0) hk hin8 (List.mem_cons_of_mem _ (List.mem_append_left _ (List.mem_of_getElem? (i := 1) rfl))) dX11_restore_19 rfl ?_
        refine g_if_ne (tgt := 27) (a := 0) hk dX11_restore_22 (by decide) rfl (fun z9 => absurd z9 (show ¬ ((0 : Int) ≠ (0 : Int)) from by decide)) (fun _ => ?_)
        refine g_iconst (v := 0) hk dX11_restore_25 (by decide) ?_
        exact g_iret hk hR rfl ⟨rfl, rfl⟩ dX11_restore_26
      exfalso; omega
def wo_m323_X6_gapCount : List Cond := [Cond.fieldLink RX6 19 "WarpDesk$Series" "size" "I"]
def wz_m323_X6_gapCount : List Cond := .code yX6_gapCount cX6_gapCount 3 (some .int) :: (wo_m323_X6_gapCount ++ (wsX60 ++ ([] : List Cond)))
theorem zg_m323_X6_gapCount : ∀ w ∈ wz_m323_X6_gapCount, goodWord w = true := zg_cons rfl (zg_app (by decide +kernel) (zg_app zgU_wsX60 zg_nil))
theorem zi_m323_X6_gapCount : ∀ w ∈ wz_m323_X6_gapCount, w ∈ lw_tbl := zi_cons zw_1346 (zi_app (zi_cons zw_282 zi_nil) (zi_app inX6 zi_nil))
set_option maxHeartbeats 4000000 in
set_option maxRecDepth 100000 in
theorem m323_X6_gapCount (l : Launch) (D : va_G) (zt : Nat × Nat × Nat) (d : Nat → ClassId) (q : Nat → Nat) : GM l D zt (tyX d) yX6_gapCount wz_m323_X6_gapCount ({ frames := 0, cells := 0, slots := 0, locals := 0 } : Room) [.ref (q 13)] (wX q d iX0 aX0) (fun v _ w' => v = some (.int 0) ∧ w' = wX q d iX0 aX0) 0 0 := by
  refine GM.of (cc := cX6_gapCount) (maxL := 3) (ret := (some .int)) (own := RX6) (lv := [(0, .ref (q 13))]) (by decide) rfl rfl (Nat.le_of_ble_eq_true rfl) rfl (fun κ sz hk hR hN => ?_)
  have hin6 : ∀ w ∈ u_ws RX6 TX6 3, w ∈ wz_m323_X6_gapCount := fun w h => (List.mem_cons_of_mem _ (List.mem_append_right _ (List.mem_append_left _ h)))
  refine g_iconst (v := 0) hk dX6_gapCount_0 (by decide) ?_
  refine g_istore_n (lv' := [(1, .int 0), (0, .ref (q 13))]) hk dX6_gapCount_1 (by decide) rfl ?_
  refine g_iconst (v := 0) hk dX6_gapCount_2 (by decide) ?_
  refine g_istore_n (lv' := [(2, .int 0), (1, .int 0), (0, .ref (q 13))]) hk dX6_gapCount_3 (by decide) rfl ?_
  refine g_iload_n hk dX6_gapCount_4 rfl ?_
  refine g_aload_n hk dX6_gapCount_5 rfl ?_
  refine gX_i18 (v := 0) hk hin6 (List.mem_cons_of_mem _ (List.mem_append_left _ (List.mem_of_getElem? (i := 0) rfl))) dX6_gapCount_6 rfl ?_
  refine g_icmp_ge (tgt := 29) (a := 0) (b := 0) hk dX6_gapCount_9 (by decide) rfl rfl (fun _ => ?_) (fun z9 => absurd (show (0 : Int) ≤ (0 : Int) from by decide) z9)
  refine g_iload_n hk dX6_gapCount_29 rfl ?_
  exact g_iret hk hR rfl ⟨rfl, rfl⟩ dX6_gapCount_30
def wo_m324_X6_readingsAtEnd : List Cond := [Cond.fieldLink RX6 19 "WarpDesk$Series" "size" "I"]
def wz_m324_X6_readingsAtEnd : List Cond := .code yX6_readingsAtEnd cX6_readingsAtEnd 3 (some .int) :: (wo_m324_X6_readingsAtEnd ++ (wsX60 ++ ([] : List Cond)))
theorem zg_m324_X6_readingsAtEnd : ∀ w ∈ wz_m324_X6_readingsAtEnd, goodWord w = true := zg_cons rfl (zg_app (by decide +kernel) (zg_app zgU_wsX60 zg_nil))
theorem zi_m324_X6_readingsAtEnd : ∀ w ∈ wz_m324_X6_readingsAtEnd, w ∈ lw_tbl := zi_cons zw_1350 (zi_app (zi_cons zw_282 zi_nil) (zi_app inX6 zi_nil))
set_option maxHeartbeats 4000000 in
set_option maxRecDepth 100000 in
theorem m324_X6_readingsAtEnd (l : Launch) (D : va_G) (zt : Nat × Nat × Nat) (d : Nat → ClassId) (q : Nat → Nat) : GM l D zt (tyX d) yX6_readingsAtEnd wz_m324_X6_readingsAtEnd ({ frames := 0, cells := 0, slots := 0, locals := 0 } : Room) [.ref (q 13)] (wX q d iX0 aX0) (fun v _ w' => v = some (.int 0) ∧ w' = wX q d iX0 aX0) 0 0 := by
  refine GM.of (cc := cX6_readingsAtEnd) (maxL := 3) (ret := (some .int)) (own := RX6) (lv := [(0, .ref (q 13))]) (by decide) rfl rfl (Nat.le_of_ble_eq_true rfl) rfl (fun κ sz hk hR hN => ?_)
  have hin6 : ∀ w ∈ u_ws RX6 TX6 3, w ∈ wz_m324_X6_readingsAtEnd := fun w h => (List.mem_cons_of_mem _ (List.mem_append_right _ (List.mem_append_left _ h)))
  refine g_iconst (v := 0) hk dX6_readingsAtEnd_0 (by decide) ?_
  refine g_istore_n (lv' := [(1, .int 0), (0, .ref (q 13))]) hk dX6_readingsAtEnd_1 (by decide) rfl ?_
  refine g_aload_n hk dX6_readingsAtEnd_2 rfl ?_
  refine gX_i18 (v := 0) hk hin6 (List.mem_cons_of_mem _ (List.mem_append_left _ (List.mem_of_getElem? (i := 0) rfl))) dX6_readingsAtEnd_3 rfl ?_
  refine g_iconst (v := 1) hk dX6_readingsAtEnd_6 (by decide) ?_
  refine g_isub hk dX6_readingsAtEnd_7 ?_
  refine g_norm (v := (-1)) (by decide) ?_
  refine g_istore_n (lv' := [(2, .int (-1)), (1, .int 0), (0, .ref (q 13))]) hk dX6_readingsAtEnd_8 (by decide) rfl ?_
  refine g_iload_n hk dX6_readingsAtEnd_9 rfl ?_
  refine g_if_lt (tgt := 30) (a := (-1)) hk dX6_readingsAtEnd_10 (by decide) rfl (fun _ => ?_) (fun z9 => absurd (show ((-1) : Int) < (0 : Int) from by decide) z9)
  refine g_iload_n hk dX6_readingsAtEnd_30 rfl ?_
  exact g_iret hk hR rfl ⟨rfl, rfl⟩ dX6_readingsAtEnd_31
def wo_m325_X6_sumOf : List Cond := []
def wz_m325_X6_sumOf : List Cond := .code yX6_sumOf cX6_sumOf 5 (some .int) :: (wo_m325_X6_sumOf ++ ([] : List Cond))
theorem zg_m325_X6_sumOf : ∀ w ∈ wz_m325_X6_sumOf, goodWord w = true := zg_cons rfl (zg_app (by decide +kernel) zg_nil)
theorem zi_m325_X6_sumOf : ∀ w ∈ wz_m325_X6_sumOf, w ∈ lw_tbl := zi_cons zw_910 (zi_app zi_nil zi_nil)
set_option maxHeartbeats 4000000 in
set_option maxRecDepth 100000 in
theorem m325_X6_sumOf (l : Launch) (D : va_G) (zt : Nat × Nat × Nat) (d : Nat → ClassId) (q : Nat → Nat) : GM l D zt (tyX d) yX6_sumOf wz_m325_X6_sumOf ({ frames := 0, cells := 0, slots := 0, locals := 0 } : Room) [.ref (q 13), .int 0, .int 0] (wX q d iX0 aX0) (fun v _ w' => v = some (.int 0) ∧ w' = wX q d iX0 aX0) 0 0 := by
  refine GM.of (cc := cX6_sumOf) (maxL := 5) (ret := (some .int)) (own := RX6) (lv := [(0, .ref (q 13)), (1, .int 0), (2, .int 0)]) (by decide) rfl rfl (Nat.le_of_ble_eq_true rfl) rfl (fun κ sz hk hR hN => ?_)
  refine g_iconst (v := 0) hk dX6_sumOf_0 (by decide) ?_
  refine g_istore_n (lv' := [(3, .int 0), (0, .ref (q 13)), (1, .int 0), (2, .int 0)]) hk dX6_sumOf_1 (by decide) rfl ?_
  refine g_iconst (v := 0) hk dX6_sumOf_2 (by decide) ?_
  refine g_istore (lv' := [(4, .int 0), (3, .int 0), (0, .ref (q 13)), (1, .int 0), (2, .int 0)]) hk dX6_sumOf_3 (by decide) rfl ?_
  refine g_iload hk dX6_sumOf_5 rfl ?_
  refine g_iload_n hk dX6_sumOf_7 rfl ?_
  refine g_icmp_ge (tgt := 39) (a := 0) (b := 0) hk dX6_sumOf_8 (by decide) rfl rfl (fun _ => ?_) (fun z9 => absurd (show (0 : Int) ≤ (0 : Int) from by decide) z9)
  refine g_iload_n hk dX6_sumOf_39 rfl ?_
  exact g_iret hk hR rfl ⟨rfl, rfl⟩ dX6_sumOf_40
def wo_m326_X11_slotsHeld : List Cond := [Cond.fieldLink RX11 56 "WarpDesk" "slots" "[LWarpDesk$Stand;", Cond.fieldLink RX11 110 "WarpDesk$Stand" "held" "Z"]
def wz_m326_X11_slotsHeld : List Cond := .code yX11_slotsHeld cX11_slotsHeld 3 (some .int) :: (wo_m326_X11_slotsHeld ++ (wsX80 ++ (wsX110 ++ ([] : List Cond))))
theorem zg_m326_X11_slotsHeld : ∀ w ∈ wz_m326_X11_slotsHeld, goodWord w = true := zg_cons rfl (zg_app (by decide +kernel) (zg_app zgU_wsX80 (zg_app zgU_wsX110 zg_nil)))
theorem zi_m326_X11_slotsHeld : ∀ w ∈ wz_m326_X11_slotsHeld, w ∈ lw_tbl := zi_cons zw_1354 (zi_app (zi_cons zw_493 (zi_cons zw_201 zi_nil)) (zi_app inX8 (zi_app inX11 zi_nil)))
set_option maxHeartbeats 4000000 in
set_option maxRecDepth 100000 in
theorem m326_X11_slotsHeld (l : Launch) (D : va_G) (zt : Nat × Nat × Nat) (d : Nat → ClassId) (q : Nat → Nat) : GM l D zt (tyX d) yX11_slotsHeld wz_m326_X11_slotsHeld ({ frames := 0, cells := 0, slots := 0, locals := 0 } : Room) [.ref (q 0)] (wX q d iX0 aX0) (fun v _ w' => v = some (.int 0) ∧ w' = wX q d iX0 aX0) 0 0 := by
  refine GM.of (cc := cX11_slotsHeld) (maxL := 3) (ret := (some .int)) (own := RX11) (lv := [(0, .ref (q 0))]) (by decide) rfl rfl (Nat.le_of_ble_eq_true rfl) rfl (fun κ sz hk hR hN => ?_)
  have hin8 : ∀ w ∈ u_ws RX8 TX8 4, w ∈ wz_m326_X11_slotsHeld := fun w h => (List.mem_cons_of_mem _ (List.mem_append_right _ (List.mem_append_left _ h)))
  have hin11 : ∀ w ∈ u_ws RX11 TX11 10, w ∈ wz_m326_X11_slotsHeld := fun w h => (List.mem_cons_of_mem _ (List.mem_append_right _ (List.mem_append_right _ (List.mem_append_left _ h))))
  refine g_iconst (v := 0) hk dX11_slotsHeld_0 (by decide) ?_
  refine g_istore_n (lv' := [(1, .int 0), (0, .ref (q 0))]) hk dX11_slotsHeld_1 (by decide) rfl ?_
  refine g_iconst (v := 0) hk dX11_slotsHeld_2 (by decide) ?_
  refine g_istore_n (lv' := [(2, .int 0), (1, .int 0), (0, .ref (q 0))]) hk dX11_slotsHeld_3 (by decide) rfl ?_
  refine g_iload_n hk dX11_slotsHeld_4 rfl ?_
  refine g_aload_n hk dX11_slotsHeld_5 rfl ?_
  refine gX_r0_6 hk hin11 (List.mem_cons_of_mem _ (List.mem_append_left _ (List.mem_of_getElem? (i := 0) rfl))) dX11_slotsHeld_6 ?_
  refine nX_14 hk dX11_slotsHeld_9 ?_
  refine g_icmp_ge (tgt := 34) (a := 0) (b := 3) hk dX11_slotsHeld_10 (by decide) rfl rfl (fun z9 => absurd z9 (show ¬ ((3 : Int) ≤ (0 : Int)) from by decide)) (fun _ => ?_)
  refine g_aload_n hk dX11_slotsHeld_13 rfl ?_
  refine gX_r0_6 hk hin11 (List.mem_cons_of_mem _ (List.mem_append_left _ (List.mem_of_getElem? (i := 0) rfl))) dX11_slotsHeld_14 ?_
  refine g_iload_n hk dX11_slotsHeld_17 rfl ?_
  refine lX_14 hk (vp_in_iff.mpr ⟨by decide, by decide⟩) rfl dX11_slotsHeld_18 ?_
  refine gX_i23 (v := 0) hk hin8 (List.mem_cons_of_mem _ (List.mem_append_left _ (List.mem_of_getElem? (i := 1) rfl))) dX11_slotsHeld_19 rfl ?_
  refine g_if_eq (tgt := 28) (a := 0) hk dX11_slotsHeld_22 (by decide) rfl (fun _ => ?_) (fun z9 => absurd (show (0 : Int) = (0 : Int) from by decide) z9)
  refine g_iinc (v := 1) (lv' := [(2, .int 1), (1, .int 0), (0, .ref (q 0))]) hk 0 dX11_slotsHeld_28 rfl (by decide) (by decide) rfl ?_
  refine g_goto (tgt := 4) hk dX11_slotsHeld_31 (by decide) ?_
  refine g_iload_n hk dX11_slotsHeld_4 rfl ?_
  refine g_aload_n hk dX11_slotsHeld_5 rfl ?_
  refine gX_r0_6 hk hin11 (List.mem_cons_of_mem _ (List.mem_append_left _ (List.mem_of_getElem? (i := 0) rfl))) dX11_slotsHeld_6 ?_
  refine nX_14 hk dX11_slotsHeld_9 ?_
  refine g_icmp_ge (tgt := 34) (a := 1) (b := 3) hk dX11_slotsHeld_10 (by decide) rfl rfl (fun z9 => absurd z9 (show ¬ ((3 : Int) ≤ (1 : Int)) from by decide)) (fun _ => ?_)
  refine g_aload_n hk dX11_slotsHeld_13 rfl ?_
  refine gX_r0_6 hk hin11 (List.mem_cons_of_mem _ (List.mem_append_left _ (List.mem_of_getElem? (i := 0) rfl))) dX11_slotsHeld_14 ?_
  refine g_iload_n hk dX11_slotsHeld_17 rfl ?_
  refine lX_14 hk (vp_in_iff.mpr ⟨by decide, by decide⟩) rfl dX11_slotsHeld_18 ?_
  refine gX_i25 (v := 0) hk hin8 (List.mem_cons_of_mem _ (List.mem_append_left _ (List.mem_of_getElem? (i := 1) rfl))) dX11_slotsHeld_19 rfl ?_
  refine g_if_eq (tgt := 28) (a := 0) hk dX11_slotsHeld_22 (by decide) rfl (fun _ => ?_) (fun z9 => absurd (show (0 : Int) = (0 : Int) from by decide) z9)
  refine g_iinc (v := 2) (lv' := [(2, .int 2), (1, .int 0), (0, .ref (q 0))]) hk 0 dX11_slotsHeld_28 rfl (by decide) (by decide) rfl ?_
  refine g_goto (tgt := 4) hk dX11_slotsHeld_31 (by decide) ?_
  refine g_iload_n hk dX11_slotsHeld_4 rfl ?_
  refine g_aload_n hk dX11_slotsHeld_5 rfl ?_
  refine gX_r0_6 hk hin11 (List.mem_cons_of_mem _ (List.mem_append_left _ (List.mem_of_getElem? (i := 0) rfl))) dX11_slotsHeld_6 ?_
  refine nX_14 hk dX11_slotsHeld_9 ?_
  refine g_icmp_ge (tgt := 34) (a := 2) (b := 3) hk dX11_slotsHeld_10 (by decide) rfl rfl (fun z9 => absurd z9 (show ¬ ((3 : Int) ≤ (2 : Int)) from by decide)) (fun _ => ?_)
  refine g_aload_n hk dX11_slotsHeld_13 rfl ?_
  refine gX_r0_6 hk hin11 (List.mem_cons_of_mem _ (List.mem_append_left _ (List.mem_of_getElem? (i := 0) rfl))) dX11_slotsHeld_14 ?_
  refine g_iload_n hk dX11_slotsHeld_17 rfl ?_
  refine lX_14 hk (vp_in_iff.mpr ⟨by decide, by decide⟩) rfl dX11_slotsHeld_18 ?_
  refine gX_i27 (v := 0) hk hin8 (List.mem_cons_of_mem _ (List.mem_append_left _ (List.mem_of_getElem? (i := 1) rfl))) dX11_slotsHeld_19 rfl ?_
  refine g_if_eq (tgt := 28) (a := 0) hk dX11_slotsHeld_22 (by decide) rfl (fun _ => ?_) (fun z9 => absurd (show (0 : Int) = (0 : Int) from by decide) z9)
  refine g_iinc (v := 3) (lv' := [(2, .int 3), (1, .int 0), (0, .ref (q 0))]) hk 0 dX11_slotsHeld_28 rfl (by decide) (by decide) rfl ?_
  refine g_goto (tgt := 4) hk dX11_slotsHeld_31 (by decide) ?_
  refine g_iload_n hk dX11_slotsHeld_4 rfl ?_
  refine g_aload_n hk dX11_slotsHeld_5 rfl ?_
  refine gX_r0_6 hk hin11 (List.mem_cons_of_mem _ (List.mem_append_left _ (List.mem_of_getElem? (i := 0) rfl))) dX11_slotsHeld_6 ?_
  refine nX_14 hk dX11_slotsHeld_9 ?_
  refine g_icmp_ge (tgt := 34) (a := 3) (b := 3) hk dX11_slotsHeld_10 (by decide) rfl rfl (fun _ => ?_) (fun z9 => absurd (show (3 : Int) ≤ (3 : Int) from by decide) z9)
  refine g_iload_n hk dX11_slotsHeld_34 rfl ?_
  exact g_iret hk hR rfl ⟨rfl, rfl⟩ dX11_slotsHeld_35
def wo_m327_X6_greatestOf : List Cond := []
def wz_m327_X6_greatestOf : List Cond := .code yX6_greatestOf cX6_greatestOf 5 (some .int) :: (wo_m327_X6_greatestOf ++ ([] : List Cond))
theorem zg_m327_X6_greatestOf : ∀ w ∈ wz_m327_X6_greatestOf, goodWord w = true := zg_cons rfl (zg_app (by decide +kernel) zg_nil)
theorem zi_m327_X6_greatestOf : ∀ w ∈ wz_m327_X6_greatestOf, w ∈ lw_tbl := zi_cons zw_918 (zi_app zi_nil zi_nil)
set_option maxHeartbeats 4000000 in
set_option maxRecDepth 100000 in
theorem m327_X6_greatestOf (l : Launch) (D : va_G) (zt : Nat × Nat × Nat) (d : Nat → ClassId) (q : Nat → Nat) : GM l D zt (tyX d) yX6_greatestOf wz_m327_X6_greatestOf ({ frames := 0, cells := 0, slots := 0, locals := 0 } : Room) [.ref (q 13), .int 0, .int 0] (wX q d iX0 aX0) (fun v _ w' => v = some (.int (-1000)) ∧ w' = wX q d iX0 aX0) 0 0 := by
  refine GM.of (cc := cX6_greatestOf) (maxL := 5) (ret := (some .int)) (own := RX6) (lv := [(0, .ref (q 13)), (1, .int 0), (2, .int 0)]) (by decide) rfl rfl (Nat.le_of_ble_eq_true rfl) rfl (fun κ sz hk hR hN => ?_)
  refine g_sipush (v := (-1000)) hk dX6_greatestOf_0 (by decide) ?_
  refine g_istore_n (lv' := [(3, .int (-1000)), (0, .ref (q 13)), (1, .int 0), (2, .int 0)]) hk dX6_greatestOf_3 (by decide) rfl ?_
  refine g_iconst (v := 0) hk dX6_greatestOf_4 (by decide) ?_
  refine g_istore (lv' := [(4, .int 0), (3, .int (-1000)), (0, .ref (q 13)), (1, .int 0), (2, .int 0)]) hk dX6_greatestOf_5 (by decide) rfl ?_
  refine g_iload hk dX6_greatestOf_7 rfl ?_
  refine g_iload_n hk dX6_greatestOf_9 rfl ?_
  refine g_icmp_ge (tgt := 32) (a := 0) (b := 0) hk dX6_greatestOf_10 (by decide) rfl rfl (fun _ => ?_) (fun z9 => absurd (show (0 : Int) ≤ (0 : Int) from by decide) z9)
  refine g_iload_n hk dX6_greatestOf_32 rfl ?_
  exact g_iret hk hR rfl ⟨rfl, rfl⟩ dX6_greatestOf_33
def wo_m328_X6_leastOf : List Cond := []
def wz_m328_X6_leastOf : List Cond := .code yX6_leastOf cX6_leastOf 6 (some .int) :: (wo_m328_X6_leastOf ++ ([] : List Cond))
theorem zg_m328_X6_leastOf : ∀ w ∈ wz_m328_X6_leastOf, goodWord w = true := zg_cons rfl (zg_app (by decide +kernel) zg_nil)
theorem zi_m328_X6_leastOf : ∀ w ∈ wz_m328_X6_leastOf, w ∈ lw_tbl := zi_cons zw_914 (zi_app zi_nil zi_nil)
set_option maxHeartbeats 4000000 in
set_option maxRecDepth 100000 in
theorem m328_X6_leastOf (l : Launch) (D : va_G) (zt : Nat × Nat × Nat) (d : Nat → ClassId) (q : Nat → Nat) : GM l D zt (tyX d) yX6_leastOf wz_m328_X6_leastOf ({ frames := 0, cells := 0, slots := 0, locals := 0 } : Room) [.ref (q 13), .int 0, .int 0] (wX q d iX0 aX0) (fun v _ w' => v = some (.int (-1000)) ∧ w' = wX q d iX0 aX0) 0 0 := by
  refine GM.of (cc := cX6_leastOf) (maxL := 6) (ret := (some .int)) (own := RX6) (lv := [(0, .ref (q 13)), (1, .int 0), (2, .int 0)]) (by decide) rfl rfl (Nat.le_of_ble_eq_true rfl) rfl (fun κ sz hk hR hN => ?_)
  refine g_sipush (v := (-1000)) hk dX6_leastOf_0 (by decide) ?_
  refine g_istore_n (lv' := [(3, .int (-1000)), (0, .ref (q 13)), (1, .int 0), (2, .int 0)]) hk dX6_leastOf_3 (by decide) rfl ?_
  refine g_iconst (v := 0) hk dX6_leastOf_4 (by decide) ?_
  refine g_istore (lv' := [(4, .int 0), (3, .int (-1000)), (0, .ref (q 13)), (1, .int 0), (2, .int 0)]) hk dX6_leastOf_5 (by decide) rfl ?_
  refine g_iload hk dX6_leastOf_7 rfl ?_
  refine g_iload_n hk dX6_leastOf_9 rfl ?_
  refine g_icmp_ge (tgt := 53) (a := 0) (b := 0) hk dX6_leastOf_10 (by decide) rfl rfl (fun _ => ?_) (fun z9 => absurd (show (0 : Int) ≤ (0 : Int) from by decide) z9)
  refine g_iload_n hk dX6_leastOf_53 rfl ?_
  exact g_iret hk hR rfl ⟨rfl, rfl⟩ dX6_leastOf_54
def wo_m329_X6_runFrom : List Cond := [Cond.fieldLink RX6 19 "WarpDesk$Series" "size" "I"]
def wz_m329_X6_runFrom : List Cond := .code yX6_runFrom cX6_runFrom 4 (some .int) :: (wo_m329_X6_runFrom ++ (wsX60 ++ ([] : List Cond)))
theorem zg_m329_X6_runFrom : ∀ w ∈ wz_m329_X6_runFrom, goodWord w = true := zg_cons rfl (zg_app (by decide +kernel) (zg_app zgU_wsX60 zg_nil))
theorem zi_m329_X6_runFrom : ∀ w ∈ wz_m329_X6_runFrom, w ∈ lw_tbl := zi_cons zw_1324 (zi_app (zi_cons zw_282 zi_nil) (zi_app inX6 zi_nil))
set_option maxHeartbeats 4000000 in
set_option maxRecDepth 100000 in
theorem m329_X6_runFrom (l : Launch) (D : va_G) (zt : Nat × Nat × Nat) (d : Nat → ClassId) (q : Nat → Nat) : GM l D zt (tyX d) yX6_runFrom wz_m329_X6_runFrom ({ frames := 0, cells := 0, slots := 0, locals := 0 } : Room) [.ref (q 13), .int 0] (wX q d iX0 aX0) (fun v _ w' => v = some (.int 0) ∧ w' = wX q d iX0 aX0) 0 0 := by
  refine GM.of (cc := cX6_runFrom) (maxL := 4) (ret := (some .int)) (own := RX6) (lv := [(0, .ref (q 13)), (1, .int 0)]) (by decide) rfl rfl (Nat.le_of_ble_eq_true rfl) rfl (fun κ sz hk hR hN => ?_)
  have hin6 : ∀ w ∈ u_ws RX6 TX6 3, w ∈ wz_m329_X6_runFrom := fun w h => (List.mem_cons_of_mem _ (List.mem_append_right _ (List.mem_append_left _ h)))
  refine g_iconst (v := 0) hk dX6_runFrom_0 (by decide) ?_
  refine g_istore_n (lv' := [(2, .int 0), (0, .ref (q 13)), (1, .int 0)]) hk dX6_runFrom_1 (by decide) rfl ?_
  refine g_iload_n hk dX6_runFrom_2 rfl ?_
  refine g_istore_n (lv' := [(3, .int 0), (2, .int 0), (0, .ref (q 13)), (1, .int 0)]) hk dX6_runFrom_3 (by decide) rfl ?_
  refine g_iload_n hk dX6_runFrom_4 rfl ?_
  refine g_aload_n hk dX6_runFrom_5 rfl ?_
  refine gX_i18 (v := 0) hk hin6 (List.mem_cons_of_mem _ (List.mem_append_left _ (List.mem_of_getElem? (i := 0) rfl))) dX6_runFrom_6 rfl ?_
  refine g_icmp_ge (tgt := 29) (a := 0) (b := 0) hk dX6_runFrom_9 (by decide) rfl rfl (fun _ => ?_) (fun z9 => absurd (show (0 : Int) ≤ (0 : Int) from by decide) z9)
  refine g_iload_n hk dX6_runFrom_29 rfl ?_
  exact g_iret hk hR rfl ⟨rfl, rfl⟩ dX6_runFrom_30
def wo_m322_X11_count : List Cond := [Cond.fieldLink RX11 28 "WarpDesk" "series" "LWarpDesk$Series;", Cond.fieldLink RX11 138 "WarpDesk$Series" "size" "I", Cond.methodLink RX11 374 yX6_gapCount, Cond.instanceMethod yX6_gapCount, Cond.selects RX6 yX6_gapCount yX6_gapCount, Cond.initialized RX6, Cond.fieldLink RX11 35 "WarpDesk" "queries" "LWarpDesk$Queries;", Cond.fieldLink RX11 377 "WarpDesk$Queries" "size" "I", Cond.fieldLink RX11 42 "WarpDesk" "settings" "LWarpDesk$Settings;", Cond.methodLink RX11 154 yX7_valueOf, Cond.instanceMethod yX7_valueOf, Cond.selects RX7 yX7_valueOf yX7_valueOf, Cond.initialized RX7, Cond.methodLink RX11 378 yX6_readingsAtEnd, Cond.instanceMethod yX6_readingsAtEnd, Cond.selects RX6 yX6_readingsAtEnd yX6_readingsAtEnd, Cond.fieldLink RX11 10 "WarpDesk" "tape" "LWarpDesk$Tape;", Cond.fieldLink RX11 85 "WarpDesk$Tape" "size" "I", Cond.fieldLink RX11 49 "WarpDesk" "past" "LWarpDesk$Past;", Cond.fieldLink RX11 381 "WarpDesk$Past" "size" "I", Cond.methodLink RX11 187 yX6_sumOf, Cond.instanceMethod yX6_sumOf, Cond.selects RX6 yX6_sumOf yX6_sumOf, Cond.methodLink RX11 382 yX11_slotsHeld, Cond.instanceMethod yX11_slotsHeld, Cond.selects RX11 yX11_slotsHeld yX11_slotsHeld, Cond.initialized RX11, Cond.methodLink RX11 193 yX6_greatestOf, Cond.instanceMethod yX6_greatestOf, Cond.selects RX6 yX6_greatestOf yX6_greatestOf, Cond.methodLink RX11 190 yX6_leastOf, Cond.instanceMethod yX6_leastOf, Cond.selects RX6 yX6_leastOf yX6_leastOf, Cond.methodLink RX11 359 yX6_runFrom, Cond.instanceMethod yX6_runFrom, Cond.selects RX6 yX6_runFrom yX6_runFrom]
def wz_m322_X11_count : List Cond := .code yX11_count cX11_count 2 (some .int) :: (wo_m322_X11_count ++ (wsX30 ++ (wsX40 ++ (wsX60 ++ (wsX100 ++ (wsX110 ++ (wz_m323_X6_gapCount ++ (wz_m313_X7_valueOf ++ (wz_m314_X7_valueOf ++ (wz_m315_X7_valueOf ++ (wz_m316_X7_valueOf ++ (wz_m324_X6_readingsAtEnd ++ (wz_m325_X6_sumOf ++ (wz_m326_X11_slotsHeld ++ (wz_m327_X6_greatestOf ++ (wz_m328_X6_leastOf ++ (wz_m329_X6_runFrom ++ ([] : List Cond))))))))))))))))))
theorem zg_m322_X11_count : ∀ w ∈ wz_m322_X11_count, goodWord w = true := zg_cons rfl (zg_app (by decide +kernel) (zg_app zgU_wsX30 (zg_app zgU_wsX40 (zg_app zgU_wsX60 (zg_app zgU_wsX100 (zg_app zgU_wsX110 (zg_app zg_m323_X6_gapCount (zg_app zg_m313_X7_valueOf (zg_app zg_m314_X7_valueOf (zg_app zg_m315_X7_valueOf (zg_app zg_m316_X7_valueOf (zg_app zg_m324_X6_readingsAtEnd (zg_app zg_m325_X6_sumOf (zg_app zg_m326_X11_slotsHeld (zg_app zg_m327_X6_greatestOf (zg_app zg_m328_X6_leastOf (zg_app zg_m329_X6_runFrom zg_nil)))))))))))))))))
theorem zi_m322_X11_count : ∀ w ∈ wz_m322_X11_count, w ∈ lw_tbl := zi_cons zw_1342 (zi_app (zi_cons zw_489 (zi_cons zw_284 (zi_cons zw_1343 (zi_cons zw_1344 (zi_cons zw_1345 (zi_cons zw_109 (zi_cons zw_490 (zi_cons zw_222 (zi_cons zw_491 (zi_cons zw_863 (zi_cons zw_786 (zi_cons zw_787 (zi_cons zw_107 (zi_cons zw_1347 (zi_cons zw_1348 (zi_cons zw_1349 (zi_cons zw_487 (zi_cons zw_136 (zi_cons zw_492 (zi_cons zw_307 (zi_cons zw_907 (zi_cons zw_908 (zi_cons zw_909 (zi_cons zw_1351 (zi_cons zw_1353 (zi_cons zw_43 (zi_cons zw_103 (zi_cons zw_915 (zi_cons zw_916 (zi_cons zw_917 (zi_cons zw_911 (zi_cons zw_912 (zi_cons zw_913 (zi_cons zw_1325 (zi_cons zw_1322 (zi_cons zw_1323 zi_nil)))))))))))))))))))))))))))))))))))) (zi_app inX3 (zi_app inX4 (zi_app inX6 (zi_app inX10 (zi_app inX11 (zi_app zi_m323_X6_gapCount (zi_app zi_m313_X7_valueOf (zi_app zi_m314_X7_valueOf (zi_app zi_m315_X7_valueOf (zi_app zi_m316_X7_valueOf (zi_app zi_m324_X6_readingsAtEnd (zi_app zi_m325_X6_sumOf (zi_app zi_m326_X11_slotsHeld (zi_app zi_m327_X6_greatestOf (zi_app zi_m328_X6_leastOf (zi_app zi_m329_X6_runFrom zi_nil)))))))))))))))))
set_option maxHeartbeats 4000000 in
set_option maxRecDepth 100000 in
theorem m322_X11_count (l : Launch) (D : va_G) (zt : Nat × Nat × Nat) (d : Nat → ClassId) (q : Nat → Nat) (a1053 : Int32) : GM l D zt (tyX d) yX11_count wz_m322_X11_count ({ frames := 1, cells := 0, slots := 0, locals := 25 } : Room) [.ref (q 0), .int a1053] (wX q d iX0 aX0) (fun v _ w' => ((a1053.toInt = 0) ∧ v = some (.int 0) ∧ w' = wX q d iX0 aX0) ∨ ((¬ (a1053.toInt = 0)) ∧ (a1053.toInt = 1) ∧ v = some (.int 0) ∧ w' = wX q d iX0 aX0) ∨ ((¬ (a1053.toInt = 0)) ∧ (¬ (a1053.toInt = 1)) ∧ (a1053.toInt = 2) ∧ v = some (.int 0) ∧ w' = wX q d iX0 aX0) ∨ ((¬ (a1053.toInt = 0)) ∧ (¬ (a1053.toInt = 1)) ∧ (¬ (a1053.toInt = 2)) ∧ (a1053.toInt = 3) ∧ v = some (.int 2) ∧ w' = wX q d iX0 aX0) ∨ ((¬ (a1053.toInt = 0)) ∧ (¬ (a1053.toInt = 1)) ∧ (¬ (a1053.toInt = 2)) ∧ (¬ (a1053.toInt = 3)) ∧ (a1053.toInt = 4) ∧ v = some (.int 0) ∧ w' = wX q d iX0 aX0) ∨ ((¬ (a1053.toInt = 0)) ∧ (¬ (a1053.toInt = 1)) ∧ (¬ (a1053.toInt = 2)) ∧ (¬ (a1053.toInt = 3)) ∧ (¬ (a1053.toInt = 4)) ∧ (a1053.toInt = 5) ∧ v = some (.int 0) ∧ w' = wX q d iX0 aX0) ∨ ((¬ (a1053.toInt = 0)) ∧ (¬ (a1053.toInt = 1)) ∧ (¬ (a1053.toInt = 2)) ∧ (¬ (a1053.toInt = 3)) ∧ (¬ (a1053.toInt = 4)) ∧ (¬ (a1053.toInt = 5)) ∧ (a1053.toInt = 6) ∧ v = some (.int 8) ∧ w' = wX q d iX0 aX0) ∨ ((¬ (a1053.toInt = 0)) ∧ (¬ (a1053.toInt = 1)) ∧ (¬ (a1053.toInt = 2)) ∧ (¬ (a1053.toInt = 3)) ∧ (¬ (a1053.toInt = 4)) ∧ (¬ (a1053.toInt = 5)) ∧ (¬ (a1053.toInt = 6)) ∧ (a1053.toInt = 7) ∧ v = some (.int 0) ∧ w' = wX q d iX0 aX0) ∨ ((¬ (a1053.toInt = 0)) ∧ (¬ (a1053.toInt = 1)) ∧ (¬ (a1053.toInt = 2)) ∧ (¬ (a1053.toInt = 3)) ∧ (¬ (a1053.toInt = 4)) ∧ (¬ (a1053.toInt = 5)) ∧ (¬ (a1053.toInt = 6)) ∧ (¬ (a1053.toInt = 7)) ∧ (a1053.toInt = 8) ∧ v = some (.int 0) ∧ w' = wX q d iX0 aX0) ∨ ((¬ (a1053.toInt = 0)) ∧ (¬ (a1053.toInt = 1)) ∧ (¬ (a1053.toInt = 2)) ∧ (¬ (a1053.toInt = 3)) ∧ (¬ (a1053.toInt = 4)) ∧ (¬ (a1053.toInt = 5)) ∧ (¬ (a1053.toInt = 6)) ∧ (¬ (a1053.toInt = 7)) ∧ (¬ (a1053.toInt = 8)) ∧ (a1053.toInt = 9) ∧ v = some (.int 0) ∧ w' = wX q d iX0 aX0) ∨ ((¬ (a1053.toInt = 0)) ∧ (¬ (a1053.toInt = 1)) ∧ (¬ (a1053.toInt = 2)) ∧ (¬ (a1053.toInt = 3)) ∧ (¬ (a1053.toInt = 4)) ∧ (¬ (a1053.toInt = 5)) ∧ (¬ (a1053.toInt = 6)) ∧ (¬ (a1053.toInt = 7)) ∧ (¬ (a1053.toInt = 8)) ∧ (¬ (a1053.toInt = 9)) ∧ (a1053.toInt = 10) ∧ v = some (.int 0) ∧ w' = wX q d iX0 aX0) ∨ ((¬ (a1053.toInt = 0)) ∧ (¬ (a1053.toInt = 1)) ∧ (¬ (a1053.toInt = 2)) ∧ (¬ (a1053.toInt = 3)) ∧ (¬ (a1053.toInt = 4)) ∧ (¬ (a1053.toInt = 5)) ∧ (¬ (a1053.toInt = 6)) ∧ (¬ (a1053.toInt = 7)) ∧ (¬ (a1053.toInt = 8)) ∧ (¬ (a1053.toInt = 9)) ∧ (¬ (a1053.toInt = 10)) ∧ (a1053.toInt = 11) ∧ v = some (.int 0) ∧ w' = wX q d iX0 aX0) ∨ ((¬ (a1053.toInt = 0)) ∧ (¬ (a1053.toInt = 1)) ∧ (¬ (a1053.toInt = 2)) ∧ (¬ (a1053.toInt = 3)) ∧ (¬ (a1053.toInt = 4)) ∧ (¬ (a1053.toInt = 5)) ∧ (¬ (a1053.toInt = 6)) ∧ (¬ (a1053.toInt = 7)) ∧ (¬ (a1053.toInt = 8)) ∧ (¬ (a1053.toInt = 9)) ∧ (¬ (a1053.toInt = 10)) ∧ (¬ (a1053.toInt = 11)) ∧ (a1053.toInt = 12) ∧ v = some (.int (-1000)) ∧ w' = wX q d iX0 aX0) ∨ ((¬ (a1053.toInt = 0)) ∧ (¬ (a1053.toInt = 1)) ∧ (¬ (a1053.toInt = 2)) ∧ (¬ (a1053.toInt = 3)) ∧ (¬ (a1053.toInt = 4)) ∧ (¬ (a1053.toInt = 5)) ∧ (¬ (a1053.toInt = 6)) ∧ (¬ (a1053.toInt = 7)) ∧ (¬ (a1053.toInt = 8)) ∧ (¬ (a1053.toInt = 9)) ∧ (¬ (a1053.toInt = 10)) ∧ (¬ (a1053.toInt = 11)) ∧ (¬ (a1053.toInt = 12)) ∧ (a1053.toInt = 13) ∧ v = some (.int (-1000)) ∧ w' = wX q d iX0 aX0) ∨ ((¬ (a1053.toInt = 0)) ∧ (¬ (a1053.toInt = 1)) ∧ (¬ (a1053.toInt = 2)) ∧ (¬ (a1053.toInt = 3)) ∧ (¬ (a1053.toInt = 4)) ∧ (¬ (a1053.toInt = 5)) ∧ (¬ (a1053.toInt = 6)) ∧ (¬ (a1053.toInt = 7)) ∧ (¬ (a1053.toInt = 8)) ∧ (¬ (a1053.toInt = 9)) ∧ (¬ (a1053.toInt = 10)) ∧ (¬ (a1053.toInt = 11)) ∧ (¬ (a1053.toInt = 12)) ∧ (¬ (a1053.toInt = 13)) ∧ (a1053.toInt = 14) ∧ v = some (.int 0) ∧ w' = wX q d iX0 aX0) ∨ ((¬ (a1053.toInt = 0)) ∧ (¬ (a1053.toInt = 1)) ∧ (¬ (a1053.toInt = 2)) ∧ (¬ (a1053.toInt = 3)) ∧ (¬ (a1053.toInt = 4)) ∧ (¬ (a1053.toInt = 5)) ∧ (¬ (a1053.toInt = 6)) ∧ (¬ (a1053.toInt = 7)) ∧ (¬ (a1053.toInt = 8)) ∧ (¬ (a1053.toInt = 9)) ∧ (¬ (a1053.toInt = 10)) ∧ (¬ (a1053.toInt = 11)) ∧ (¬ (a1053.toInt = 12)) ∧ (¬ (a1053.toInt = 13)) ∧ (¬ (a1053.toInt = 14)) ∧ v = some (.int (-1)) ∧ w' = wX q d iX0 aX0)) 0 0 := by
  refine GM.of (cc := cX11_count) (maxL := 2) (ret := (some .int)) (own := RX11) (lv := [(0, .ref (q 0)), (1, .int a1053)]) (by decide) rfl rfl (Nat.le_of_ble_eq_true rfl) rfl (fun κ sz hk hR hN => ?_)
  have hin3 : ∀ w ∈ u_ws RX3 TX3 5, w ∈ wz_m322_X11_count := fun w h => (List.mem_cons_of_mem _ (List.mem_append_right _ (List.mem_append_left _ h)))
  have hin4 : ∀ w ∈ u_ws RX4 TX4 3, w ∈ wz_m322_X11_count := fun w h => (List.mem_cons_of_mem _ (List.mem_append_right _ (List.mem_append_right _ (List.mem_append_left _ h))))
  have hin6 : ∀ w ∈ u_ws RX6 TX6 3, w ∈ wz_m322_X11_count := fun w h => (List.mem_cons_of_mem _ (List.mem_append_right _ (List.mem_append_right _ (List.mem_append_right _ (List.mem_append_left _ h)))))
  have hin10 : ∀ w ∈ u_ws RX10 TX10 7, w ∈ wz_m322_X11_count := fun w h => (List.mem_cons_of_mem _ (List.mem_append_right _ (List.mem_append_right _ (List.mem_append_right _ (List.mem_append_right _ (List.mem_append_left _ h))))))
  have hin11 : ∀ w ∈ u_ws RX11 TX11 10, w ∈ wz_m322_X11_count := fun w h => (List.mem_cons_of_mem _ (List.mem_append_right _ (List.mem_append_right _ (List.mem_append_right _ (List.mem_append_right _ (List.mem_append_right _ (List.mem_append_left _ h)))))))
  refine g_iload_n hk dX11_count_0 rfl ?_
  by_cases c1054 : a1053.toInt = 0
  · refine g_tabIn (tgt := 76) (a := 0) hk dX11_count_1 c1054 (by decide) (by decide) rfl (by decide) ?_
    refine g_aload_n hk dX11_count_76 rfl ?_
    refine gX_r0_2 hk hin11 (List.mem_cons_of_mem _ (List.mem_append_left _ (List.mem_of_getElem? (i := 0) rfl))) dX11_count_77 ?_
    refine gX_i18 (v := 0) hk hin6 (List.mem_cons_of_mem _ (List.mem_append_left _ (List.mem_of_getElem? (i := 1) rfl))) dX11_count_80 rfl ?_
    exact g_iret hk hR rfl (Or.inl ⟨c1054, rfl, rfl⟩) dX11_count_83
  by_cases c1055 : a1053.toInt = 1
  · refine g_tabIn (tgt := 84) (a := 1) hk dX11_count_1 c1055 (by decide) (by decide) rfl (by decide) ?_
    refine g_aload_n hk dX11_count_84 rfl ?_
    refine gX_r0_2 hk hin11 (List.mem_cons_of_mem _ (List.mem_append_left _ (List.mem_of_getElem? (i := 0) rfl))) dX11_count_85 ?_
    refine g_callV (n := 0) hk (m323_X6_gapCount l D zt d q) (SP.same _) (fun _ h => h) (gi_V (List.mem_cons_of_mem _ (List.mem_append_left _ (List.mem_of_getElem? (i := 2) rfl))) (List.mem_cons_of_mem _ (List.mem_append_left _ (List.mem_of_getElem? (i := 3) rfl))) (List.mem_cons_of_mem _ (List.mem_append_left _ (List.mem_of_getElem? (i := 4) rfl))) (List.mem_cons_of_mem _ (List.mem_append_left _ (List.mem_of_getElem? (i := 5) rfl))) (gi_sub (fun w h => (List.mem_cons_of_mem _ (List.mem_append_right _ (List.mem_append_right _ (List.mem_append_right _ (List.mem_append_right _ (List.mem_append_right _ (List.mem_append_right _ (List.mem_append_left _ h))))))))) zg_m323_X6_gapCount)) rfl rfl rfl (by decide +kernel) ⟨Nat.le_of_ble_eq_true rfl, Nat.le_of_ble_eq_true rfl⟩ 13 rfl rfl rfl rfl (Nat.le_of_ble_eq_true rfl) ⟨Nat.le_of_ble_eq_true rfl, Nat.le_of_ble_eq_true rfl⟩ dX11_count_88 (fun v ty' w' hp hk' => ?_)
    obtain ⟨rfl, rfl⟩ := hp
    show GW κ 2 0 0 (wX q d iX0 aX0) 91 [(0, .ref (q 0)), (1, .int a1053)] [.int 0]
    exact g_iret hk hR rfl (Or.inr (Or.inl ⟨c1054, c1055, rfl, rfl⟩)) dX11_count_91
  by_cases c1056 : a1053.toInt = 2
  · refine g_tabIn (tgt := 92) (a := 2) hk dX11_count_1 c1056 (by decide) (by decide) rfl (by decide) ?_
    refine g_aload_n hk dX11_count_92 rfl ?_
    refine gX_r0_3 hk hin11 (List.mem_cons_of_mem _ (List.mem_append_left _ (List.mem_of_getElem? (i := 6) rfl))) dX11_count_93 ?_
    refine gX_i19 (v := 0) hk hin4 (List.mem_cons_of_mem _ (List.mem_append_left _ (List.mem_of_getElem? (i := 7) rfl))) dX11_count_96 rfl ?_
    exact g_iret hk hR rfl (Or.inr (Or.inr (Or.inl ⟨c1054, c1055, c1056, rfl, rfl⟩))) dX11_count_99
  by_cases c1057 : a1053.toInt = 3
  · refine g_tabIn (tgt := 100) (a := 3) hk dX11_count_1 c1057 (by decide) (by decide) rfl (by decide) ?_
    refine g_aload_n hk dX11_count_100 rfl ?_
    refine gX_r0_4 hk hin11 (List.mem_cons_of_mem _ (List.mem_append_left _ (List.mem_of_getElem? (i := 8) rfl))) dX11_count_101 ?_
    refine g_iconst (v := 0) hk dX11_count_104 (by decide) ?_
    refine g_callV (n := 1) hk (m313_X7_valueOf l D zt d q) (SP.same _) (fun _ h => h) (gi_V (List.mem_cons_of_mem _ (List.mem_append_left _ (List.mem_of_getElem? (i := 9) rfl))) (List.mem_cons_of_mem _ (List.mem_append_left _ (List.mem_of_getElem? (i := 10) rfl))) (List.mem_cons_of_mem _ (List.mem_append_left _ (List.mem_of_getElem? (i := 11) rfl))) (List.mem_cons_of_mem _ (List.mem_append_left _ (List.mem_of_getElem? (i := 12) rfl))) (gi_sub (fun w h => (List.mem_cons_of_mem _ (List.mem_append_right _ (List.mem_append_right _ (List.mem_append_right _ (List.mem_append_right _ (List.mem_append_right _ (List.mem_append_right _ (List.mem_append_right _ (List.mem_append_left _ h)))))))))) zg_m313_X7_valueOf)) rfl rfl rfl (by decide +kernel) ⟨Nat.le_of_ble_eq_true rfl, Nat.le_of_ble_eq_true rfl⟩ 18 rfl rfl rfl rfl (Nat.le_of_ble_eq_true rfl) ⟨Nat.le_of_ble_eq_true rfl, Nat.le_of_ble_eq_true rfl⟩ dX11_count_105 (fun v ty' w' hp hk' => ?_)
    obtain ⟨rfl, rfl⟩ := hp
    show GW κ 2 0 0 (wX q d iX0 aX0) 108 [(0, .ref (q 0)), (1, .int a1053)] [.int 2]
    exact g_iret hk hR rfl (Or.inr (Or.inr (Or.inr (Or.inl ⟨c1054, c1055, c1056, c1057, rfl, rfl⟩)))) dX11_count_108
  by_cases c1058 : a1053.toInt = 4
  · refine g_tabIn (tgt := 109) (a := 4) hk dX11_count_1 c1058 (by decide) (by decide) rfl (by decide) ?_
    refine g_aload_n hk dX11_count_109 rfl ?_
    refine gX_r0_4 hk hin11 (List.mem_cons_of_mem _ (List.mem_append_left _ (List.mem_of_getElem? (i := 8) rfl))) dX11_count_110 ?_
    refine g_iconst (v := 1) hk dX11_count_113 (by decide) ?_
    refine g_callV (n := 1) hk (m314_X7_valueOf l D zt d q) (SP.same _) (fun _ h => h) (gi_V (List.mem_cons_of_mem _ (List.mem_append_left _ (List.mem_of_getElem? (i := 9) rfl))) (List.mem_cons_of_mem _ (List.mem_append_left _ (List.mem_of_getElem? (i := 10) rfl))) (List.mem_cons_of_mem _ (List.mem_append_left _ (List.mem_of_getElem? (i := 11) rfl))) (List.mem_cons_of_mem _ (List.mem_append_left _ (List.mem_of_getElem? (i := 12) rfl))) (gi_sub (fun w h => (List.mem_cons_of_mem _ (List.mem_append_right _ (List.mem_append_right _ (List.mem_append_right _ (List.mem_append_right _ (List.mem_append_right _ (List.mem_append_right _ (List.mem_append_right _ (List.mem_append_right _ (List.mem_append_left _ h))))))))))) zg_m314_X7_valueOf)) rfl rfl rfl (by decide +kernel) ⟨Nat.le_of_ble_eq_true rfl, Nat.le_of_ble_eq_true rfl⟩ 18 rfl rfl rfl rfl (Nat.le_of_ble_eq_true rfl) ⟨Nat.le_of_ble_eq_true rfl, Nat.le_of_ble_eq_true rfl⟩ dX11_count_114 (fun v ty' w' hp hk' => ?_)
    obtain ⟨rfl, rfl⟩ := hp
    show GW κ 2 0 0 (wX q d iX0 aX0) 117 [(0, .ref (q 0)), (1, .int a1053)] [.int 0]
    exact g_iret hk hR rfl (Or.inr (Or.inr (Or.inr (Or.inr (Or.inl ⟨c1054, c1055, c1056, c1057, c1058, rfl, rfl⟩))))) dX11_count_117
  by_cases c1059 : a1053.toInt = 5
  · refine g_tabIn (tgt := 118) (a := 5) hk dX11_count_1 c1059 (by decide) (by decide) rfl (by decide) ?_
    refine g_aload_n hk dX11_count_118 rfl ?_
    refine gX_r0_4 hk hin11 (List.mem_cons_of_mem _ (List.mem_append_left _ (List.mem_of_getElem? (i := 8) rfl))) dX11_count_119 ?_
    refine g_iconst (v := 2) hk dX11_count_122 (by decide) ?_
    refine g_callV (n := 1) hk (m315_X7_valueOf l D zt d q) (SP.same _) (fun _ h => h) (gi_V (List.mem_cons_of_mem _ (List.mem_append_left _ (List.mem_of_getElem? (i := 9) rfl))) (List.mem_cons_of_mem _ (List.mem_append_left _ (List.mem_of_getElem? (i := 10) rfl))) (List.mem_cons_of_mem _ (List.mem_append_left _ (List.mem_of_getElem? (i := 11) rfl))) (List.mem_cons_of_mem _ (List.mem_append_left _ (List.mem_of_getElem? (i := 12) rfl))) (gi_sub (fun w h => (List.mem_cons_of_mem _ (List.mem_append_right _ (List.mem_append_right _ (List.mem_append_right _ (List.mem_append_right _ (List.mem_append_right _ (List.mem_append_right _ (List.mem_append_right _ (List.mem_append_right _ (List.mem_append_right _ (List.mem_append_left _ h)))))))))))) zg_m315_X7_valueOf)) rfl rfl rfl (by decide +kernel) ⟨Nat.le_of_ble_eq_true rfl, Nat.le_of_ble_eq_true rfl⟩ 18 rfl rfl rfl rfl (Nat.le_of_ble_eq_true rfl) ⟨Nat.le_of_ble_eq_true rfl, Nat.le_of_ble_eq_true rfl⟩ dX11_count_123 (fun v ty' w' hp hk' => ?_)
    obtain ⟨rfl, rfl⟩ := hp
    show GW κ 2 0 0 (wX q d iX0 aX0) 126 [(0, .ref (q 0)), (1, .int a1053)] [.int 0]
    exact g_iret hk hR rfl (Or.inr (Or.inr (Or.inr (Or.inr (Or.inr (Or.inl ⟨c1054, c1055, c1056, c1057, c1058, c1059, rfl, rfl⟩)))))) dX11_count_126
  by_cases c1060 : a1053.toInt = 6
  · refine g_tabIn (tgt := 127) (a := 6) hk dX11_count_1 c1060 (by decide) (by decide) rfl (by decide) ?_
    refine g_aload_n hk dX11_count_127 rfl ?_
    refine gX_r0_4 hk hin11 (List.mem_cons_of_mem _ (List.mem_append_left _ (List.mem_of_getElem? (i := 8) rfl))) dX11_count_128 ?_
    refine g_iconst (v := 3) hk dX11_count_131 (by decide) ?_
    refine g_callV (n := 1) hk (m316_X7_valueOf l D zt d q) (SP.same _) (fun _ h => h) (gi_V (List.mem_cons_of_mem _ (List.mem_append_left _ (List.mem_of_getElem? (i := 9) rfl))) (List.mem_cons_of_mem _ (List.mem_append_left _ (List.mem_of_getElem? (i := 10) rfl))) (List.mem_cons_of_mem _ (List.mem_append_left _ (List.mem_of_getElem? (i := 11) rfl))) (List.mem_cons_of_mem _ (List.mem_append_left _ (List.mem_of_getElem? (i := 12) rfl))) (gi_sub (fun w h => (List.mem_cons_of_mem _ (List.mem_append_right _ (List.mem_append_right _ (List.mem_append_right _ (List.mem_append_right _ (List.mem_append_right _ (List.mem_append_right _ (List.mem_append_right _ (List.mem_append_right _ (List.mem_append_right _ (List.mem_append_right _ (List.mem_append_left _ h))))))))))))) zg_m316_X7_valueOf)) rfl rfl rfl (by decide +kernel) ⟨Nat.le_of_ble_eq_true rfl, Nat.le_of_ble_eq_true rfl⟩ 18 rfl rfl rfl rfl (Nat.le_of_ble_eq_true rfl) ⟨Nat.le_of_ble_eq_true rfl, Nat.le_of_ble_eq_true rfl⟩ dX11_count_132 (fun v ty' w' hp hk' => ?_)
    obtain ⟨rfl, rfl⟩ := hp
    show GW κ 2 0 0 (wX q d iX0 aX0) 135 [(0, .ref (q 0)), (1, .int a1053)] [.int 8]
    exact g_iret hk hR rfl (Or.inr (Or.inr (Or.inr (Or.inr (Or.inr (Or.inr (Or.inl ⟨c1054, c1055, c1056, c1057, c1058, c1059, c1060, rfl, rfl⟩))))))) dX11_count_135
  by_cases c1061 : a1053.toInt = 7
  · refine g_tabIn (tgt := 136) (a := 7) hk dX11_count_1 c1061 (by decide) (by decide) rfl (by decide) ?_
    refine g_aload_n hk dX11_count_136 rfl ?_
    refine gX_r0_2 hk hin11 (List.mem_cons_of_mem _ (List.mem_append_left _ (List.mem_of_getElem? (i := 0) rfl))) dX11_count_137 ?_
    refine g_callV (n := 0) hk (m324_X6_readingsAtEnd l D zt d q) (SP.same _) (fun _ h => h) (gi_V (List.mem_cons_of_mem _ (List.mem_append_left _ (List.mem_of_getElem? (i := 13) rfl))) (List.mem_cons_of_mem _ (List.mem_append_left _ (List.mem_of_getElem? (i := 14) rfl))) (List.mem_cons_of_mem _ (List.mem_append_left _ (List.mem_of_getElem? (i := 15) rfl))) (List.mem_cons_of_mem _ (List.mem_append_left _ (List.mem_of_getElem? (i := 5) rfl))) (gi_sub (fun w h => (List.mem_cons_of_mem _ (List.mem_append_right _ (List.mem_append_right _ (List.mem_append_right _ (List.mem_append_right _ (List.mem_append_right _ (List.mem_append_right _ (List.mem_append_right _ (List.mem_append_right _ (List.mem_append_right _ (List.mem_append_right _ (List.mem_append_right _ (List.mem_append_left _ h)))))))))))))) zg_m324_X6_readingsAtEnd)) rfl rfl rfl (by decide +kernel) ⟨Nat.le_of_ble_eq_true rfl, Nat.le_of_ble_eq_true rfl⟩ 13 rfl rfl rfl rfl (Nat.le_of_ble_eq_true rfl) ⟨Nat.le_of_ble_eq_true rfl, Nat.le_of_ble_eq_true rfl⟩ dX11_count_140 (fun v ty' w' hp hk' => ?_)
    obtain ⟨rfl, rfl⟩ := hp
    show GW κ 2 0 0 (wX q d iX0 aX0) 143 [(0, .ref (q 0)), (1, .int a1053)] [.int 0]
    exact g_iret hk hR rfl (Or.inr (Or.inr (Or.inr (Or.inr (Or.inr (Or.inr (Or.inr (Or.inl ⟨c1054, c1055, c1056, c1057, c1058, c1059, c1060, c1061, rfl, rfl⟩)))))))) dX11_count_143
  by_cases c1062 : a1053.toInt = 8
  · refine g_tabIn (tgt := 144) (a := 8) hk dX11_count_1 c1062 (by decide) (by decide) rfl (by decide) ?_
    refine g_aload_n hk dX11_count_144 rfl ?_
    refine gX_r0_0 hk hin11 (List.mem_cons_of_mem _ (List.mem_append_left _ (List.mem_of_getElem? (i := 16) rfl))) dX11_count_145 ?_
    refine gX_i0 (v := 0) hk hin10 (List.mem_cons_of_mem _ (List.mem_append_left _ (List.mem_of_getElem? (i := 17) rfl))) dX11_count_148 rfl ?_
    exact g_iret hk hR rfl (Or.inr (Or.inr (Or.inr (Or.inr (Or.inr (Or.inr (Or.inr (Or.inr (Or.inl ⟨c1054, c1055, c1056, c1057, c1058, c1059, c1060, c1061, c1062, rfl, rfl⟩))))))))) dX11_count_151
  by_cases c1063 : a1053.toInt = 9
  · refine g_tabIn (tgt := 152) (a := 9) hk dX11_count_1 c1063 (by decide) (by decide) rfl (by decide) ?_
    refine g_aload_n hk dX11_count_152 rfl ?_
    refine gX_r0_5 hk hin11 (List.mem_cons_of_mem _ (List.mem_append_left _ (List.mem_of_getElem? (i := 18) rfl))) dX11_count_153 ?_
    refine gX_i21 (v := 0) hk hin3 (List.mem_cons_of_mem _ (List.mem_append_left _ (List.mem_of_getElem? (i := 19) rfl))) dX11_count_156 rfl ?_
    exact g_iret hk hR rfl (Or.inr (Or.inr (Or.inr (Or.inr (Or.inr (Or.inr (Or.inr (Or.inr (Or.inr (Or.inl ⟨c1054, c1055, c1056, c1057, c1058, c1059, c1060, c1061, c1062, c1063, rfl, rfl⟩)))))))))) dX11_count_159
  by_cases c1064 : a1053.toInt = 10
  · refine g_tabIn (tgt := 160) (a := 10) hk dX11_count_1 c1064 (by decide) (by decide) rfl (by decide) ?_
    refine g_aload_n hk dX11_count_160 rfl ?_
    refine gX_r0_2 hk hin11 (List.mem_cons_of_mem _ (List.mem_append_left _ (List.mem_of_getElem? (i := 0) rfl))) dX11_count_161 ?_
    refine g_iconst (v := 0) hk dX11_count_164 (by decide) ?_
    refine g_aload_n hk dX11_count_165 rfl ?_
    refine gX_r0_2 hk hin11 (List.mem_cons_of_mem _ (List.mem_append_left _ (List.mem_of_getElem? (i := 0) rfl))) dX11_count_166 ?_
    refine gX_i18 (v := 0) hk hin6 (List.mem_cons_of_mem _ (List.mem_append_left _ (List.mem_of_getElem? (i := 1) rfl))) dX11_count_169 rfl ?_
    refine g_callV (n := 2) hk (m325_X6_sumOf l D zt d q) (SP.same _) (fun _ h => h) (gi_V (List.mem_cons_of_mem _ (List.mem_append_left _ (List.mem_of_getElem? (i := 20) rfl))) (List.mem_cons_of_mem _ (List.mem_append_left _ (List.mem_of_getElem? (i := 21) rfl))) (List.mem_cons_of_mem _ (List.mem_append_left _ (List.mem_of_getElem? (i := 22) rfl))) (List.mem_cons_of_mem _ (List.mem_append_left _ (List.mem_of_getElem? (i := 5) rfl))) (gi_sub (fun w h => (List.mem_cons_of_mem _ (List.mem_append_right _ (List.mem_append_right _ (List.mem_append_right _ (List.mem_append_right _ (List.mem_append_right _ (List.mem_append_right _ (List.mem_append_right _ (List.mem_append_right _ (List.mem_append_right _ (List.mem_append_right _ (List.mem_append_right _ (List.mem_append_right _ (List.mem_append_left _ h))))))))))))))) zg_m325_X6_sumOf)) rfl rfl rfl (by decide +kernel) ⟨Nat.le_of_ble_eq_true rfl, Nat.le_of_ble_eq_true rfl⟩ 13 rfl rfl rfl rfl (Nat.le_of_ble_eq_true rfl) ⟨Nat.le_of_ble_eq_true rfl, Nat.le_of_ble_eq_true rfl⟩ dX11_count_172 (fun v ty' w' hp hk' => ?_)
    obtain ⟨rfl, rfl⟩ := hp
    show GW κ 2 0 0 (wX q d iX0 aX0) 175 [(0, .ref (q 0)), (1, .int a1053)] [.int 0]
    exact g_iret hk hR rfl (Or.inr (Or.inr (Or.inr (Or.inr (Or.inr (Or.inr (Or.inr (Or.inr (Or.inr (Or.inr (Or.inl ⟨c1054, c1055, c1056, c1057, c1058, c1059, c1060, c1061, c1062, c1063, c1064, rfl, rfl⟩))))))))))) dX11_count_175
  by_cases c1065 : a1053.toInt = 11
  · refine g_tabIn (tgt := 176) (a := 11) hk dX11_count_1 c1065 (by decide) (by decide) rfl (by decide) ?_
    refine g_aload_n hk dX11_count_176 rfl ?_
    refine g_callV (n := 0) hk (m326_X11_slotsHeld l D zt d q) (SP.same _) (fun _ h => h) (gi_V (List.mem_cons_of_mem _ (List.mem_append_left _ (List.mem_of_getElem? (i := 23) rfl))) (List.mem_cons_of_mem _ (List.mem_append_left _ (List.mem_of_getElem? (i := 24) rfl))) (List.mem_cons_of_mem _ (List.mem_append_left _ (List.mem_of_getElem? (i := 25) rfl))) (List.mem_cons_of_mem _ (List.mem_append_left _ (List.mem_of_getElem? (i := 26) rfl))) (gi_sub (fun w h => (List.mem_cons_of_mem _ (List.mem_append_right _ (List.mem_append_right _ (List.mem_append_right _ (List.mem_append_right _ (List.mem_append_right _ (List.mem_append_right _ (List.mem_append_right _ (List.mem_append_right _ (List.mem_append_right _ (List.mem_append_right _ (List.mem_append_right _ (List.mem_append_right _ (List.mem_append_right _ (List.mem_append_left _ h)))))))))))))))) zg_m326_X11_slotsHeld)) rfl rfl rfl (by decide +kernel) ⟨Nat.le_of_ble_eq_true rfl, Nat.le_of_ble_eq_true rfl⟩ 0 rfl rfl rfl rfl (Nat.le_of_ble_eq_true rfl) ⟨Nat.le_of_ble_eq_true rfl, Nat.le_of_ble_eq_true rfl⟩ dX11_count_177 (fun v ty' w' hp hk' => ?_)
    obtain ⟨rfl, rfl⟩ := hp
    show GW κ 2 0 0 (wX q d iX0 aX0) 180 [(0, .ref (q 0)), (1, .int a1053)] [.int 0]
    exact g_iret hk hR rfl (Or.inr (Or.inr (Or.inr (Or.inr (Or.inr (Or.inr (Or.inr (Or.inr (Or.inr (Or.inr (Or.inr (Or.inl ⟨c1054, c1055, c1056, c1057, c1058, c1059, c1060, c1061, c1062, c1063, c1064, c1065, rfl, rfl⟩)))))))))))) dX11_count_180
  by_cases c1066 : a1053.toInt = 12
  · refine g_tabIn (tgt := 181) (a := 12) hk dX11_count_1 c1066 (by decide) (by decide) rfl (by decide) ?_
    refine g_aload_n hk dX11_count_181 rfl ?_
    refine gX_r0_2 hk hin11 (List.mem_cons_of_mem _ (List.mem_append_left _ (List.mem_of_getElem? (i := 0) rfl))) dX11_count_182 ?_
    refine g_iconst (v := 0) hk dX11_count_185 (by decide) ?_
    refine g_aload_n hk dX11_count_186 rfl ?_
    refine gX_r0_2 hk hin11 (List.mem_cons_of_mem _ (List.mem_append_left _ (List.mem_of_getElem? (i := 0) rfl))) dX11_count_187 ?_
    refine gX_i18 (v := 0) hk hin6 (List.mem_cons_of_mem _ (List.mem_append_left _ (List.mem_of_getElem? (i := 1) rfl))) dX11_count_190 rfl ?_
    refine g_callV (n := 2) hk (m327_X6_greatestOf l D zt d q) (SP.same _) (fun _ h => h) (gi_V (List.mem_cons_of_mem _ (List.mem_append_left _ (List.mem_of_getElem? (i := 27) rfl))) (List.mem_cons_of_mem _ (List.mem_append_left _ (List.mem_of_getElem? (i := 28) rfl))) (List.mem_cons_of_mem _ (List.mem_append_left _ (List.mem_of_getElem? (i := 29) rfl))) (List.mem_cons_of_mem _ (List.mem_append_left _ (List.mem_of_getElem? (i := 5) rfl))) (gi_sub (fun w h => (List.mem_cons_of_mem _ (List.mem_append_right _ (List.mem_append_right _ (List.mem_append_right _ (List.mem_append_right _ (List.mem_append_right _ (List.mem_append_right _ (List.mem_append_right _ (List.mem_append_right _ (List.mem_append_right _ (List.mem_append_right _ (List.mem_append_right _ (List.mem_append_right _ (List.mem_append_right _ (List.mem_append_right _ (List.mem_append_left _ h))))))))))))))))) zg_m327_X6_greatestOf)) rfl rfl rfl (by decide +kernel) ⟨Nat.le_of_ble_eq_true rfl, Nat.le_of_ble_eq_true rfl⟩ 13 rfl rfl rfl rfl (Nat.le_of_ble_eq_true rfl) ⟨Nat.le_of_ble_eq_true rfl, Nat.le_of_ble_eq_true rfl⟩ dX11_count_193 (fun v ty' w' hp hk' => ?_)
    obtain ⟨rfl, rfl⟩ := hp
    show GW κ 2 0 0 (wX q d iX0 aX0) 196 [(0, .ref (q 0)), (1, .int a1053)] [.int (-1000)]
    exact g_iret hk hR rfl (Or.inr (Or.inr (Or.inr (Or.inr (Or.inr (Or.inr (Or.inr (Or.inr (Or.inr (Or.inr (Or.inr (Or.inr (Or.inl ⟨c1054, c1055, c1056, c1057, c1058, c1059, c1060, c1061, c1062, c1063, c1064, c1065, c1066, rfl, rfl⟩))))))))))))) dX11_count_196
  by_cases c1067 : a1053.toInt = 13
  · refine g_tabIn (tgt := 197) (a := 13) hk dX11_count_1 c1067 (by decide) (by decide) rfl (by decide) ?_
    refine g_aload_n hk dX11_count_197 rfl ?_
    refine gX_r0_2 hk hin11 (List.mem_cons_of_mem _ (List.mem_append_left _ (List.mem_of_getElem? (i := 0) rfl))) dX11_count_198 ?_
    refine g_iconst (v := 0) hk dX11_count_201 (by decide) ?_
    refine g_aload_n hk dX11_count_202 rfl ?_
    refine gX_r0_2 hk hin11 (List.mem_cons_of_mem _ (List.mem_append_left _ (List.mem_of_getElem? (i := 0) rfl))) dX11_count_203 ?_
    refine gX_i18 (v := 0) hk hin6 (List.mem_cons_of_mem _ (List.mem_append_left _ (List.mem_of_getElem? (i := 1) rfl))) dX11_count_206 rfl ?_
    refine g_callV (n := 2) hk (m328_X6_leastOf l D zt d q) (SP.same _) (fun _ h => h) (gi_V (List.mem_cons_of_mem _ (List.mem_append_left _ (List.mem_of_getElem? (i := 30) rfl))) (List.mem_cons_of_mem _ (List.mem_append_left _ (List.mem_of_getElem? (i := 31) rfl))) (List.mem_cons_of_mem _ (List.mem_append_left _ (List.mem_of_getElem? (i := 32) rfl))) (List.mem_cons_of_mem _ (List.mem_append_left _ (List.mem_of_getElem? (i := 5) rfl))) (gi_sub (fun w h => (List.mem_cons_of_mem _ (List.mem_append_right _ (List.mem_append_right _ (List.mem_append_right _ (List.mem_append_right _ (List.mem_append_right _ (List.mem_append_right _ (List.mem_append_right _ (List.mem_append_right _ (List.mem_append_right _ (List.mem_append_right _ (List.mem_append_right _ (List.mem_append_right _ (List.mem_append_right _ (List.mem_append_right _ (List.mem_append_right _ (List.mem_append_left _ h)))))))))))))))))) zg_m328_X6_leastOf)) rfl rfl rfl (by decide +kernel) ⟨Nat.le_of_ble_eq_true rfl, Nat.le_of_ble_eq_true rfl⟩ 13 rfl rfl rfl rfl (Nat.le_of_ble_eq_true rfl) ⟨Nat.le_of_ble_eq_true rfl, Nat.le_of_ble_eq_true rfl⟩ dX11_count_209 (fun v ty' w' hp hk' => ?_)
    obtain ⟨rfl, rfl⟩ := hp
    show GW κ 2 0 0 (wX q d iX0 aX0) 212 [(0, .ref (q 0)), (1, .int a1053)] [.int (-1000)]
    exact g_iret hk hR rfl (Or.inr (Or.inr (Or.inr (Or.inr (Or.inr (Or.inr (Or.inr (Or.inr (Or.inr (Or.inr (Or.inr (Or.inr (Or.inr (Or.inl ⟨c1054, c1055, c1056, c1057, c1058, c1059, c1060, c1061, c1062, c1063, c1064, c1065, c1066, c1067, rfl, rfl⟩)))))))))))))) dX11_count_212
  by_cases c1068 : a1053.toInt = 14
  · refine g_tabIn (tgt := 213) (a := 14) hk dX11_count_1 c1068 (by decide) (by decide) rfl (by decide) ?_
    refine g_aload_n hk dX11_count_213 rfl ?_
    refine gX_r0_2 hk hin11 (List.mem_cons_of_mem _ (List.mem_append_left _ (List.mem_of_getElem? (i := 0) rfl))) dX11_count_214 ?_
    refine g_iconst (v := 0) hk dX11_count_217 (by decide) ?_
    refine g_callV (n := 1) hk (m329_X6_runFrom l D zt d q) (SP.same _) (fun _ h => h) (gi_V (List.mem_cons_of_mem _ (List.mem_append_left _ (List.mem_of_getElem? (i := 33) rfl))) (List.mem_cons_of_mem _ (List.mem_append_left _ (List.mem_of_getElem? (i := 34) rfl))) (List.mem_cons_of_mem _ (List.mem_append_left _ (List.mem_of_getElem? (i := 35) rfl))) (List.mem_cons_of_mem _ (List.mem_append_left _ (List.mem_of_getElem? (i := 5) rfl))) (gi_sub (fun w h => (List.mem_cons_of_mem _ (List.mem_append_right _ (List.mem_append_right _ (List.mem_append_right _ (List.mem_append_right _ (List.mem_append_right _ (List.mem_append_right _ (List.mem_append_right _ (List.mem_append_right _ (List.mem_append_right _ (List.mem_append_right _ (List.mem_append_right _ (List.mem_append_right _ (List.mem_append_right _ (List.mem_append_right _ (List.mem_append_right _ (List.mem_append_right _ (List.mem_append_left _ h))))))))))))))))))) zg_m329_X6_runFrom)) rfl rfl rfl (by decide +kernel) ⟨Nat.le_of_ble_eq_true rfl, Nat.le_of_ble_eq_true rfl⟩ 13 rfl rfl rfl rfl (Nat.le_of_ble_eq_true rfl) ⟨Nat.le_of_ble_eq_true rfl, Nat.le_of_ble_eq_true rfl⟩ dX11_count_218 (fun v ty' w' hp hk' => ?_)
    obtain ⟨rfl, rfl⟩ := hp
    show GW κ 2 0 0 (wX q d iX0 aX0) 221 [(0, .ref (q 0)), (1, .int a1053)] [.int 0]
    exact g_iret hk hR rfl (Or.inr (Or.inr (Or.inr (Or.inr (Or.inr (Or.inr (Or.inr (Or.inr (Or.inr (Or.inr (Or.inr (Or.inr (Or.inr (Or.inr (Or.inl ⟨c1054, c1055, c1056, c1057, c1058, c1059, c1060, c1061, c1062, c1063, c1064, c1065, c1066, c1067, c1068, rfl, rfl⟩))))))))))))))) dX11_count_221
  refine g_tabOut (tgt := 222) (a := a1053.toInt) hk dX11_count_1 rfl (by omega) (by decide) ?_
  refine g_iconst (v := (-1)) hk dX11_count_222 (by decide) ?_
  exact g_iret hk hR rfl (Or.inr (Or.inr (Or.inr (Or.inr (Or.inr (Or.inr (Or.inr (Or.inr (Or.inr (Or.inr (Or.inr (Or.inr (Or.inr (Or.inr (Or.inr (⟨c1054, c1055, c1056, c1057, c1058, c1059, c1060, c1061, c1062, c1063, c1064, c1065, c1066, c1067, c1068, rfl, rfl⟩)))))))))))))))) dX11_count_223
