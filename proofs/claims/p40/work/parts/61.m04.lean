def wo_j143_X12_isThere : List Cond := [Cond.methodLink RX12 248 yX12_isPlace, Cond.instanceMethod yX12_isPlace, Cond.selects RX12 yX12_isPlace yX12_isPlace, Cond.initialized RX12, Cond.fieldLink RX12 70 "WarpDeskModel" "now" "[I", Cond.constant RX12 239 (100000)]
def wz_j143_X12_isThere : List Cond := .code yX12_isThere cX12_isThere 2 (some .boolean) :: (wo_j143_X12_isThere ++ (wsX120 ++ (wz_j144_X12_isPlace ++ ([] : List Cond))))
theorem zg_j143_X12_isThere : ∀ w ∈ wz_j143_X12_isThere, goodWord w = true := zg_cons rfl (zg_app (by decide +kernel) (zg_app zgU_wsX120 (zg_app zg_j144_X12_isPlace zg_nil)))
theorem zi_j143_X12_isThere : ∀ w ∈ wz_j143_X12_isThere, w ∈ lw_tbl := zi_cons zw_1651 (zi_app (zi_cons zw_1652 (zi_cons zw_1654 (zi_cons zw_66 (zi_cons zw_115 (zi_cons zw_1413 (zi_cons zw_1607 zi_nil)))))) (zi_app inX12 (zi_app zi_j144_X12_isPlace zi_nil)))
set_option maxHeartbeats 4000000 in
set_option maxRecDepth 100000 in
theorem j143_X12_isThere (l : Launch) (D : va_G) (zt : Nat × Nat × Nat × (Nat → Nat) × (Nat → Nat)) (r : Nat → Nat) (g : Nat → ClassId) (I : Nat → Int32) (A : Nat → Nat → Int32) (L : Nat → Nat → Int64) (z1 : Int32) (hIv : IvM I A) : GM l D zt (tyM g) yX12_isThere wz_j143_X12_isThere ({ frames := 2, cells := 0, slots := 0, locals := 43 } : Room) [.ref (r 0), .int z1] (wM r g I A L) (fun v _ w' => (v = some (.int 0) ∧ w' = wM r g I A L) ∨ ((¬ (z1.toInt < 0)) ∧ (0 ≤ z1.toInt) ∧ (z1.toInt ≤ 159) ∧ (0 ≤ z1.toInt) ∧ (z1.toInt ≤ 159) ∧ v = some (.int 1) ∧ w' = wM r g I A L)) 0 0 := by
  refine GM.of (cc := cX12_isThere) (maxL := 2) (ret := (some .boolean)) (own := RX12) (lv := [(0, .ref (r 0)), (1, .int z1)]) (by decide) rfl rfl (Nat.le_of_ble_eq_true rfl) rfl (fun κ sz hk hR hN => ?_)
  have hin12 : ∀ w ∈ u_ws RX12 TX12 55, w ∈ wz_j143_X12_isThere := fun w h => (List.mem_cons_of_mem _ (List.mem_append_right _ (List.mem_append_left _ h)))
  refine g_aload_n hk dX12_isThere_0 rfl ?_
  refine g_iload_n hk dX12_isThere_1 rfl ?_
  refine g_callV (n := 1) hk (j144_X12_isPlace l D zt r g I A L z1 hIv) (SP.same _) (fun _ h => h) (gi_V (List.mem_cons_of_mem _ (List.mem_append_left _ (List.mem_of_getElem? (i := 0) rfl))) (List.mem_cons_of_mem _ (List.mem_append_left _ (List.mem_of_getElem? (i := 1) rfl))) (List.mem_cons_of_mem _ (List.mem_append_left _ (List.mem_of_getElem? (i := 2) rfl))) (List.mem_cons_of_mem _ (List.mem_append_left _ (List.mem_of_getElem? (i := 3) rfl))) (gi_sub (fun w h => (List.mem_cons_of_mem _ (List.mem_append_right _ (List.mem_append_right _ (List.mem_append_left _ h))))) zg_j144_X12_isPlace)) rfl rfl rfl (by decide +kernel) ⟨Nat.le_of_ble_eq_true rfl, Nat.le_of_ble_eq_true rfl⟩ 0 rfl rfl rfl rfl (Nat.le_of_ble_eq_true rfl) ⟨Nat.le_of_ble_eq_true rfl, Nat.le_of_ble_eq_true rfl⟩ dX12_isThere_2 (fun v ty' w' hp hk' => ?_)
  rcases hp with ⟨rfl, rfl⟩ | ⟨c17402, c17403, c17404, rfl, rfl⟩
  · skip
    show GW κ 2 0 0 (wM r g I A L) 5 [(0, .ref (r 0)), (1, .int z1)] [.int 0]
    refine g_if_eq (tgt := 25) (a := 0) hk dX12_isThere_5 (by decide) rfl (fun _ => ?_) (fun z9 => absurd (show (0 : Int) = (0 : Int) from by decide) z9)
    refine g_iconst (v := 0) hk dX12_isThere_25 (by decide) ?_
    exact g_iret hk hR rfl (Or.inl ⟨rfl, rfl⟩) dX12_isThere_26
  · skip
    show GW κ 2 0 0 (wM r g I A L) 5 [(0, .ref (r 0)), (1, .int z1)] [.int 1]
    refine g_if_eq (tgt := 25) (a := 1) hk dX12_isThere_5 (by decide) rfl (fun z9 => absurd z9 (show ¬ ((1 : Int) = (0 : Int)) from by decide)) (fun _ => ?_)
    refine g_aload_n hk dX12_isThere_8 rfl ?_
    refine gM_r0_35 hk hin12 (List.mem_cons_of_mem _ (List.mem_append_left _ (List.mem_of_getElem? (i := 4) rfl))) dX12_isThere_9 ?_
    refine g_iconst (v := 1) hk dX12_isThere_12 (by decide) ?_
    refine g_iload_n hk dX12_isThere_13 rfl ?_
    refine g_iadd hk dX12_isThere_14 ?_
    refine g_topi (fun y17406 ey17406 => ?_)
    have hy17406 : y17406.toInt = 1 + z1.toInt := i32_add ey17406 rfl rfl (by omega) (by omega)
    refine lM_17 (v := (A 17 y17406.toNatClampNeg)) hk (vp_in_iff.mpr ⟨by omega, by omega⟩) rfl dX12_isThere_15 ?_
    refine g_ldc (v := 100000) hk (List.mem_cons_of_mem _ (List.mem_append_left _ (List.mem_of_getElem? (i := 5) rfl))) dX12_isThere_16 ?_
    have b17407l := Int32.le_toInt (A 17 y17406.toNatClampNeg)
    have b17407h := Int32.toInt_lt (A 17 y17406.toNatClampNeg)
    refine g_icmp_eq (tgt := 25) (a := (A 17 y17406.toNatClampNeg).toInt) (b := 100000) hk dX12_isThere_18 (by decide) rfl rfl (fun c17408 => ?_) (fun c17408 => ?_)
    · skip
      refine g_iconst (v := 0) hk dX12_isThere_25 (by decide) ?_
      exact g_iret hk hR rfl (Or.inl ⟨rfl, rfl⟩) dX12_isThere_26
    · skip
      refine g_iconst (v := 1) hk dX12_isThere_21 (by decide) ?_
      refine g_goto (tgt := 26) hk dX12_isThere_22 (by decide) ?_
      exact g_iret hk hR rfl (Or.inr (⟨c17402, c17403, c17404, (by omega), (by omega), rfl, rfl⟩)) dX12_isThere_26
def wo_j142_X12_at : List Cond := [Cond.methodLink RX12 320 yX12_isThere, Cond.instanceMethod yX12_isThere, Cond.selects RX12 yX12_isThere yX12_isThere, Cond.initialized RX12, Cond.fieldLink RX12 70 "WarpDeskModel" "now" "[I"]
def wz_j142_X12_at : List Cond := .code yX12_at cX12_at 2 (some .int) :: (wo_j142_X12_at ++ (wsX120 ++ (wz_j143_X12_isThere ++ ([] : List Cond))))
theorem zg_j142_X12_at : ∀ w ∈ wz_j142_X12_at, goodWord w = true := zg_cons rfl (zg_app (by decide +kernel) (zg_app zgU_wsX120 (zg_app zg_j143_X12_isThere zg_nil)))
theorem zi_j142_X12_at : ∀ w ∈ wz_j142_X12_at, w ∈ lw_tbl := zi_cons zw_1647 (zi_app (zi_cons zw_1648 (zi_cons zw_1650 (zi_cons zw_65 (zi_cons zw_115 (zi_cons zw_1413 zi_nil))))) (zi_app inX12 (zi_app zi_j143_X12_isThere zi_nil)))
set_option maxHeartbeats 4000000 in
set_option maxRecDepth 100000 in
theorem j142_X12_at (l : Launch) (D : va_G) (zt : Nat × Nat × Nat × (Nat → Nat) × (Nat → Nat)) (r : Nat → Nat) (g : Nat → ClassId) (I : Nat → Int32) (A : Nat → Nat → Int32) (L : Nat → Nat → Int64) (z1 : Int32) (hIv : IvM I A) : GM l D zt (tyM g) yX12_at wz_j142_X12_at ({ frames := 3, cells := 0, slots := 0, locals := 64 } : Room) [.ref (r 0), .int z1] (wM r g I A L) (fun v _ w' => ∃ y0 : Int32, v = some (.int y0) ∧ w' = wM r g I A L) 0 0 := by
  refine GM.of (cc := cX12_at) (maxL := 2) (ret := (some .int)) (own := RX12) (lv := [(0, .ref (r 0)), (1, .int z1)]) (by decide) rfl rfl (Nat.le_of_ble_eq_true rfl) rfl (fun κ sz hk hR hN => ?_)
  have hin12 : ∀ w ∈ u_ws RX12 TX12 55, w ∈ wz_j142_X12_at := fun w h => (List.mem_cons_of_mem _ (List.mem_append_right _ (List.mem_append_left _ h)))
  refine g_aload_n hk dX12_at_0 rfl ?_
  refine g_iload_n hk dX12_at_1 rfl ?_
  refine g_callV (n := 1) hk (j143_X12_isThere l D zt r g I A L z1 hIv) (SP.same _) (fun _ h => h) (gi_V (List.mem_cons_of_mem _ (List.mem_append_left _ (List.mem_of_getElem? (i := 0) rfl))) (List.mem_cons_of_mem _ (List.mem_append_left _ (List.mem_of_getElem? (i := 1) rfl))) (List.mem_cons_of_mem _ (List.mem_append_left _ (List.mem_of_getElem? (i := 2) rfl))) (List.mem_cons_of_mem _ (List.mem_append_left _ (List.mem_of_getElem? (i := 3) rfl))) (gi_sub (fun w h => (List.mem_cons_of_mem _ (List.mem_append_right _ (List.mem_append_right _ (List.mem_append_left _ h))))) zg_j143_X12_isThere)) rfl rfl rfl (by decide +kernel) ⟨Nat.le_of_ble_eq_true rfl, Nat.le_of_ble_eq_true rfl⟩ 0 rfl rfl rfl rfl (Nat.le_of_ble_eq_true rfl) ⟨Nat.le_of_ble_eq_true rfl, Nat.le_of_ble_eq_true rfl⟩ dX12_at_2 (fun v ty' w' hp hk' => ?_)
  rcases hp with ⟨rfl, rfl⟩ | ⟨c17410, c17411, c17412, c17413, c17414, rfl, rfl⟩
  · skip
    show GW κ 2 0 0 (wM r g I A L) 5 [(0, .ref (r 0)), (1, .int z1)] [.int 0]
    refine g_if_eq (tgt := 19) (a := 0) hk dX12_at_5 (by decide) rfl (fun _ => ?_) (fun z9 => absurd (show (0 : Int) = (0 : Int) from by decide) z9)
    refine g_sipush (v := (-1000)) hk dX12_at_19 (by decide) ?_
    exact g_iret hk hR rfl ⟨(-1000), rfl, rfl⟩ dX12_at_22
  · skip
    show GW κ 2 0 0 (wM r g I A L) 5 [(0, .ref (r 0)), (1, .int z1)] [.int 1]
    refine g_if_eq (tgt := 19) (a := 1) hk dX12_at_5 (by decide) rfl (fun z9 => absurd z9 (show ¬ ((1 : Int) = (0 : Int)) from by decide)) (fun _ => ?_)
    refine g_aload_n hk dX12_at_8 rfl ?_
    refine gM_r0_35 hk hin12 (List.mem_cons_of_mem _ (List.mem_append_left _ (List.mem_of_getElem? (i := 4) rfl))) dX12_at_9 ?_
    refine g_iconst (v := 1) hk dX12_at_12 (by decide) ?_
    refine g_iload_n hk dX12_at_13 rfl ?_
    refine g_iadd hk dX12_at_14 ?_
    refine g_topi (fun y17416 ey17416 => ?_)
    have hy17416 : y17416.toInt = 1 + z1.toInt := i32_add ey17416 rfl rfl (by omega) (by omega)
    refine lM_17 (v := (A 17 y17416.toNatClampNeg)) hk (vp_in_iff.mpr ⟨by omega, by omega⟩) rfl dX12_at_15 ?_
    refine g_goto (tgt := 22) hk dX12_at_16 (by decide) ?_
    have b17417l := Int32.le_toInt (A 17 y17416.toNatClampNeg)
    have b17417h := Int32.toInt_lt (A 17 y17416.toNatClampNeg)
    exact g_iret hk hR rfl ⟨(A 17 y17416.toNatClampNeg), rfl, rfl⟩ dX12_at_22
def wo_j147_X12_isQuery : List Cond := [Cond.fieldLink RX12 49 "WarpDeskModel" "queries" "[I", Cond.fieldLink RX12 197 "WarpDeskModel" "live" "I", Cond.methodLink RX12 244 yX12_in, Cond.static yX12_in, Cond.initialized RX12]
def wz_j147_X12_isQuery : List Cond := .code yX12_isQuery cX12_isQuery 2 (some .boolean) :: (wo_j147_X12_isQuery ++ (wsX120 ++ (wz_j145_X12_in ++ ([] : List Cond))))
theorem zg_j147_X12_isQuery : ∀ w ∈ wz_j147_X12_isQuery, goodWord w = true := zg_cons rfl (zg_app (by decide +kernel) (zg_app zgU_wsX120 (zg_app zg_j145_X12_in zg_nil)))
theorem zi_j147_X12_isQuery : ∀ w ∈ wz_j147_X12_isQuery, w ∈ lw_tbl := zi_cons zw_1666 (zi_app (zi_cons zw_1406 (zi_cons zw_1400 (zi_cons zw_1656 (zi_cons zw_1657 (zi_cons zw_115 zi_nil))))) (zi_app inX12 (zi_app zi_j145_X12_in zi_nil)))
set_option maxHeartbeats 4000000 in
set_option maxRecDepth 100000 in
theorem j147_X12_isQuery (l : Launch) (D : va_G) (zt : Nat × Nat × Nat × (Nat → Nat) × (Nat → Nat)) (r : Nat → Nat) (g : Nat → ClassId) (I : Nat → Int32) (A : Nat → Nat → Int32) (L : Nat → Nat → Int64) (z1 : Int32) (hIv : IvM I A) : GM l D zt (tyM g) yX12_isQuery wz_j147_X12_isQuery ({ frames := 1, cells := 0, slots := 0, locals := 22 } : Room) [.ref (r 0), .int z1] (wM r g I A L) (fun v _ w' => (v = some (.int 0) ∧ w' = wM r g I A L) ∨ ((¬ (z1.toInt < 0)) ∧ (0 ≤ z1.toInt) ∧ (z1.toInt ≤ 4) ∧ (1 ≤ (A 11 (5 * (I 15) + z1).toNatClampNeg).toInt) ∧ v = some (.int 1) ∧ w' = wM r g I A L)) 0 0 := by
  refine GM.of (cc := cX12_isQuery) (maxL := 2) (ret := (some .boolean)) (own := RX12) (lv := [(0, .ref (r 0)), (1, .int z1)]) (by decide) rfl rfl (Nat.le_of_ble_eq_true rfl) rfl (fun κ sz hk hR hN => ?_)
  have hin12 : ∀ w ∈ u_ws RX12 TX12 55, w ∈ wz_j147_X12_isQuery := fun w h => (List.mem_cons_of_mem _ (List.mem_append_right _ (List.mem_append_left _ h)))
  refine g_iload_n hk dX12_isQuery_0 rfl ?_
  refine g_iconst (v := 0) hk dX12_isQuery_1 (by decide) ?_
  refine g_aload_n hk dX12_isQuery_2 rfl ?_
  refine gM_r0_28 hk hin12 (List.mem_cons_of_mem _ (List.mem_append_left _ (List.mem_of_getElem? (i := 0) rfl))) dX12_isQuery_3 ?_
  refine g_aload_n hk dX12_isQuery_6 rfl ?_
  refine gM_i15 (v := (I 15)) hk hin12 (List.mem_cons_of_mem _ (List.mem_append_left _ (List.mem_of_getElem? (i := 1) rfl))) dX12_isQuery_7 rfl ?_
  have f17418 := IvM_f15 hIv
  by_cases c17419 : (I 15).toInt = 0
  · have ec17419 : (I 15) = 0 := Int32.toInt_inj.mp c17419
    rw [ec17419]
    show GW κ 2 0 0 (wM r g I A L) 10 [(0, .ref (r 0)), (1, .int z1)] [.int 0, .ref (r 11), .int 0, .int z1]
    refine lM_10 (v := (A 10 0)) hk (vp_in_iff.mpr ⟨by decide, by decide⟩) rfl dX12_isQuery_10 ?_
    have f17420 := IvM_s10_0 hIv
    refine g_iconst (v := 1) hk dX12_isQuery_11 (by decide) ?_
    refine g_isub hk dX12_isQuery_12 ?_
    refine g_topi (fun y17421 ey17421 => ?_)
    have hy17421 : y17421.toInt = (A 10 0).toInt - 1 := i32_sub ey17421 rfl rfl (by omega) (by omega)
    have k17422 : (0 : Int32).toInt = 0 := rfl
    refine g_callS (n := 3) hk (j145_X12_in l D zt r g I A L z1 0 y17421 hIv) (SP.same _) (fun _ h => h) (gi_S (List.mem_cons_of_mem _ (List.mem_append_left _ (List.mem_of_getElem? (i := 2) rfl))) (List.mem_cons_of_mem _ (List.mem_append_left _ (List.mem_of_getElem? (i := 3) rfl))) (List.mem_cons_of_mem _ (List.mem_append_left _ (List.mem_of_getElem? (i := 4) rfl))) (gi_sub (fun w h => (List.mem_cons_of_mem _ (List.mem_append_right _ (List.mem_append_right _ (List.mem_append_left _ h))))) zg_j145_X12_in)) rfl rfl rfl (by decide +kernel) ⟨Nat.le_of_ble_eq_true rfl, Nat.le_of_ble_eq_true rfl⟩ rfl rfl (Nat.le_of_ble_eq_true rfl) ⟨Nat.le_of_ble_eq_true rfl, Nat.le_of_ble_eq_true rfl⟩ dX12_isQuery_13 (fun v ty' w' hp hk' => ?_)
    rcases hp with ⟨c17423, rfl, rfl⟩ | ⟨c17425, c17426, rfl, rfl⟩
    · skip
      have b17428l := Int32.le_toInt z1
      have b17428h := Int32.toInt_lt z1
      show GW κ 2 0 0 (wM r g I A L) 16 [(0, .ref (r 0)), (1, .int z1)] [.int 0]
      exact g_iret hk hR rfl (Or.inl ⟨rfl, rfl⟩) dX12_isQuery_16
    · skip
      show GW κ 2 0 0 (wM r g I A L) 16 [(0, .ref (r 0)), (1, .int z1)] [.int 1]
      exact g_iret hk hR rfl (Or.inr (⟨c17425, (by omega), (by omega), (lv_w hIv (by omega) (by omega)), rfl, rfl⟩)) dX12_isQuery_16
  by_cases c17429 : (I 15).toInt = 1
  · have ec17429 : (I 15) = 1 := Int32.toInt_inj.mp c17429
    rw [ec17429]
    show GW κ 2 0 0 (wM r g I A L) 10 [(0, .ref (r 0)), (1, .int z1)] [.int 1, .ref (r 11), .int 0, .int z1]
    refine lM_10 (v := (A 10 1)) hk (vp_in_iff.mpr ⟨by decide, by decide⟩) rfl dX12_isQuery_10 ?_
    have f17430 := IvM_s10_1 hIv
    refine g_iconst (v := 1) hk dX12_isQuery_11 (by decide) ?_
    refine g_isub hk dX12_isQuery_12 ?_
    refine g_topi (fun y17431 ey17431 => ?_)
    have hy17431 : y17431.toInt = (A 10 1).toInt - 1 := i32_sub ey17431 rfl rfl (by omega) (by omega)
    have k17432 : (0 : Int32).toInt = 0 := rfl
    refine g_callS (n := 3) hk (j145_X12_in l D zt r g I A L z1 0 y17431 hIv) (SP.same _) (fun _ h => h) (gi_S (List.mem_cons_of_mem _ (List.mem_append_left _ (List.mem_of_getElem? (i := 2) rfl))) (List.mem_cons_of_mem _ (List.mem_append_left _ (List.mem_of_getElem? (i := 3) rfl))) (List.mem_cons_of_mem _ (List.mem_append_left _ (List.mem_of_getElem? (i := 4) rfl))) (gi_sub (fun w h => (List.mem_cons_of_mem _ (List.mem_append_right _ (List.mem_append_right _ (List.mem_append_left _ h))))) zg_j145_X12_in)) rfl rfl rfl (by decide +kernel) ⟨Nat.le_of_ble_eq_true rfl, Nat.le_of_ble_eq_true rfl⟩ rfl rfl (Nat.le_of_ble_eq_true rfl) ⟨Nat.le_of_ble_eq_true rfl, Nat.le_of_ble_eq_true rfl⟩ dX12_isQuery_13 (fun v ty' w' hp hk' => ?_)
    rcases hp with ⟨c17433, rfl, rfl⟩ | ⟨c17435, c17436, rfl, rfl⟩
    · skip
      have b17438l := Int32.le_toInt z1
      have b17438h := Int32.toInt_lt z1
      show GW κ 2 0 0 (wM r g I A L) 16 [(0, .ref (r 0)), (1, .int z1)] [.int 0]
      exact g_iret hk hR rfl (Or.inl ⟨rfl, rfl⟩) dX12_isQuery_16
    · skip
      show GW κ 2 0 0 (wM r g I A L) 16 [(0, .ref (r 0)), (1, .int z1)] [.int 1]
      exact g_iret hk hR rfl (Or.inr (⟨c17435, (by omega), (by omega), (lv_w hIv (by omega) (by omega)), rfl, rfl⟩)) dX12_isQuery_16
  exfalso; omega
def wo_j148_X12_wideOf : List Cond := [Cond.fieldLink RX12 52 "WarpDeskModel" "queryMany" "[I", Cond.fieldLink RX12 197 "WarpDeskModel" "live" "I"]
def wz_j148_X12_wideOf : List Cond := .code yX12_wideOf cX12_wideOf 2 (some .int) :: (wo_j148_X12_wideOf ++ (wsX120 ++ ([] : List Cond)))
theorem zg_j148_X12_wideOf : ∀ w ∈ wz_j148_X12_wideOf, goodWord w = true := zg_cons rfl (zg_app (by decide +kernel) (zg_app zgU_wsX120 zg_nil))
theorem zi_j148_X12_wideOf : ∀ w ∈ wz_j148_X12_wideOf, w ∈ lw_tbl := zi_cons zw_1670 (zi_app (zi_cons zw_1407 (zi_cons zw_1400 zi_nil)) (zi_app inX12 zi_nil))
set_option maxHeartbeats 4000000 in
set_option maxRecDepth 100000 in
theorem j148_X12_wideOf (l : Launch) (D : va_G) (zt : Nat × Nat × Nat × (Nat → Nat) × (Nat → Nat)) (r : Nat → Nat) (g : Nat → ClassId) (I : Nat → Int32) (A : Nat → Nat → Int32) (L : Nat → Nat → Int64) (z1 : Int32) (hIv : IvM I A) (hp0 : 0 ≤ z1.toInt) (hp1 : z1.toInt ≤ 4) : GM l D zt (tyM g) yX12_wideOf wz_j148_X12_wideOf ({ frames := 0, cells := 0, slots := 0, locals := 0 } : Room) [.ref (r 0), .int z1] (wM r g I A L) (fun v _ w' => v = some (.int (A 11 ((5 * (I 15)) + z1).toNatClampNeg)) ∧ w' = wM r g I A L) 0 0 := by
  refine GM.of (cc := cX12_wideOf) (maxL := 2) (ret := (some .int)) (own := RX12) (lv := [(0, .ref (r 0)), (1, .int z1)]) (by decide) rfl rfl (Nat.le_of_ble_eq_true rfl) rfl (fun κ sz hk hR hN => ?_)
  have hin12 : ∀ w ∈ u_ws RX12 TX12 55, w ∈ wz_j148_X12_wideOf := fun w h => (List.mem_cons_of_mem _ (List.mem_append_right _ (List.mem_append_left _ h)))
  refine g_aload_n hk dX12_wideOf_0 rfl ?_
  refine gM_r0_29 hk hin12 (List.mem_cons_of_mem _ (List.mem_append_left _ (List.mem_of_getElem? (i := 0) rfl))) dX12_wideOf_1 ?_
  refine g_iconst (v := 5) hk dX12_wideOf_4 (by decide) ?_
  refine g_aload_n hk dX12_wideOf_5 rfl ?_
  refine gM_i15 (v := (I 15)) hk hin12 (List.mem_cons_of_mem _ (List.mem_append_left _ (List.mem_of_getElem? (i := 1) rfl))) dX12_wideOf_6 rfl ?_
  have f17446 := IvM_f15 hIv
  refine g_imul hk dX12_wideOf_9 ?_
  have h17447 : (5 * (I 15)).toInt = 5 * (I 15).toInt := i32_mul rfl rfl rfl (by omega) (by omega)
  refine g_iload_n hk dX12_wideOf_10 rfl ?_
  refine g_iadd hk dX12_wideOf_11 ?_
  have h17448 : ((5 * (I 15)) + z1).toInt = (5 * (I 15)).toInt + z1.toInt := i32_add rfl rfl rfl (by omega) (by omega)
  refine lM_11 (v := (A 11 ((5 * (I 15)) + z1).toNatClampNeg)) hk (vp_in_iff.mpr ⟨by omega, by omega⟩) rfl dX12_wideOf_12 ?_
  have f17449 := IvM_a11 hIv (((5 * (I 15)) + z1).toNatClampNeg)
  exact g_iret hk hR rfl ⟨rfl, rfl⟩ dX12_wideOf_13
def wo_j146_X12_query : List Cond := [Cond.methodLink RX12 251 yX12_isQuery, Cond.instanceMethod yX12_isQuery, Cond.selects RX12 yX12_isQuery yX12_isQuery, Cond.initialized RX12, Cond.methodLink RX12 254 yX12_wideOf, Cond.instanceMethod yX12_wideOf, Cond.selects RX12 yX12_wideOf yX12_wideOf, Cond.methodLink RX12 244 yX12_in, Cond.static yX12_in, Cond.fieldLink RX12 55 "WarpDeskModel" "queryAt" "[I", Cond.fieldLink RX12 197 "WarpDeskModel" "live" "I"]
def wz_j146_X12_query : List Cond := .code yX12_query cX12_query 3 (some .int) :: (wo_j146_X12_query ++ (wsX120 ++ (wz_j147_X12_isQuery ++ (wz_j148_X12_wideOf ++ (wz_j145_X12_in ++ ([] : List Cond))))))
theorem zg_j146_X12_query : ∀ w ∈ wz_j146_X12_query, goodWord w = true := zg_cons rfl (zg_app (by decide +kernel) (zg_app zgU_wsX120 (zg_app zg_j147_X12_isQuery (zg_app zg_j148_X12_wideOf (zg_app zg_j145_X12_in zg_nil)))))
theorem zi_j146_X12_query : ∀ w ∈ wz_j146_X12_query, w ∈ lw_tbl := zi_cons zw_1662 (zi_app (zi_cons zw_1663 (zi_cons zw_1665 (zi_cons zw_67 (zi_cons zw_115 (zi_cons zw_1667 (zi_cons zw_1669 (zi_cons zw_68 (zi_cons zw_1656 (zi_cons zw_1657 (zi_cons zw_1408 (zi_cons zw_1400 zi_nil))))))))))) (zi_app inX12 (zi_app zi_j147_X12_isQuery (zi_app zi_j148_X12_wideOf (zi_app zi_j145_X12_in zi_nil)))))
set_option maxHeartbeats 4000000 in
set_option maxRecDepth 100000 in
theorem j146_X12_query (l : Launch) (D : va_G) (zt : Nat × Nat × Nat × (Nat → Nat) × (Nat → Nat)) (r : Nat → Nat) (g : Nat → ClassId) (I : Nat → Int32) (A : Nat → Nat → Int32) (L : Nat → Nat → Int64) (z1 : Int32) (z2 : Int32) (hIv : IvM I A) : GM l D zt (tyM g) yX12_query wz_j146_X12_query ({ frames := 2, cells := 0, slots := 0, locals := 43 } : Room) [.ref (r 0), .int z1, .int z2] (wM r g I A L) (fun v _ w' => ∃ y0 : Int32, v = some (.int y0) ∧ w' = wM r g I A L) 0 0 := by
  refine GM.of (cc := cX12_query) (maxL := 3) (ret := (some .int)) (own := RX12) (lv := [(0, .ref (r 0)), (1, .int z1), (2, .int z2)]) (by decide) rfl rfl (Nat.le_of_ble_eq_true rfl) rfl (fun κ sz hk hR hN => ?_)
  have hin12 : ∀ w ∈ u_ws RX12 TX12 55, w ∈ wz_j146_X12_query := fun w h => (List.mem_cons_of_mem _ (List.mem_append_right _ (List.mem_append_left _ h)))
  refine g_aload_n hk dX12_query_0 rfl ?_
  refine g_iload_n hk dX12_query_1 rfl ?_
  refine g_callV (n := 1) hk (j147_X12_isQuery l D zt r g I A L z1 hIv) (SP.same _) (fun _ h => h) (gi_V (List.mem_cons_of_mem _ (List.mem_append_left _ (List.mem_of_getElem? (i := 0) rfl))) (List.mem_cons_of_mem _ (List.mem_append_left _ (List.mem_of_getElem? (i := 1) rfl))) (List.mem_cons_of_mem _ (List.mem_append_left _ (List.mem_of_getElem? (i := 2) rfl))) (List.mem_cons_of_mem _ (List.mem_append_left _ (List.mem_of_getElem? (i := 3) rfl))) (gi_sub (fun w h => (List.mem_cons_of_mem _ (List.mem_append_right _ (List.mem_append_right _ (List.mem_append_left _ h))))) zg_j147_X12_isQuery)) rfl rfl rfl (by decide +kernel) ⟨Nat.le_of_ble_eq_true rfl, Nat.le_of_ble_eq_true rfl⟩ 0 rfl rfl rfl rfl (Nat.le_of_ble_eq_true rfl) ⟨Nat.le_of_ble_eq_true rfl, Nat.le_of_ble_eq_true rfl⟩ dX12_query_2 (fun v ty' w' hp hk' => ?_)
  rcases hp with ⟨rfl, rfl⟩ | ⟨c17440, c17441, c17442, c17443, rfl, rfl⟩
  · skip
    show GW κ 3 0 0 (wM r g I A L) 5 [(0, .ref (r 0)), (1, .int z1), (2, .int z2)] [.int 0]
    refine g_if_eq (tgt := 44) (a := 0) hk dX12_query_5 (by decide) rfl (fun _ => ?_) (fun z9 => absurd (show (0 : Int) = (0 : Int) from by decide) z9)
    refine g_sipush (v := (-1000)) hk dX12_query_44 (by decide) ?_
    exact g_iret hk hR rfl ⟨(-1000), rfl, rfl⟩ dX12_query_47
  · skip
    have f17445 : 0 ≤ (A 11 (5 * (I 15) + z1).toNatClampNeg).toInt ∧ (A 11 (5 * (I 15) + z1).toNatClampNeg).toInt ≤ 16 := IvM_a11 hIv _
    show GW κ 3 0 0 (wM r g I A L) 5 [(0, .ref (r 0)), (1, .int z1), (2, .int z2)] [.int 1]
    refine g_if_eq (tgt := 44) (a := 1) hk dX12_query_5 (by decide) rfl (fun z9 => absurd z9 (show ¬ ((1 : Int) = (0 : Int)) from by decide)) (fun _ => ?_)
    refine g_iload_n hk dX12_query_8 rfl ?_
    refine g_iconst (v := 0) hk dX12_query_9 (by decide) ?_
    refine g_aload_n hk dX12_query_10 rfl ?_
    refine g_iload_n hk dX12_query_11 rfl ?_
    refine g_callV (n := 1) hk (j148_X12_wideOf l D zt r g I A L z1 hIv (by omega) (by omega)) (SP.same _) (fun _ h => h) (gi_V (List.mem_cons_of_mem _ (List.mem_append_left _ (List.mem_of_getElem? (i := 4) rfl))) (List.mem_cons_of_mem _ (List.mem_append_left _ (List.mem_of_getElem? (i := 5) rfl))) (List.mem_cons_of_mem _ (List.mem_append_left _ (List.mem_of_getElem? (i := 6) rfl))) (List.mem_cons_of_mem _ (List.mem_append_left _ (List.mem_of_getElem? (i := 3) rfl))) (gi_sub (fun w h => (List.mem_cons_of_mem _ (List.mem_append_right _ (List.mem_append_right _ (List.mem_append_right _ (List.mem_append_left _ h)))))) zg_j148_X12_wideOf)) rfl rfl rfl (by decide +kernel) ⟨Nat.le_of_ble_eq_true rfl, Nat.le_of_ble_eq_true rfl⟩ 0 rfl rfl rfl rfl (Nat.le_of_ble_eq_true rfl) ⟨Nat.le_of_ble_eq_true rfl, Nat.le_of_ble_eq_true rfl⟩ dX12_query_12 (fun v ty' w' hp hk' => ?_)
    obtain ⟨rfl, rfl⟩ := hp
    show GW κ 3 0 0 (wM r g I A L) 15 [(0, .ref (r 0)), (1, .int z1), (2, .int z2)] [.int (A 11 (5 * (I 15) + z1).toNatClampNeg), .int 0, .int z2]
    refine g_iconst (v := 1) hk dX12_query_15 (by decide) ?_
    refine g_isub hk dX12_query_16 ?_
    refine g_topi (fun y17450 ey17450 => ?_)
    have hy17450 : y17450.toInt = (A 11 (5 * (I 15) + z1).toNatClampNeg).toInt - 1 := i32_sub ey17450 rfl rfl (by omega) (by omega)
    have k17451 : (0 : Int32).toInt = 0 := rfl
    refine g_callS (n := 3) hk (j145_X12_in l D zt r g I A L z2 0 y17450 hIv) (SP.same _) (fun _ h => h) (gi_S (List.mem_cons_of_mem _ (List.mem_append_left _ (List.mem_of_getElem? (i := 7) rfl))) (List.mem_cons_of_mem _ (List.mem_append_left _ (List.mem_of_getElem? (i := 8) rfl))) (List.mem_cons_of_mem _ (List.mem_append_left _ (List.mem_of_getElem? (i := 3) rfl))) (gi_sub (fun w h => (List.mem_cons_of_mem _ (List.mem_append_right _ (List.mem_append_right _ (List.mem_append_right _ (List.mem_append_right _ (List.mem_append_left _ h))))))) zg_j145_X12_in)) rfl rfl rfl (by decide +kernel) ⟨Nat.le_of_ble_eq_true rfl, Nat.le_of_ble_eq_true rfl⟩ rfl rfl (Nat.le_of_ble_eq_true rfl) ⟨Nat.le_of_ble_eq_true rfl, Nat.le_of_ble_eq_true rfl⟩ dX12_query_17 (fun v ty' w' hp hk' => ?_)
    rcases hp with ⟨c17452, rfl, rfl⟩ | ⟨c17454, c17455, rfl, rfl⟩
    · skip
      have b17457l := Int32.le_toInt z2
      have b17457h := Int32.toInt_lt z2
      show GW κ 3 0 0 (wM r g I A L) 20 [(0, .ref (r 0)), (1, .int z1), (2, .int z2)] [.int 0]
      refine g_if_eq (tgt := 44) (a := 0) hk dX12_query_20 (by decide) rfl (fun _ => ?_) (fun z9 => absurd (show (0 : Int) = (0 : Int) from by decide) z9)
      refine g_sipush (v := (-1000)) hk dX12_query_44 (by decide) ?_
      exact g_iret hk hR rfl ⟨(-1000), rfl, rfl⟩ dX12_query_47
    · skip
      show GW κ 3 0 0 (wM r g I A L) 20 [(0, .ref (r 0)), (1, .int z1), (2, .int z2)] [.int 1]
      refine g_if_eq (tgt := 44) (a := 1) hk dX12_query_20 (by decide) rfl (fun z9 => absurd z9 (show ¬ ((1 : Int) = (0 : Int)) from by decide)) (fun _ => ?_)
      refine g_aload_n hk dX12_query_23 rfl ?_
      refine gM_r0_30 hk hin12 (List.mem_cons_of_mem _ (List.mem_append_left _ (List.mem_of_getElem? (i := 9) rfl))) dX12_query_24 ?_
      refine g_bipush (v := 16) hk dX12_query_27 (by decide) ?_
      refine g_iconst (v := 5) hk dX12_query_29 (by decide) ?_
      refine g_aload_n hk dX12_query_30 rfl ?_
      refine gM_i15 (v := (I 15)) hk hin12 (List.mem_cons_of_mem _ (List.mem_append_left _ (List.mem_of_getElem? (i := 10) rfl))) dX12_query_31 rfl ?_
      have f17458 := IvM_f15 hIv
      refine g_imul hk dX12_query_34 ?_
      refine g_topi (fun y17459 ey17459 => ?_)
      have hy17459 : y17459.toInt = 5 * (I 15).toInt := i32_mul ey17459 rfl rfl (by omega) (by omega)
      refine g_iload_n hk dX12_query_35 rfl ?_
      refine g_iadd hk dX12_query_36 ?_
      refine g_topi (fun y17460 ey17460 => ?_)
      have hy17460 : y17460.toInt = y17459.toInt + z1.toInt := i32_add ey17460 rfl rfl (by omega) (by omega)
      refine g_imul hk dX12_query_37 ?_
      refine g_topi (fun y17461 ey17461 => ?_)
      have hy17461 : y17461.toInt = 16 * y17460.toInt := i32_mul ey17461 rfl rfl (by omega) (by omega)
      refine g_iload_n hk dX12_query_38 rfl ?_
      refine g_iadd hk dX12_query_39 ?_
      refine g_topi (fun y17462 ey17462 => ?_)
      have hy17462 : y17462.toInt = y17461.toInt + z2.toInt := i32_add ey17462 rfl rfl (by omega) (by omega)
      refine lM_12 (v := (A 12 y17462.toNatClampNeg)) hk (vp_in_iff.mpr ⟨by omega, by omega⟩) rfl dX12_query_40 ?_
      refine g_goto (tgt := 47) hk dX12_query_41 (by decide) ?_
      have b17463l := Int32.le_toInt (A 12 y17462.toNatClampNeg)
      have b17463h := Int32.toInt_lt (A 12 y17462.toNatClampNeg)
      exact g_iret hk hR rfl ⟨(A 12 y17462.toNatClampNeg), rfl, rfl⟩ dX12_query_47
def wo_j151_X12_copies : List Cond := [Cond.fieldLink RX12 73 "WarpDeskModel" "row" "[I", Cond.fieldLink RX12 70 "WarpDeskModel" "now" "[I"]
def wz_j151_X12_copies : List Cond := .code yX12_copies cX12_copies 2 none :: (wo_j151_X12_copies ++ (wsX120 ++ ([] : List Cond)))
theorem zg_j151_X12_copies : ∀ w ∈ wz_j151_X12_copies, goodWord w = true := zg_cons rfl (zg_app (by decide +kernel) (zg_app zgU_wsX120 zg_nil))
theorem zi_j151_X12_copies : ∀ w ∈ wz_j151_X12_copies, w ∈ lw_tbl := zi_cons zw_1682 (zi_app (zi_cons zw_1414 (zi_cons zw_1413 zi_nil)) (zi_app inX12 zi_nil))
set_option maxHeartbeats 4000000 in
set_option maxRecDepth 100000 in
theorem j151_X12_copies (l : Launch) (D : va_G) (zt : Nat × Nat × Nat × (Nat → Nat) × (Nat → Nat)) (r : Nat → Nat) (g : Nat → ClassId) (I : Nat → Int32) (A : Nat → Nat → Int32) (L : Nat → Nat → Int64) (hIv : IvM I A) : GM l D zt (tyM g) yX12_copies wz_j151_X12_copies ({ frames := 0, cells := 0, slots := 0, locals := 0 } : Room) [.ref (r 0)] (wM r g I A L) (fun v _ w' => ∃ (I' : Nat → Int32) (A' : Nat → Nat → Int32) (L' : Nat → Nat → Int64), Md [] I I' ∧ Md [18] A A' ∧ IvM I' A' ∧ ((A' 18 0).toInt = (A 17 0).toInt) ∧ ((A' 18 164).toInt = (A 17 164).toInt) ∧ v = none ∧ w' = wM r g I' A' L') 0 0 := by
  refine GM.of (cc := cX12_copies) (maxL := 2) (ret := none) (own := RX12) (lv := [(0, .ref (r 0))]) (by decide) rfl rfl (Nat.le_of_ble_eq_true rfl) rfl (fun κ sz hk hR hN => ?_)
  have hin12 : ∀ w ∈ u_ws RX12 TX12 55, w ∈ wz_j151_X12_copies := fun w h => (List.mem_cons_of_mem _ (List.mem_append_right _ (List.mem_append_left _ h)))
  refine g_iconst (v := 0) hk dX12_copies_0 (by decide) ?_
  refine g_istore_n (lv' := [(1, .int 0), (0, .ref (r 0))]) hk dX12_copies_1 (by decide) rfl ?_
  have lp17474 : ∀ (n17476 k17475 : Nat), k17475 + n17476 = 165 → GW κ 2 0 0 (wM r g I (up2 A 18 (cpo (A 17) (A 18) 0 k17475)) L) 2 [(1, .int (nI k17475)), (0, .ref (r 0))] [] := by
    intro n17476
    induction n17476 with
    | zero =>
      intro k17475 hk17475
      obtain rfl : k17475 = 165 := by omega
      show GW κ 2 0 0 (wM r g I (up2 A 18 (cpo (A 17) (A 18) 0 165)) L) 2 [(1, .int 165), (0, .ref (r 0))] []
      refine g_iload_n hk dX12_copies_2 rfl ?_
      refine g_sipush (v := 165) hk dX12_copies_3 (by decide) ?_
      refine g_icmp_ge (tgt := 27) (a := 165) (b := 165) hk dX12_copies_6 (by decide) rfl rfl (fun _ => ?_) (fun z9 => absurd (show (165 : Int) ≤ (165 : Int) from by decide) z9)
      have f17479 := IvM_s17_0 hIv
      have f17480 := IvM_s17_164 hIv
      exact g_vret hk hR ⟨I, (up2 A 18 (cpo (A 17) (A 18) 0 165)), L, (show Md [] I I from Md.rf), (show Md [18] A (up2 A 18 (cpo (A 17) (A 18) 0 165)) from (Md.up2 Md.rf rfl)), ⟨(IvM_f1 (I := I) (A := A) hIv), (IvM_f2 (I := I) (A := A) hIv), (IvM_f3 (I := I) (A := A) hIv), (IvM_f4 (I := I) (A := A) hIv), (IvM_f6 (I := I) (A := A) hIv), (IvM_f8 (I := I) (A := A) hIv), (IvM_f15 (I := I) (A := A) hIv), (IvM_f16 (I := I) (A := A) hIv), (IvM_f17 (I := I) (A := A) hIv), (IvM_f18 (I := I) (A := A) hIv), (IvM_f22 (I := I) (A := A) hIv), (IvM_f23 (I := I) (A := A) hIv), (IvM_f24 (I := I) (A := A) hIv), (IvM_a11 (I := I) (A := A) hIv), (IvM_a26 (I := I) (A := A) hIv), (IvM_s8_0 (I := I) (A := A) hIv), (IvM_s8_1 (I := I) (A := A) hIv), (IvM_s10_0 (I := I) (A := A) hIv), (IvM_s10_1 (I := I) (A := A) hIv), (IvM_s17_0 (I := I) (A := A) hIv), (IvM_s17_164 (I := I) (A := A) hIv), (IvM_lv (I := I) (A := A) hIv), (IvM_sd (I := I) (A := A) hIv), (IvM_nq (I := I) (A := A) hIv), (IvM_hr (I := I) (A := A) hIv), (IvM_hh (I := I) (A := A) hIv), trivial⟩, (by rw [show ((up2 A 18 (cpo (A 17) (A 18) 0 165)) 18 0) = (A 17 0) from rfl] <;> omega), (by rw [show ((up2 A 18 (cpo (A 17) (A 18) 0 165)) 18 164) = (A 17 164) from rfl] <;> omega), rfl, rfl⟩ dX12_copies_27
    | succ n17476 ih17478 =>
      intro k17475 hk17475
      obtain ⟨x17477, ex17477⟩ : ∃ x : Int32, x = nI k17475 := ⟨_, rfl⟩
      have hx17477 : x17477.toInt = (k17475 : Int) := by rw [ex17477]; exact nI_toInt (by omega)
      have cx17477 : x17477.toNatClampNeg = k17475 := cl_nat hx17477
      rw [← ex17477]
      refine g_iload_n hk dX12_copies_2 rfl ?_
      refine g_sipush (v := 165) hk dX12_copies_3 (by decide) ?_
      refine g_icmp_ge (tgt := 27) (a := x17477.toInt) (b := 165) hk dX12_copies_6 (by decide) rfl rfl (fun z9 => absurd z9 (show ¬ (165 ≤ x17477.toInt) from by omega)) (fun _ => ?_)
      refine g_aload_n hk dX12_copies_9 rfl ?_
      refine gM_r0_36 hk hin12 (List.mem_cons_of_mem _ (List.mem_append_left _ (List.mem_of_getElem? (i := 0) rfl))) dX12_copies_10 ?_
      refine g_iload_n hk dX12_copies_13 rfl ?_
      refine g_aload_n hk dX12_copies_14 rfl ?_
      refine gM_r0_35 hk hin12 (List.mem_cons_of_mem _ (List.mem_append_left _ (List.mem_of_getElem? (i := 1) rfl))) dX12_copies_15 ?_
      refine g_iload_n hk dX12_copies_18 rfl ?_
      refine lM_17 (v := (A 17 x17477.toNatClampNeg)) hk (vp_in_iff.mpr ⟨by omega, by omega⟩) rfl dX12_copies_19 ?_
      refine sM_18 (j := x17477.toNatClampNeg) hk (vp_in_iff.mpr ⟨by omega, by omega⟩) rfl dX12_copies_20 ?_
      obtain ⟨y17481, ey17481⟩ : ∃ y : Int32, y = x17477 + Int32.ofInt 1 := ⟨_, rfl⟩
      have hy17481 : y17481.toInt = x17477.toInt + 1 := i32_add ey17481 rfl (by decide) (by omega) (by omega)
      refine g_iinc (v := y17481) (lv' := [(1, .int y17481), (0, .ref (r 0))]) hk 0 dX12_copies_21 rfl ey17481.symm (by decide) rfl ?_
      refine g_goto (tgt := 2) hk dX12_copies_24 (by decide) ?_
      have q17482 := cl_int (y := x17477) (by omega)
      have q17483 := cl_int (y := x17477) (by omega)
      have eW : (up3 (up2 A 18 (cpo (A 17) (A 18) 0 k17475)) 18 (x17477.toNatClampNeg) (A 17 x17477.toNatClampNeg)) = (up2 A 18 (cpo (A 17) (A 18) 0 (k17475 + 1))) := cpo_st (by omega) (show (A 17 x17477.toNatClampNeg) = (A 17 k17475) from by rw [show x17477.toNatClampNeg = k17475 from by omega])
      have fy : y17481 = nI (k17475 + 1) := nI_of_toInt (by omega) (by omega)
      rw [eW, fy]
      exact g_lv (List.forall_mem_cons.mpr ⟨List.mem_of_getElem? (i := 0) rfl, (List.forall_mem_cons.mpr ⟨List.mem_of_getElem? (i := 1) rfl, (fun _ h => absurd h List.not_mem_nil)⟩)⟩) (ih17478 (k17475 + 1) (by omega))
  have lp17474e := lp17474 165 0 (by omega)
  rw [cpo_0] at lp17474e
  exact lp17474e
def wo_j152_X12_records : List Cond := [Cond.fieldLink RX12 209 "WarpDeskModel" "undos" "I", Cond.methodLink RX12 121 yX12_keepsRow, Cond.instanceMethod yX12_keepsRow, Cond.selects RX12 yX12_keepsRow yX12_keepsRow, Cond.initialized RX12, Cond.fieldLink RX12 85 "WarpDeskModel" "history" "[I", Cond.fieldLink RX12 70 "WarpDeskModel" "now" "[I"]
def wz_j152_X12_records : List Cond := .code yX12_records cX12_records 2 none :: (wo_j152_X12_records ++ (wsX120 ++ (wz_j139_X12_keepsRow ++ ([] : List Cond))))
theorem zg_j152_X12_records : ∀ w ∈ wz_j152_X12_records, goodWord w = true := zg_cons rfl (zg_app (by decide +kernel) (zg_app zgU_wsX120 (zg_app zg_j139_X12_keepsRow zg_nil)))
theorem zi_j152_X12_records : ∀ w ∈ wz_j152_X12_records, w ∈ lw_tbl := zi_cons zw_1686 (zi_app (zi_cons zw_1422 (zi_cons zw_1376 (zi_cons zw_1378 (zi_cons zw_46 (zi_cons zw_115 (zi_cons zw_1423 (zi_cons zw_1413 zi_nil))))))) (zi_app inX12 (zi_app zi_j139_X12_keepsRow zi_nil)))
set_option maxHeartbeats 4000000 in
set_option maxRecDepth 100000 in
theorem j152_X12_records (l : Launch) (D : va_G) (zt : Nat × Nat × Nat × (Nat → Nat) × (Nat → Nat)) (r : Nat → Nat) (g : Nat → ClassId) (I : Nat → Int32) (A : Nat → Nat → Int32) (L : Nat → Nat → Int64) (hIv : IvM I A) (hp0 : 0 ≤ (A 18 0).toInt) (hp1 : (A 18 0).toInt ≤ 160) (hp2 : 1 ≤ (A 18 164).toInt) : GM l D zt (tyM g) yX12_records wz_j152_X12_records ({ frames := 1, cells := 0, slots := 0, locals := 21 } : Room) [.ref (r 0)] (wM r g I A L) (fun v _ w' => ∃ (I' : Nat → Int32) (A' : Nat → Nat → Int32) (L' : Nat → Nat → Int64), Md [22] I I' ∧ Md [17, 22] A A' ∧ IvM I' A' ∧ v = none ∧ w' = wM r g I' A' L') 0 0 := by
  refine GM.of (cc := cX12_records) (maxL := 2) (ret := none) (own := RX12) (lv := [(0, .ref (r 0))]) (by decide) rfl rfl (Nat.le_of_ble_eq_true rfl) rfl (fun κ sz hk hR hN => ?_)
  have hin12 : ∀ w ∈ u_ws RX12 TX12 55, w ∈ wz_j152_X12_records := fun w h => (List.mem_cons_of_mem _ (List.mem_append_right _ (List.mem_append_left _ h)))
  refine g_aload_n hk dX12_records_0 rfl ?_
  refine gM_i22 (v := (I 22)) hk hin12 (List.mem_cons_of_mem _ (List.mem_append_left _ (List.mem_of_getElem? (i := 0) rfl))) dX12_records_1 rfl ?_
  have f17493 := IvM_f22 hIv
  refine g_bipush (v := 40) hk dX12_records_4 (by decide) ?_
  refine g_icmp_ne (tgt := 50) (a := (I 22).toInt) (b := 40) hk dX12_records_6 (by decide) rfl rfl (fun c17494 => ?_) (fun c17494 => ?_)
  · skip
    refine g_iconst (v := 0) hk dX12_records_50 (by decide) ?_
    refine g_istore_n (lv' := [(1, .int 0), (0, .ref (r 0))]) hk dX12_records_51 (by decide) rfl ?_
    have lp17495 : ∀ (n17497 k17496 : Nat), k17496 + n17497 = 165 → GW κ 2 0 0 (wM r g I (up2 A 22 (cpo (A 17) (A 22) (165 * (I 22).toNatClampNeg) k17496)) L) 52 [(1, .int (nI k17496)), (0, .ref (r 0))] [] := by
      intro n17497
      induction n17497 with
      | zero =>
        intro k17496 hk17496
        obtain rfl : k17496 = 165 := by omega
        show GW κ 2 0 0 (wM r g I (up2 A 22 (cpo (A 17) (A 22) (165 * (I 22).toNatClampNeg) 165)) L) 52 [(1, .int 165), (0, .ref (r 0))] []
        refine g_iload_n hk dX12_records_52 rfl ?_
        refine g_sipush (v := 165) hk dX12_records_53 (by decide) ?_
        refine g_icmp_ge (tgt := 86) (a := 165) (b := 165) hk dX12_records_56 (by decide) rfl rfl (fun _ => ?_) (fun z9 => absurd (show (165 : Int) ≤ (165 : Int) from by decide) z9)
        refine g_aload_n hk dX12_records_86 rfl ?_
        refine g_dup hk dX12_records_87 rfl ?_
        refine gM_i22 (v := (I 22)) hk hin12 (List.mem_cons_of_mem _ (List.mem_append_left _ (List.mem_of_getElem? (i := 0) rfl))) dX12_records_88 rfl ?_
        refine g_iconst (v := 1) hk dX12_records_91 (by decide) ?_
        refine g_iadd hk dX12_records_92 ?_
        refine g_topi (fun y17500 ey17500 => ?_)
        have hy17500 : y17500.toInt = (I 22).toInt + 1 := i32_add ey17500 rfl rfl (by omega) (by omega)
        refine pM_i22 hk hin12 (List.mem_cons_of_mem _ (List.mem_append_left _ (List.mem_of_getElem? (i := 0) rfl))) dX12_records_93 ?_
        refine g_aload_n hk dX12_records_96 rfl ?_
        have q17501 := cl_int (y := (I 22)) (by omega)
        refine g_callV (n := 0) hk (j139_X12_keepsRow l D zt r g (upd I 22 y17500) (up2 A 22 (cpo (A 17) (A 22) (165 * (I 22).toNatClampNeg) 165)) L  ⟨(IvM_f1 (I := I) (A := A) hIv), (IvM_f2 (I := I) (A := A) hIv), (IvM_f3 (I := I) (A := A) hIv), (IvM_f4 (I := I) (A := A) hIv), (IvM_f6 (I := I) (A := A) hIv), (IvM_f8 (I := I) (A := A) hIv), (IvM_f15 (I := I) (A := A) hIv), (IvM_f16 (I := I) (A := A) hIv), (IvM_f17 (I := I) (A := A) hIv), (IvM_f18 (I := I) (A := A) hIv), (show 0 ≤ y17500.toInt ∧ y17500.toInt ≤ 40 from ⟨by omega, by omega⟩), (IvM_f23 (I := I) (A := A) hIv), (IvM_f24 (I := I) (A := A) hIv), (IvM_a11 (I := I) (A := A) hIv), (IvM_a26 (I := I) (A := A) hIv), (IvM_s8_0 (I := I) (A := A) hIv), (IvM_s8_1 (I := I) (A := A) hIv), (IvM_s10_0 (I := I) (A := A) hIv), (IvM_s10_1 (I := I) (A := A) hIv), (IvM_s17_0 (I := I) (A := A) hIv), (IvM_s17_164 (I := I) (A := A) hIv), (IvM_lv (I := I) (A := A) hIv), (IvM_sd (I := I) (A := A) hIv), (IvM_nq (I := I) (A := A) hIv), (hr_cpo (n := (I 22)) (n2 := y17500) (fun j hj => (IvM_hr (I := I) (A := A) hIv) j (by omega)) (by omega) (by omega) ⟨(IvM_s17_0 (I := I) (A := A) hIv), (IvM_s17_164 (I := I) (A := A) hIv).1⟩), (IvM_hh (I := I) (A := A) hIv), trivial⟩ (by first | (rw [show ((up2 A 22 (cpo (A 17) (A 22) (165 * (I 22).toNatClampNeg) 165)) 18 0) = (A 18 0) from rfl] <;> omega) | omega) (by first | (rw [show ((up2 A 22 (cpo (A 17) (A 22) (165 * (I 22).toNatClampNeg) 165)) 18 0) = (A 18 0) from rfl] <;> omega) | omega) (by first | (rw [show ((up2 A 22 (cpo (A 17) (A 22) (165 * (I 22).toNatClampNeg) 165)) 18 164) = (A 18 164) from rfl] <;> omega) | omega)) (SP.same _) (fun _ h => h) (gi_V (List.mem_cons_of_mem _ (List.mem_append_left _ (List.mem_of_getElem? (i := 1) rfl))) (List.mem_cons_of_mem _ (List.mem_append_left _ (List.mem_of_getElem? (i := 2) rfl))) (List.mem_cons_of_mem _ (List.mem_append_left _ (List.mem_of_getElem? (i := 3) rfl))) (List.mem_cons_of_mem _ (List.mem_append_left _ (List.mem_of_getElem? (i := 4) rfl))) (gi_sub (fun w h => (List.mem_cons_of_mem _ (List.mem_append_right _ (List.mem_append_right _ (List.mem_append_left _ h))))) zg_j139_X12_keepsRow)) rfl rfl rfl (by decide +kernel) ⟨Nat.le_of_ble_eq_true rfl, Nat.le_of_ble_eq_true rfl⟩ 0 rfl rfl rfl rfl (Nat.le_of_ble_eq_true rfl) ⟨Nat.le_of_ble_eq_true rfl, Nat.le_of_ble_eq_true rfl⟩ dX12_records_97 (fun v ty' w' hp hk' => ?_)
        obtain ⟨I17503, A17503, L17503, hI17503, hA17503, hV17503, rfl, rfl⟩ := hp
        show GW κ 2 0 0 (wM r g I17503 A17503 L17503) 100 [(1, .int 165), (0, .ref (r 0))] []
        exact g_vret hk hR ⟨I17503, A17503, L17503, (show Md [22] I I17503 from (Md.tr (Md.up Md.rf rfl) hI17503 rfl)), (show Md [17, 22] A A17503 from (Md.tr (Md.up2 Md.rf rfl) hA17503 rfl)), hV17503, rfl, rfl⟩ dX12_records_100
      | succ n17497 ih17499 =>
        intro k17496 hk17496
        obtain ⟨x17498, ex17498⟩ : ∃ x : Int32, x = nI k17496 := ⟨_, rfl⟩
        have hx17498 : x17498.toInt = (k17496 : Int) := by rw [ex17498]; exact nI_toInt (by omega)
        have cx17498 : x17498.toNatClampNeg = k17496 := cl_nat hx17498
        rw [← ex17498]
        have q17504 := cl_int (y := (I 22)) (by omega)
        refine g_iload_n hk dX12_records_52 rfl ?_
        refine g_sipush (v := 165) hk dX12_records_53 (by decide) ?_
        refine g_icmp_ge (tgt := 86) (a := x17498.toInt) (b := 165) hk dX12_records_56 (by decide) rfl rfl (fun z9 => absurd z9 (show ¬ (165 ≤ x17498.toInt) from by omega)) (fun _ => ?_)
        refine g_aload_n hk dX12_records_59 rfl ?_
        refine gM_r0_45 hk hin12 (List.mem_cons_of_mem _ (List.mem_append_left _ (List.mem_of_getElem? (i := 5) rfl))) dX12_records_60 ?_
        refine g_sipush (v := 165) hk dX12_records_63 (by decide) ?_
        refine g_aload_n hk dX12_records_66 rfl ?_
        refine gM_i22 (v := (I 22)) hk hin12 (List.mem_cons_of_mem _ (List.mem_append_left _ (List.mem_of_getElem? (i := 0) rfl))) dX12_records_67 rfl ?_
        refine g_imul hk dX12_records_70 ?_
        refine g_topi (fun y17505 ey17505 => ?_)
        have hy17505 : y17505.toInt = 165 * (I 22).toInt := i32_mul ey17505 rfl rfl (by omega) (by omega)
        refine g_iload_n hk dX12_records_71 rfl ?_
        refine g_iadd hk dX12_records_72 ?_
        refine g_topi (fun y17506 ey17506 => ?_)
        have hy17506 : y17506.toInt = y17505.toInt + x17498.toInt := i32_add ey17506 rfl rfl (by omega) (by omega)
        refine g_aload_n hk dX12_records_73 rfl ?_
        refine gM_r0_35 hk hin12 (List.mem_cons_of_mem _ (List.mem_append_left _ (List.mem_of_getElem? (i := 6) rfl))) dX12_records_74 ?_
        refine g_iload_n hk dX12_records_77 rfl ?_
        refine lM_17 (v := (A 17 x17498.toNatClampNeg)) hk (vp_in_iff.mpr ⟨by omega, by omega⟩) rfl dX12_records_78 ?_
        refine sM_22 (j := y17506.toNatClampNeg) hk (vp_in_iff.mpr ⟨by omega, by omega⟩) rfl dX12_records_79 ?_
        obtain ⟨y17507, ey17507⟩ : ∃ y : Int32, y = x17498 + Int32.ofInt 1 := ⟨_, rfl⟩
        have hy17507 : y17507.toInt = x17498.toInt + 1 := i32_add ey17507 rfl (by decide) (by omega) (by omega)
        refine g_iinc (v := y17507) (lv' := [(1, .int y17507), (0, .ref (r 0))]) hk 0 dX12_records_80 rfl ey17507.symm (by decide) rfl ?_
        refine g_goto (tgt := 52) hk dX12_records_83 (by decide) ?_
        have q17508 := cl_int (y := x17498) (by omega)
        have q17509 := cl_int (y := y17506) (by omega)
        have eW : (up3 (up2 A 22 (cpo (A 17) (A 22) (165 * (I 22).toNatClampNeg) k17496)) 22 (y17506.toNatClampNeg) (A 17 x17498.toNatClampNeg)) = (up2 A 22 (cpo (A 17) (A 22) (165 * (I 22).toNatClampNeg) (k17496 + 1))) := cpo_st (by omega) (show (A 17 x17498.toNatClampNeg) = (A 17 k17496) from by rw [show x17498.toNatClampNeg = k17496 from by omega])
        have fy : y17507 = nI (k17496 + 1) := nI_of_toInt (by omega) (by omega)
        rw [eW, fy]
        exact g_lv (List.forall_mem_cons.mpr ⟨List.mem_of_getElem? (i := 0) rfl, (List.forall_mem_cons.mpr ⟨List.mem_of_getElem? (i := 1) rfl, (fun _ h => absurd h List.not_mem_nil)⟩)⟩) (ih17499 (k17496 + 1) (by omega))
    have lp17495e := lp17495 165 0 (by omega)
    rw [cpo_0] at lp17495e
    exact lp17495e
  · skip
    refine g_iconst (v := 0) hk dX12_records_9 (by decide) ?_
    refine g_istore_n (lv' := [(1, .int 0), (0, .ref (r 0))]) hk dX12_records_10 (by decide) rfl ?_
    have lp17558 : ∀ (n17559 : Nat) (x17510 : Int32) (I17512 : Nat → Int32) (A17512 : Nat → Nat → Int32) (L17512 : Nat → Nat → Int64), (Md [] I I17512) → (Md [22] A A17512) → (IvM I17512 A17512) → (0 ≤ x17510.toInt) → (x17510.toInt ≤ 6435) → (6436 - x17510.toInt < (n17559 : Int)) → (0 < n17559) → GW κ 2 0 0 (wM r g I17512 A17512 L17512) 11 [(1, .int x17510), (0, .ref (r 0))] [] := by
      intro n17559
      induction n17559 with
      | zero =>
        intro x17510 I17512 A17512 L17512 hI17512 hA17512 hV17512 h17556 h17557 m17560 m17560z
        exact absurd m17560z (Nat.lt_irrefl 0)
      | succ n17559 ih17561 =>
        intro x17510 I17512 A17512 L17512 hI17512 hA17512 hV17512 h17556 h17557 m17560 m17560z
        refine g_iload_n hk dX12_records_11 rfl ?_
        refine g_sipush (v := 6435) hk dX12_records_12 (by decide) ?_
        refine g_icmp_ge (tgt := 40) (a := x17510.toInt) (b := 6435) hk dX12_records_15 (by decide) rfl rfl (fun c17562 => ?_) (fun c17562 => ?_)
        · skip
          refine g_aload_n hk dX12_records_40 rfl ?_
          refine g_dup hk dX12_records_41 rfl ?_
          refine gM_i22 (v := (I 22)) hk hin12 (List.mem_cons_of_mem _ (List.mem_append_left _ (List.mem_of_getElem? (i := 0) rfl))) dX12_records_42 (hI17512 22 rfl) ?_
          refine g_iconst (v := 1) hk dX12_records_45 (by decide) ?_
          refine g_isub hk dX12_records_46 ?_
          refine g_topi (fun y17563 ey17563 => ?_)
          have hy17563 : y17563.toInt = (I 22).toInt - 1 := i32_sub ey17563 rfl rfl (by omega) (by omega)
          refine pM_i22 hk hin12 (List.mem_cons_of_mem _ (List.mem_append_left _ (List.mem_of_getElem? (i := 0) rfl))) dX12_records_47 ?_
          refine g_iconst (v := 0) hk dX12_records_50 (by decide) ?_
          refine g_istore_n (lv' := [(1, .int 0), (0, .ref (r 0))]) hk dX12_records_51 (by decide) rfl ?_
          have lp17564 : ∀ (n17566 k17565 : Nat), k17565 + n17566 = 165 → GW κ 2 0 0 (wM r g (upd I17512 22 y17563) (up2 A17512 22 (cpo (A 17) (A17512 22) (165 * y17563.toNatClampNeg) k17565)) L17512) 52 [(1, .int (nI k17565)), (0, .ref (r 0))] [] := by
            intro n17566
            induction n17566 with
            | zero =>
              intro k17565 hk17565
              obtain rfl : k17565 = 165 := by omega
              show GW κ 2 0 0 (wM r g (upd I17512 22 y17563) (up2 A17512 22 (cpo (A 17) (A17512 22) (165 * y17563.toNatClampNeg) 165)) L17512) 52 [(1, .int 165), (0, .ref (r 0))] []
              refine g_iload_n hk dX12_records_52 rfl ?_
              refine g_sipush (v := 165) hk dX12_records_53 (by decide) ?_
              refine g_icmp_ge (tgt := 86) (a := 165) (b := 165) hk dX12_records_56 (by decide) rfl rfl (fun _ => ?_) (fun z9 => absurd (show (165 : Int) ≤ (165 : Int) from by decide) z9)
              refine g_aload_n hk dX12_records_86 rfl ?_
              refine g_dup hk dX12_records_87 rfl ?_
              refine gM_i22 (v := y17563) hk hin12 (List.mem_cons_of_mem _ (List.mem_append_left _ (List.mem_of_getElem? (i := 0) rfl))) dX12_records_88 rfl ?_
              refine g_iconst (v := 1) hk dX12_records_91 (by decide) ?_
              refine g_iadd hk dX12_records_92 ?_
              refine g_topi (fun y17569 ey17569 => ?_)
              have hy17569 : y17569.toInt = y17563.toInt + 1 := i32_add ey17569 rfl rfl (by omega) (by omega)
              refine pM_i22 hk hin12 (List.mem_cons_of_mem _ (List.mem_append_left _ (List.mem_of_getElem? (i := 0) rfl))) dX12_records_93 ?_
              refine g_aload_n hk dX12_records_96 rfl ?_
              have g17570 : (I17512 22).toInt = (I 22).toInt := by rw [show (I17512 22) = (I 22) from (hI17512 22 rfl)]
              have q17571 := cl_int (y := y17563) (by omega)
              refine g_callV (n := 0) hk (j139_X12_keepsRow l D zt r g (upd (upd I17512 22 y17563) 22 y17569) (up2 A17512 22 (cpo (A 17) (A17512 22) (165 * y17563.toNatClampNeg) 165)) L17512  ⟨(IvM_f1 (I := I17512) (A := A17512) hV17512), (IvM_f2 (I := I17512) (A := A17512) hV17512), (IvM_f3 (I := I17512) (A := A17512) hV17512), (IvM_f4 (I := I17512) (A := A17512) hV17512), (IvM_f6 (I := I17512) (A := A17512) hV17512), (IvM_f8 (I := I17512) (A := A17512) hV17512), (IvM_f15 (I := I17512) (A := A17512) hV17512), (IvM_f16 (I := I17512) (A := A17512) hV17512), (IvM_f17 (I := I17512) (A := A17512) hV17512), (IvM_f18 (I := I17512) (A := A17512) hV17512), (show 0 ≤ y17569.toInt ∧ y17569.toInt ≤ 40 from ⟨by omega, by omega⟩), (IvM_f23 (I := I17512) (A := A17512) hV17512), (IvM_f24 (I := I17512) (A := A17512) hV17512), (IvM_a11 (I := I17512) (A := A17512) hV17512), (IvM_a26 (I := I17512) (A := A17512) hV17512), (IvM_s8_0 (I := I17512) (A := A17512) hV17512), (IvM_s8_1 (I := I17512) (A := A17512) hV17512), (IvM_s10_0 (I := I17512) (A := A17512) hV17512), (IvM_s10_1 (I := I17512) (A := A17512) hV17512), (IvM_s17_0 (I := I17512) (A := A17512) hV17512), (IvM_s17_164 (I := I17512) (A := A17512) hV17512), (IvM_lv (I := I17512) (A := A17512) hV17512), (IvM_sd (I := I17512) (A := A17512) hV17512), (IvM_nq (I := I17512) (A := A17512) hV17512), (hr_cpo (n := y17563) (n2 := y17569) (fun j hj => (IvM_hr (I := I17512) (A := A17512) hV17512) j (by omega)) (by omega) (by omega) ⟨(IvM_s17_0 (I := I) (A := A) hIv), (IvM_s17_164 (I := I) (A := A) hIv).1⟩), (IvM_hh (I := I17512) (A := A17512) hV17512), trivial⟩ (by first | (rw [show ((up2 A17512 22 (cpo (A 17) (A17512 22) (165 * y17563.toNatClampNeg) 165)) 18 0) = (A 18 0) from (congrFun (hA17512 18 rfl) _)] <;> omega) | omega) (by first | (rw [show ((up2 A17512 22 (cpo (A 17) (A17512 22) (165 * y17563.toNatClampNeg) 165)) 18 0) = (A 18 0) from (congrFun (hA17512 18 rfl) _)] <;> omega) | omega) (by first | (rw [show ((up2 A17512 22 (cpo (A 17) (A17512 22) (165 * y17563.toNatClampNeg) 165)) 18 164) = (A 18 164) from (congrFun (hA17512 18 rfl) _)] <;> omega) | omega)) (SP.same _) (fun _ h => h) (gi_V (List.mem_cons_of_mem _ (List.mem_append_left _ (List.mem_of_getElem? (i := 1) rfl))) (List.mem_cons_of_mem _ (List.mem_append_left _ (List.mem_of_getElem? (i := 2) rfl))) (List.mem_cons_of_mem _ (List.mem_append_left _ (List.mem_of_getElem? (i := 3) rfl))) (List.mem_cons_of_mem _ (List.mem_append_left _ (List.mem_of_getElem? (i := 4) rfl))) (gi_sub (fun w h => (List.mem_cons_of_mem _ (List.mem_append_right _ (List.mem_append_right _ (List.mem_append_left _ h))))) zg_j139_X12_keepsRow)) rfl rfl rfl (by decide +kernel) ⟨Nat.le_of_ble_eq_true rfl, Nat.le_of_ble_eq_true rfl⟩ 0 rfl rfl rfl rfl (Nat.le_of_ble_eq_true rfl) ⟨Nat.le_of_ble_eq_true rfl, Nat.le_of_ble_eq_true rfl⟩ dX12_records_97 (fun v ty' w' hp hk' => ?_)
              obtain ⟨I17573, A17573, L17573, hI17573, hA17573, hV17573, rfl, rfl⟩ := hp
              show GW κ 2 0 0 (wM r g I17573 A17573 L17573) 100 [(1, .int 165), (0, .ref (r 0))] []
              exact g_vret hk hR ⟨I17573, A17573, L17573, (show Md [22] I I17573 from (Md.tr (Md.up (Md.up (Md.tr Md.rf hI17512 rfl) rfl) rfl) hI17573 rfl)), (show Md [17, 22] A A17573 from (Md.tr (Md.up2 (Md.tr Md.rf hA17512 rfl) rfl) hA17573 rfl)), hV17573, rfl, rfl⟩ dX12_records_100
            | succ n17566 ih17568 =>
              intro k17565 hk17565
              obtain ⟨x17567, ex17567⟩ : ∃ x : Int32, x = nI k17565 := ⟨_, rfl⟩
              have hx17567 : x17567.toInt = (k17565 : Int) := by rw [ex17567]; exact nI_toInt (by omega)
              have cx17567 : x17567.toNatClampNeg = k17565 := cl_nat hx17567
              rw [← ex17567]
              have q17574 := cl_int (y := y17563) (by omega)
              refine g_iload_n hk dX12_records_52 rfl ?_
              refine g_sipush (v := 165) hk dX12_records_53 (by decide) ?_
              refine g_icmp_ge (tgt := 86) (a := x17567.toInt) (b := 165) hk dX12_records_56 (by decide) rfl rfl (fun z9 => absurd z9 (show ¬ (165 ≤ x17567.toInt) from by omega)) (fun _ => ?_)
              refine g_aload_n hk dX12_records_59 rfl ?_
              refine gM_r0_45 hk hin12 (List.mem_cons_of_mem _ (List.mem_append_left _ (List.mem_of_getElem? (i := 5) rfl))) dX12_records_60 ?_
              refine g_sipush (v := 165) hk dX12_records_63 (by decide) ?_
              refine g_aload_n hk dX12_records_66 rfl ?_
              refine gM_i22 (v := y17563) hk hin12 (List.mem_cons_of_mem _ (List.mem_append_left _ (List.mem_of_getElem? (i := 0) rfl))) dX12_records_67 rfl ?_
              refine g_imul hk dX12_records_70 ?_
              refine g_topi (fun y17575 ey17575 => ?_)
              have hy17575 : y17575.toInt = 165 * y17563.toInt := i32_mul ey17575 rfl rfl (by omega) (by omega)
              refine g_iload_n hk dX12_records_71 rfl ?_
              refine g_iadd hk dX12_records_72 ?_
              refine g_topi (fun y17576 ey17576 => ?_)
              have hy17576 : y17576.toInt = y17575.toInt + x17567.toInt := i32_add ey17576 rfl rfl (by omega) (by omega)
              refine g_aload_n hk dX12_records_73 rfl ?_
              refine gM_r0_35 hk hin12 (List.mem_cons_of_mem _ (List.mem_append_left _ (List.mem_of_getElem? (i := 6) rfl))) dX12_records_74 ?_
              refine g_iload_n hk dX12_records_77 rfl ?_
              refine lM_17 (v := (A 17 x17567.toNatClampNeg)) hk (vp_in_iff.mpr ⟨by omega, by omega⟩) (congrFun (hA17512 17 rfl) _) dX12_records_78 ?_
              refine sM_22 (j := y17576.toNatClampNeg) hk (vp_in_iff.mpr ⟨by omega, by omega⟩) rfl dX12_records_79 ?_
              obtain ⟨y17577, ey17577⟩ : ∃ y : Int32, y = x17567 + Int32.ofInt 1 := ⟨_, rfl⟩
              have hy17577 : y17577.toInt = x17567.toInt + 1 := i32_add ey17577 rfl (by decide) (by omega) (by omega)
              refine g_iinc (v := y17577) (lv' := [(1, .int y17577), (0, .ref (r 0))]) hk 0 dX12_records_80 rfl ey17577.symm (by decide) rfl ?_
              refine g_goto (tgt := 52) hk dX12_records_83 (by decide) ?_
              have q17578 := cl_int (y := x17567) (by omega)
              have q17579 := cl_int (y := y17576) (by omega)
              have eW : (up3 (up2 A17512 22 (cpo (A 17) (A17512 22) (165 * y17563.toNatClampNeg) k17565)) 22 (y17576.toNatClampNeg) (A 17 x17567.toNatClampNeg)) = (up2 A17512 22 (cpo (A 17) (A17512 22) (165 * y17563.toNatClampNeg) (k17565 + 1))) := cpo_st (by omega) (show (A 17 x17567.toNatClampNeg) = (A 17 k17565) from by rw [show x17567.toNatClampNeg = k17565 from by omega])
              have fy : y17577 = nI (k17565 + 1) := nI_of_toInt (by omega) (by omega)
              rw [eW, fy]
              exact g_lv (List.forall_mem_cons.mpr ⟨List.mem_of_getElem? (i := 0) rfl, (List.forall_mem_cons.mpr ⟨List.mem_of_getElem? (i := 1) rfl, (fun _ h => absurd h List.not_mem_nil)⟩)⟩) (ih17568 (k17565 + 1) (by omega))
          have lp17564e := lp17564 165 0 (by omega)
          rw [cpo_0] at lp17564e
          exact lp17564e
        · skip
          refine g_aload_n hk dX12_records_18 rfl ?_
          refine gM_r0_45 hk hin12 (List.mem_cons_of_mem _ (List.mem_append_left _ (List.mem_of_getElem? (i := 5) rfl))) dX12_records_19 ?_
          refine g_iload_n hk dX12_records_22 rfl ?_
          refine g_aload_n hk dX12_records_23 rfl ?_
          refine gM_r0_45 hk hin12 (List.mem_cons_of_mem _ (List.mem_append_left _ (List.mem_of_getElem? (i := 5) rfl))) dX12_records_24 ?_
          refine g_iload_n hk dX12_records_27 rfl ?_
          refine g_sipush (v := 165) hk dX12_records_28 (by decide) ?_
          refine g_iadd hk dX12_records_31 ?_
          refine g_topi (fun y17580 ey17580 => ?_)
          have hy17580 : y17580.toInt = x17510.toInt + 165 := i32_add ey17580 rfl rfl (by omega) (by omega)
          refine lM_22 (v := (A17512 22 y17580.toNatClampNeg)) hk (vp_in_iff.mpr ⟨by omega, by omega⟩) rfl dX12_records_32 ?_
          refine sM_22 (j := x17510.toNatClampNeg) hk (vp_in_iff.mpr ⟨by omega, by omega⟩) rfl dX12_records_33 ?_
          obtain ⟨y17581, ey17581⟩ : ∃ y : Int32, y = x17510 + Int32.ofInt 1 := ⟨_, rfl⟩
          have hy17581 : y17581.toInt = x17510.toInt + 1 := i32_add ey17581 rfl (by decide) (by omega) (by omega)
          refine g_iinc (v := y17581) (lv' := [(1, .int y17581), (0, .ref (r 0))]) hk 0 dX12_records_34 rfl ey17581.symm (by decide) rfl ?_
          refine g_goto (tgt := 11) hk dX12_records_37 (by decide) ?_
          have g17582 : (I17512 22).toInt = (I 22).toInt := by rw [show (I17512 22) = (I 22) from (hI17512 22 rfl)]
          have q17583 := cl_int (y := x17510) (by omega)
          have q17584 := cl_int (y := y17580) (by omega)
          exact g_lv (List.forall_mem_cons.mpr ⟨List.mem_of_getElem? (i := 0) rfl, (List.forall_mem_cons.mpr ⟨List.mem_of_getElem? (i := 1) rfl, (fun _ h => absurd h List.not_mem_nil)⟩)⟩) (ih17561 y17581 I17512 (up3 A17512 22 (x17510.toNatClampNeg) (A17512 22 y17580.toNatClampNeg)) L17512 (show Md [] I I17512 from Md.tr hI17512 (show Md [] I17512 I17512 from Md.rf) rfl) (show Md [22] A (up3 A17512 22 (x17510.toNatClampNeg) (A17512 22 y17580.toNatClampNeg)) from Md.tr hA17512 (show Md [22] A17512 (up3 A17512 22 (x17510.toNatClampNeg) (A17512 22 y17580.toNatClampNeg)) from (Md.up3 Md.rf rfl)) rfl) ⟨(IvM_f1 (I := I17512) (A := A17512) hV17512), (IvM_f2 (I := I17512) (A := A17512) hV17512), (IvM_f3 (I := I17512) (A := A17512) hV17512), (IvM_f4 (I := I17512) (A := A17512) hV17512), (IvM_f6 (I := I17512) (A := A17512) hV17512), (IvM_f8 (I := I17512) (A := A17512) hV17512), (IvM_f15 (I := I17512) (A := A17512) hV17512), (IvM_f16 (I := I17512) (A := A17512) hV17512), (IvM_f17 (I := I17512) (A := A17512) hV17512), (IvM_f18 (I := I17512) (A := A17512) hV17512), (IvM_f22 (I := I17512) (A := A17512) hV17512), (IvM_f23 (I := I17512) (A := A17512) hV17512), (IvM_f24 (I := I17512) (A := A17512) hV17512), (IvM_a11 (I := I17512) (A := A17512) hV17512), (IvM_a26 (I := I17512) (A := A17512) hV17512), (IvM_s8_0 (I := I17512) (A := A17512) hV17512), (IvM_s8_1 (I := I17512) (A := A17512) hV17512), (IvM_s10_0 (I := I17512) (A := A17512) hV17512), (IvM_s10_1 (I := I17512) (A := A17512) hV17512), (IvM_s17_0 (I := I17512) (A := A17512) hV17512), (IvM_s17_164 (I := I17512) (A := A17512) hV17512), (IvM_lv (I := I17512) (A := A17512) hV17512), (IvM_sd (I := I17512) (A := A17512) hV17512), (IvM_nq (I := I17512) (A := A17512) hV17512), (hr_shift (IvM_hr (I := I17512) (A := A17512) hV17512) (by omega) (by omega)), (IvM_hh (I := I17512) (A := A17512) hV17512), trivial⟩ (by omega) (by omega) (by omega) (by omega))
    have k17585 : (0 : Int32).toInt = 0 := rfl
    obtain ⟨n17586, n17586a, n17586b⟩ : ∃ n : Nat, 6436 - (0 : Int32).toInt < (n : Int) ∧ 0 < n := ⟨((6436 - (0 : Int32).toInt : Int)).toNat + 1, by omega, by omega⟩
    exact lp17558 n17586 0 I A L Md.rf Md.rf hIv (by omega) (by omega) n17586a n17586b
def wo_j150_X12_comes : List Cond := [Cond.fieldLink RX12 70 "WarpDeskModel" "now" "[I", Cond.methodLink RX12 323 yX12_copies, Cond.instanceMethod yX12_copies, Cond.selects RX12 yX12_copies yX12_copies, Cond.initialized RX12, Cond.fieldLink RX12 73 "WarpDeskModel" "row" "[I", Cond.methodLink RX12 326 yX12_records, Cond.instanceMethod yX12_records, Cond.selects RX12 yX12_records yX12_records]
def wz_j150_X12_comes : List Cond := .code yX12_comes cX12_comes 2 (some .int) :: (wo_j150_X12_comes ++ (wsX120 ++ (wz_j151_X12_copies ++ (wz_j152_X12_records ++ ([] : List Cond)))))
theorem zg_j150_X12_comes : ∀ w ∈ wz_j150_X12_comes, goodWord w = true := zg_cons rfl (zg_app (by decide +kernel) (zg_app zgU_wsX120 (zg_app zg_j151_X12_copies (zg_app zg_j152_X12_records zg_nil))))
theorem zi_j150_X12_comes : ∀ w ∈ wz_j150_X12_comes, w ∈ lw_tbl := zi_cons zw_1678 (zi_app (zi_cons zw_1413 (zi_cons zw_1679 (zi_cons zw_1681 (zi_cons zw_70 (zi_cons zw_115 (zi_cons zw_1414 (zi_cons zw_1683 (zi_cons zw_1685 (zi_cons zw_71 zi_nil))))))))) (zi_app inX12 (zi_app zi_j151_X12_copies (zi_app zi_j152_X12_records zi_nil))))
set_option maxHeartbeats 4000000 in
set_option maxRecDepth 100000 in
theorem j150_X12_comes (l : Launch) (D : va_G) (zt : Nat × Nat × Nat × (Nat → Nat) × (Nat → Nat)) (r : Nat → Nat) (g : Nat → ClassId) (I : Nat → Int32) (A : Nat → Nat → Int32) (L : Nat → Nat → Int64) (z1 : Int32) (hIv : IvM I A) : GM l D zt (tyM g) yX12_comes wz_j150_X12_comes ({ frames := 2, cells := 0, slots := 0, locals := 42 } : Room) [.ref (r 0), .int z1] (wM r g I A L) (fun v _ w' => ∃ (I' : Nat → Int32) (A' : Nat → Nat → Int32) (L' : Nat → Nat → Int64), Md [22] I I' ∧ Md [17, 18, 22] A A' ∧ IvM I' A' ∧ ∃ y0 : Int32, ((-1) ≤ y0.toInt) ∧ (y0.toInt ≤ 160) ∧ v = some (.int y0) ∧ w' = wM r g I' A' L') 0 0 := by
  refine GM.of (cc := cX12_comes) (maxL := 2) (ret := (some .int)) (own := RX12) (lv := [(0, .ref (r 0)), (1, .int z1)]) (by decide) rfl rfl (Nat.le_of_ble_eq_true rfl) rfl (fun κ sz hk hR hN => ?_)
  have hin12 : ∀ w ∈ u_ws RX12 TX12 55, w ∈ wz_j150_X12_comes := fun w h => (List.mem_cons_of_mem _ (List.mem_append_right _ (List.mem_append_left _ h)))
  refine g_aload_n hk dX12_comes_0 rfl ?_
  refine gM_r0_35 hk hin12 (List.mem_cons_of_mem _ (List.mem_append_left _ (List.mem_of_getElem? (i := 0) rfl))) dX12_comes_1 ?_
  refine g_iconst (v := 0) hk dX12_comes_4 (by decide) ?_
  refine lM_17 (v := (A 17 0)) hk (vp_in_iff.mpr ⟨by decide, by decide⟩) rfl dX12_comes_5 ?_
  have f17472 := IvM_s17_0 hIv
  refine g_sipush (v := 160) hk dX12_comes_6 (by decide) ?_
  refine g_icmp_ne (tgt := 14) (a := (A 17 0).toInt) (b := 160) hk dX12_comes_9 (by decide) rfl rfl (fun c17473 => ?_) (fun c17473 => ?_)
  · skip
    refine g_aload_n hk dX12_comes_14 rfl ?_
    refine g_callV (n := 0) hk (j151_X12_copies l D zt r g I A L  hIv) (SP.same _) (fun _ h => h) (gi_V (List.mem_cons_of_mem _ (List.mem_append_left _ (List.mem_of_getElem? (i := 1) rfl))) (List.mem_cons_of_mem _ (List.mem_append_left _ (List.mem_of_getElem? (i := 2) rfl))) (List.mem_cons_of_mem _ (List.mem_append_left _ (List.mem_of_getElem? (i := 3) rfl))) (List.mem_cons_of_mem _ (List.mem_append_left _ (List.mem_of_getElem? (i := 4) rfl))) (gi_sub (fun w h => (List.mem_cons_of_mem _ (List.mem_append_right _ (List.mem_append_right _ (List.mem_append_left _ h))))) zg_j151_X12_copies)) rfl rfl rfl (by decide +kernel) ⟨Nat.le_of_ble_eq_true rfl, Nat.le_of_ble_eq_true rfl⟩ 0 rfl rfl rfl rfl (Nat.le_of_ble_eq_true rfl) ⟨Nat.le_of_ble_eq_true rfl, Nat.le_of_ble_eq_true rfl⟩ dX12_comes_15 (fun v ty' w' hp hk' => ?_)
    obtain ⟨I17485, A17485, L17485, hI17485, hA17485, hV17485, r17486, r17487, rfl, rfl⟩ := hp
    have f17488 := IvM_s17_164 hIv
    show GW κ 2 0 0 (wM r g I17485 A17485 L17485) 18 [(0, .ref (r 0)), (1, .int z1)] []
    refine g_aload_n hk dX12_comes_18 rfl ?_
    refine gM_r0_36 hk hin12 (List.mem_cons_of_mem _ (List.mem_append_left _ (List.mem_of_getElem? (i := 5) rfl))) dX12_comes_19 ?_
    refine g_iconst (v := 1) hk dX12_comes_22 (by decide) ?_
    refine g_aload_n hk dX12_comes_23 rfl ?_
    refine gM_r0_36 hk hin12 (List.mem_cons_of_mem _ (List.mem_append_left _ (List.mem_of_getElem? (i := 5) rfl))) dX12_comes_24 ?_
    refine g_iconst (v := 0) hk dX12_comes_27 (by decide) ?_
    refine lM_18 (v := (A17485 18 0)) hk (vp_in_iff.mpr ⟨by decide, by decide⟩) rfl dX12_comes_28 ?_
    refine g_iadd hk dX12_comes_29 ?_
    refine g_topi (fun y17489 ey17489 => ?_)
    have hy17489 : y17489.toInt = 1 + (A17485 18 0).toInt := i32_add ey17489 rfl rfl (by omega) (by omega)
    refine g_iload_n hk dX12_comes_30 rfl ?_
    refine sM_18 (j := y17489.toNatClampNeg) hk (vp_in_iff.mpr ⟨by omega, by omega⟩) rfl dX12_comes_31 ?_
    have hS17490 : (up3 A17485 18 (y17489.toNatClampNeg) z1) 18 0 = (A17485 18 0) := (up3_ne (by have := cl_int (y := y17489) (by omega); omega)).trans (show A17485 18 0 = (A17485 18 0) from rfl)
    have hS17491 : (up3 A17485 18 (y17489.toNatClampNeg) z1) 18 164 = (A17485 18 164) := (up3_ne (by have := cl_int (y := y17489) (by omega); omega)).trans (show A17485 18 164 = (A17485 18 164) from rfl)
    refine g_aload_n hk dX12_comes_32 rfl ?_
    refine gM_r0_36 hk hin12 (List.mem_cons_of_mem _ (List.mem_append_left _ (List.mem_of_getElem? (i := 5) rfl))) dX12_comes_33 ?_
    refine g_iconst (v := 0) hk dX12_comes_36 (by decide) ?_
    refine g_dup2 hk dX12_comes_37 rfl rfl ?_
    refine lM_18 (v := (A17485 18 0)) hk (vp_in_iff.mpr ⟨by decide, by decide⟩) hS17490 dX12_comes_38 ?_
    refine g_iconst (v := 1) hk dX12_comes_39 (by decide) ?_
    refine g_iadd hk dX12_comes_40 ?_
    refine g_topi (fun y17492 ey17492 => ?_)
    have hy17492 : y17492.toInt = (A17485 18 0).toInt + 1 := i32_add ey17492 rfl rfl (by omega) (by omega)
    refine sM_18 (j := 0) hk (vp_in_iff.mpr ⟨by decide, by decide⟩) (by decide) dX12_comes_41 ?_
    refine g_aload_n hk dX12_comes_42 rfl ?_
    refine g_callV (n := 0) hk (j152_X12_records l D zt r g I17485 (up3 (up3 A17485 18 (y17489.toNatClampNeg) z1) 18 0 y17492) L17485  ⟨(IvM_f1 (I := I17485) (A := A17485) hV17485), (IvM_f2 (I := I17485) (A := A17485) hV17485), (IvM_f3 (I := I17485) (A := A17485) hV17485), (IvM_f4 (I := I17485) (A := A17485) hV17485), (IvM_f6 (I := I17485) (A := A17485) hV17485), (IvM_f8 (I := I17485) (A := A17485) hV17485), (IvM_f15 (I := I17485) (A := A17485) hV17485), (IvM_f16 (I := I17485) (A := A17485) hV17485), (IvM_f17 (I := I17485) (A := A17485) hV17485), (IvM_f18 (I := I17485) (A := A17485) hV17485), (IvM_f22 (I := I17485) (A := A17485) hV17485), (IvM_f23 (I := I17485) (A := A17485) hV17485), (IvM_f24 (I := I17485) (A := A17485) hV17485), (IvM_a11 (I := I17485) (A := A17485) hV17485), (IvM_a26 (I := I17485) (A := A17485) hV17485), (IvM_s8_0 (I := I17485) (A := A17485) hV17485), (IvM_s8_1 (I := I17485) (A := A17485) hV17485), (IvM_s10_0 (I := I17485) (A := A17485) hV17485), (IvM_s10_1 (I := I17485) (A := A17485) hV17485), (IvM_s17_0 (I := I17485) (A := A17485) hV17485), (IvM_s17_164 (I := I17485) (A := A17485) hV17485), (IvM_lv (I := I17485) (A := A17485) hV17485), (IvM_sd (I := I17485) (A := A17485) hV17485), (IvM_nq (I := I17485) (A := A17485) hV17485), (IvM_hr (I := I17485) (A := A17485) hV17485), (IvM_hh (I := I17485) (A := A17485) hV17485), trivial⟩ (by first | (rw [show ((up3 (up3 A17485 18 (y17489.toNatClampNeg) z1) 18 0 y17492) 18 0) = y17492 from rfl] <;> omega) | omega) (by first | (rw [show ((up3 (up3 A17485 18 (y17489.toNatClampNeg) z1) 18 0 y17492) 18 0) = y17492 from rfl] <;> omega) | omega) (by first | (rw [show ((up3 (up3 A17485 18 (y17489.toNatClampNeg) z1) 18 0 y17492) 18 164) = (A17485 18 164) from hS17491] <;> omega) | omega)) (SP.same _) (fun _ h => h) (gi_V (List.mem_cons_of_mem _ (List.mem_append_left _ (List.mem_of_getElem? (i := 6) rfl))) (List.mem_cons_of_mem _ (List.mem_append_left _ (List.mem_of_getElem? (i := 7) rfl))) (List.mem_cons_of_mem _ (List.mem_append_left _ (List.mem_of_getElem? (i := 8) rfl))) (List.mem_cons_of_mem _ (List.mem_append_left _ (List.mem_of_getElem? (i := 4) rfl))) (gi_sub (fun w h => (List.mem_cons_of_mem _ (List.mem_append_right _ (List.mem_append_right _ (List.mem_append_right _ (List.mem_append_left _ h)))))) zg_j152_X12_records)) rfl rfl rfl (by decide +kernel) ⟨Nat.le_of_ble_eq_true rfl, Nat.le_of_ble_eq_true rfl⟩ 0 rfl rfl rfl rfl (Nat.le_of_ble_eq_true rfl) ⟨Nat.le_of_ble_eq_true rfl, Nat.le_of_ble_eq_true rfl⟩ dX12_comes_43 (fun v ty' w' hp hk' => ?_)
    obtain ⟨I17588, A17588, L17588, hI17588, hA17588, hV17588, rfl, rfl⟩ := hp
    show GW κ 2 0 0 (wM r g I17588 A17588 L17588) 46 [(0, .ref (r 0)), (1, .int z1)] []
    refine g_aload_n hk dX12_comes_46 rfl ?_
    refine gM_r0_35 hk hin12 (List.mem_cons_of_mem _ (List.mem_append_left _ (List.mem_of_getElem? (i := 0) rfl))) dX12_comes_47 ?_
    refine g_iconst (v := 0) hk dX12_comes_50 (by decide) ?_
    refine lM_17 (v := (A17588 17 0)) hk (vp_in_iff.mpr ⟨by decide, by decide⟩) rfl dX12_comes_51 ?_
    have f17589 := IvM_s17_0 hV17588
    exact g_iret hk hR rfl ⟨I17588, A17588, L17588, (show Md [22] I I17588 from (Md.tr (Md.tr Md.rf hI17485 rfl) hI17588 rfl)), (show Md [17, 18, 22] A A17588 from (Md.tr (Md.up3 (Md.up3 (Md.tr Md.rf hA17485 rfl) rfl) rfl) hA17588 rfl)), hV17588, (A17588 17 0), (by omega), (by omega), rfl, rfl⟩ dX12_comes_52
  · skip
    refine g_iconst (v := (-1)) hk dX12_comes_12 (by decide) ?_
    exact g_iret hk hR rfl ⟨I, A, L, (show Md [22] I I from Md.rf), (show Md [17, 18, 22] A A from Md.rf), hIv, (-1), (by decide), (by decide), rfl, rfl⟩ dX12_comes_13
def wo_j149_X12_push : List Cond := [Cond.methodLink RX12 244 yX12_in, Cond.static yX12_in, Cond.initialized RX12, Cond.methodLink RX12 329 yX12_comes, Cond.instanceMethod yX12_comes, Cond.selects RX12 yX12_comes yX12_comes]
def wz_j149_X12_push : List Cond := .code yX12_push cX12_push 2 (some .int) :: (wo_j149_X12_push ++ (wz_j145_X12_in ++ (wz_j150_X12_comes ++ ([] : List Cond))))
theorem zg_j149_X12_push : ∀ w ∈ wz_j149_X12_push, goodWord w = true := zg_cons rfl (zg_app (by decide +kernel) (zg_app zg_j145_X12_in (zg_app zg_j150_X12_comes zg_nil)))
theorem zi_j149_X12_push : ∀ w ∈ wz_j149_X12_push, w ∈ lw_tbl := zi_cons zw_1674 (zi_app (zi_cons zw_1656 (zi_cons zw_1657 (zi_cons zw_115 (zi_cons zw_1675 (zi_cons zw_1677 (zi_cons zw_69 zi_nil)))))) (zi_app zi_j145_X12_in (zi_app zi_j150_X12_comes zi_nil)))
set_option maxHeartbeats 4000000 in
set_option maxRecDepth 100000 in
theorem j149_X12_push (l : Launch) (D : va_G) (zt : Nat × Nat × Nat × (Nat → Nat) × (Nat → Nat)) (r : Nat → Nat) (g : Nat → ClassId) (I : Nat → Int32) (A : Nat → Nat → Int32) (L : Nat → Nat → Int64) (z1 : Int32) (hIv : IvM I A) : GM l D zt (tyM g) yX12_push wz_j149_X12_push ({ frames := 3, cells := 0, slots := 0, locals := 63 } : Room) [.ref (r 0), .int z1] (wM r g I A L) (fun v _ w' => ∃ (I' : Nat → Int32) (A' : Nat → Nat → Int32) (L' : Nat → Nat → Int64), Md [22] I I' ∧ Md [17, 18, 22] A A' ∧ IvM I' A' ∧ ∃ y0 : Int32, ((-1) ≤ y0.toInt) ∧ (y0.toInt ≤ 160) ∧ v = some (.int y0) ∧ w' = wM r g I' A' L') 0 0 := by
  refine GM.of (cc := cX12_push) (maxL := 2) (ret := (some .int)) (own := RX12) (lv := [(0, .ref (r 0)), (1, .int z1)]) (by decide) rfl rfl (Nat.le_of_ble_eq_true rfl) rfl (fun κ sz hk hR hN => ?_)
  refine g_iload_n hk dX12_push_0 rfl ?_
  refine g_sipush (v := (-999)) hk dX12_push_1 (by decide) ?_
  refine g_sipush (v := 999) hk dX12_push_4 (by decide) ?_
  have k17464 : ((-999) : Int32).toInt = (-999) := rfl
  have k17465 : (999 : Int32).toInt = 999 := rfl
  refine g_callS (n := 3) hk (j145_X12_in l D zt r g I A L z1 (-999) 999 hIv) (SP.same _) (fun _ h => h) (gi_S (List.mem_cons_of_mem _ (List.mem_append_left _ (List.mem_of_getElem? (i := 0) rfl))) (List.mem_cons_of_mem _ (List.mem_append_left _ (List.mem_of_getElem? (i := 1) rfl))) (List.mem_cons_of_mem _ (List.mem_append_left _ (List.mem_of_getElem? (i := 2) rfl))) (gi_sub (fun w h => (List.mem_cons_of_mem _ (List.mem_append_right _ (List.mem_append_left _ h)))) zg_j145_X12_in)) rfl rfl rfl (by decide +kernel) ⟨Nat.le_of_ble_eq_true rfl, Nat.le_of_ble_eq_true rfl⟩ rfl rfl (Nat.le_of_ble_eq_true rfl) ⟨Nat.le_of_ble_eq_true rfl, Nat.le_of_ble_eq_true rfl⟩ dX12_push_7 (fun v ty' w' hp hk' => ?_)
  rcases hp with ⟨c17466, rfl, rfl⟩ | ⟨c17468, c17469, rfl, rfl⟩
  · skip
    have b17471l := Int32.le_toInt z1
    have b17471h := Int32.toInt_lt z1
    show GW κ 2 0 0 (wM r g I A L) 10 [(0, .ref (r 0)), (1, .int z1)] [.int 0]
    refine g_if_eq (tgt := 21) (a := 0) hk dX12_push_10 (by decide) rfl (fun _ => ?_) (fun z9 => absurd (show (0 : Int) = (0 : Int) from by decide) z9)
    refine g_iconst (v := (-1)) hk dX12_push_21 (by decide) ?_
    exact g_iret hk hR rfl ⟨I, A, L, (show Md [22] I I from Md.rf), (show Md [17, 18, 22] A A from Md.rf), hIv, (-1), (by decide), (by decide), rfl, rfl⟩ dX12_push_22
  · skip
    show GW κ 2 0 0 (wM r g I A L) 10 [(0, .ref (r 0)), (1, .int z1)] [.int 1]
    refine g_if_eq (tgt := 21) (a := 1) hk dX12_push_10 (by decide) rfl (fun z9 => absurd z9 (show ¬ ((1 : Int) = (0 : Int)) from by decide)) (fun _ => ?_)
    refine g_aload_n hk dX12_push_13 rfl ?_
    refine g_iload_n hk dX12_push_14 rfl ?_
    refine g_callV (n := 1) hk (j150_X12_comes l D zt r g I A L z1 hIv) (SP.same _) (fun _ h => h) (gi_V (List.mem_cons_of_mem _ (List.mem_append_left _ (List.mem_of_getElem? (i := 3) rfl))) (List.mem_cons_of_mem _ (List.mem_append_left _ (List.mem_of_getElem? (i := 4) rfl))) (List.mem_cons_of_mem _ (List.mem_append_left _ (List.mem_of_getElem? (i := 5) rfl))) (List.mem_cons_of_mem _ (List.mem_append_left _ (List.mem_of_getElem? (i := 2) rfl))) (gi_sub (fun w h => (List.mem_cons_of_mem _ (List.mem_append_right _ (List.mem_append_right _ (List.mem_append_left _ h))))) zg_j150_X12_comes)) rfl rfl rfl (by decide +kernel) ⟨Nat.le_of_ble_eq_true rfl, Nat.le_of_ble_eq_true rfl⟩ 0 rfl rfl rfl rfl (Nat.le_of_ble_eq_true rfl) ⟨Nat.le_of_ble_eq_true rfl, Nat.le_of_ble_eq_true rfl⟩ dX12_push_15 (fun v ty' w' hp hk' => ?_)
    obtain ⟨I17593, A17593, L17593, hI17593, hA17593, hV17593, y17590, c17591, c17592, rfl, rfl⟩ := hp
    show GW κ 2 0 0 (wM r g I17593 A17593 L17593) 18 [(0, .ref (r 0)), (1, .int z1)] [.int y17590]
    refine g_goto (tgt := 22) hk dX12_push_18 (by decide) ?_
    exact g_iret hk hR rfl ⟨I17593, A17593, L17593, (show Md [22] I I17593 from (Md.tr Md.rf hI17593 rfl)), (show Md [17, 18, 22] A A17593 from (Md.tr Md.rf hA17593 rfl)), hV17593, y17590, (by omega), (by omega), rfl, rfl⟩ dX12_push_22
def wo_j153_X12_gap : List Cond := [Cond.constant RX12 239 (100000), Cond.methodLink RX12 329 yX12_comes, Cond.instanceMethod yX12_comes, Cond.selects RX12 yX12_comes yX12_comes, Cond.initialized RX12]
def wz_j153_X12_gap : List Cond := .code yX12_gap cX12_gap 1 (some .int) :: (wo_j153_X12_gap ++ (wz_j150_X12_comes ++ ([] : List Cond)))
theorem zg_j153_X12_gap : ∀ w ∈ wz_j153_X12_gap, goodWord w = true := zg_cons rfl (zg_app (by decide +kernel) (zg_app zg_j150_X12_comes zg_nil))
theorem zi_j153_X12_gap : ∀ w ∈ wz_j153_X12_gap, w ∈ lw_tbl := zi_cons zw_1690 (zi_app (zi_cons zw_1607 (zi_cons zw_1675 (zi_cons zw_1677 (zi_cons zw_69 (zi_cons zw_115 zi_nil))))) (zi_app zi_j150_X12_comes zi_nil))
set_option maxHeartbeats 4000000 in
set_option maxRecDepth 100000 in
theorem j153_X12_gap (l : Launch) (D : va_G) (zt : Nat × Nat × Nat × (Nat → Nat) × (Nat → Nat)) (r : Nat → Nat) (g : Nat → ClassId) (I : Nat → Int32) (A : Nat → Nat → Int32) (L : Nat → Nat → Int64) (hIv : IvM I A) : GM l D zt (tyM g) yX12_gap wz_j153_X12_gap ({ frames := 3, cells := 0, slots := 0, locals := 63 } : Room) [.ref (r 0)] (wM r g I A L) (fun v _ w' => ∃ (I' : Nat → Int32) (A' : Nat → Nat → Int32) (L' : Nat → Nat → Int64), Md [22] I I' ∧ Md [17, 18, 22] A A' ∧ IvM I' A' ∧ ∃ y0 : Int32, ((-1) ≤ y0.toInt) ∧ (y0.toInt ≤ 160) ∧ v = some (.int y0) ∧ w' = wM r g I' A' L') 0 0 := by
  refine GM.of (cc := cX12_gap) (maxL := 1) (ret := (some .int)) (own := RX12) (lv := [(0, .ref (r 0))]) (by decide) rfl rfl (Nat.le_of_ble_eq_true rfl) rfl (fun κ sz hk hR hN => ?_)
  refine g_aload_n hk dX12_gap_0 rfl ?_
  refine g_ldc (v := 100000) hk (List.mem_cons_of_mem _ (List.mem_append_left _ (List.mem_of_getElem? (i := 0) rfl))) dX12_gap_1 ?_
  have k17594 : (100000 : Int32).toInt = 100000 := rfl
  refine g_callV (n := 1) hk (j150_X12_comes l D zt r g I A L 100000 hIv) (SP.same _) (fun _ h => h) (gi_V (List.mem_cons_of_mem _ (List.mem_append_left _ (List.mem_of_getElem? (i := 1) rfl))) (List.mem_cons_of_mem _ (List.mem_append_left _ (List.mem_of_getElem? (i := 2) rfl))) (List.mem_cons_of_mem _ (List.mem_append_left _ (List.mem_of_getElem? (i := 3) rfl))) (List.mem_cons_of_mem _ (List.mem_append_left _ (List.mem_of_getElem? (i := 4) rfl))) (gi_sub (fun w h => (List.mem_cons_of_mem _ (List.mem_append_right _ (List.mem_append_left _ h)))) zg_j150_X12_comes)) rfl rfl rfl (by decide +kernel) ⟨Nat.le_of_ble_eq_true rfl, Nat.le_of_ble_eq_true rfl⟩ 0 rfl rfl rfl rfl (Nat.le_of_ble_eq_true rfl) ⟨Nat.le_of_ble_eq_true rfl, Nat.le_of_ble_eq_true rfl⟩ dX12_gap_3 (fun v ty' w' hp hk' => ?_)
  obtain ⟨I17598, A17598, L17598, hI17598, hA17598, hV17598, y17595, c17596, c17597, rfl, rfl⟩ := hp
  show GW κ 1 0 0 (wM r g I17598 A17598 L17598) 6 [(0, .ref (r 0))] [.int y17595]
  exact g_iret hk hR rfl ⟨I17598, A17598, L17598, (show Md [22] I I17598 from (Md.tr Md.rf hI17598 rfl)), (show Md [17, 18, 22] A A17598 from (Md.tr Md.rf hA17598 rfl)), hV17598, y17595, (by omega), (by omega), rfl, rfl⟩ dX12_gap_6
def wo_j155_X12_downBy : List Cond := []
def wz_j155_X12_downBy : List Cond := .code yX12_downBy cX12_downBy 3 (some .int) :: (wo_j155_X12_downBy ++ ([] : List Cond))
theorem zg_j155_X12_downBy : ∀ w ∈ wz_j155_X12_downBy, goodWord w = true := zg_cons rfl (zg_app (by decide +kernel) zg_nil)
theorem zi_j155_X12_downBy : ∀ w ∈ wz_j155_X12_downBy, w ∈ lw_tbl := zi_cons zw_1697 (zi_app zi_nil zi_nil)
set_option maxHeartbeats 4000000 in
set_option maxRecDepth 100000 in
theorem j155_X12_downBy (l : Launch) (D : va_G) (zt : Nat × Nat × Nat × (Nat → Nat) × (Nat → Nat)) (r : Nat → Nat) (g : Nat → ClassId) (I : Nat → Int32) (A : Nat → Nat → Int32) (L : Nat → Nat → Int64) (z0 : Int32) (z1 : Int32) (hIv : IvM I A) (hp0 : 1 ≤ z1.toInt) : GM l D zt (tyM g) yX12_downBy wz_j155_X12_downBy ({ frames := 0, cells := 0, slots := 0, locals := 0 } : Room) [.int z0, .int z1] (wM r g I A L) (fun v _ w' => ∃ y0 : Int32, v = some (.int y0) ∧ w' = wM r g I A L) 0 0 := by
  refine GM.of (cc := cX12_downBy) (maxL := 3) (ret := (some .int)) (own := RX12) (lv := [(0, .int z0), (1, .int z1)]) (by decide) rfl rfl (Nat.le_of_ble_eq_true rfl) rfl (fun κ sz hk hR hN => ?_)
  refine g_iload_n hk dX12_downBy_0 rfl ?_
  refine g_iload_n hk dX12_downBy_1 rfl ?_
  have b17638l := Int32.le_toInt z1
  have b17638h := Int32.toInt_lt z1
  refine g_idiv hk dX12_downBy_2 (i32_ne0 (by omega)) ?_
  refine g_topi (fun y17639 ey17639 => ?_)
  refine g_istore_n (lv' := [(2, .int y17639), (0, .int z0), (1, .int z1)]) hk dX12_downBy_3 (by decide) rfl ?_
  refine g_iload_n hk dX12_downBy_4 rfl ?_
  refine g_iload_n hk dX12_downBy_5 rfl ?_
  refine g_irem hk dX12_downBy_6 (i32_ne0 (by omega)) ?_
  refine g_topi (fun y17640 ey17640 => ?_)
  have b17641l := Int32.le_toInt y17640
  have b17641h := Int32.toInt_lt y17640
  refine g_if_ge (tgt := 16) (a := y17640.toInt) hk dX12_downBy_7 (by decide) rfl (fun c17642 => ?_) (fun c17642 => ?_)
  · skip
    refine g_iload_n hk dX12_downBy_16 rfl ?_
    have b17643l := Int32.le_toInt y17639
    have b17643h := Int32.toInt_lt y17639
    exact g_iret hk hR rfl ⟨y17639, rfl, rfl⟩ dX12_downBy_17
  · skip
    refine g_iload_n hk dX12_downBy_10 rfl ?_
    refine g_iconst (v := 1) hk dX12_downBy_11 (by decide) ?_
    have b17644l := Int32.le_toInt y17639
    have b17644h := Int32.toInt_lt y17639
    refine g_isub hk dX12_downBy_12 ?_
    refine g_topi (fun y17645 ey17645 => ?_)
    have hy17645 := i32_sub0 ey17645
    refine g_goto (tgt := 17) hk dX12_downBy_13 (by decide) ?_
    have b17646l := Int32.le_toInt y17645
    have b17646h := Int32.toInt_lt y17645
    exact g_iret hk hR rfl ⟨y17645, rfl, rfl⟩ dX12_downBy_17
def wo_j154_X12_mend : List Cond := [Cond.methodLink RX12 248 yX12_isPlace, Cond.instanceMethod yX12_isPlace, Cond.selects RX12 yX12_isPlace yX12_isPlace, Cond.initialized RX12, Cond.methodLink RX12 320 yX12_isThere, Cond.instanceMethod yX12_isThere, Cond.selects RX12 yX12_isThere yX12_isThere, Cond.methodLink RX12 323 yX12_copies, Cond.instanceMethod yX12_copies, Cond.selects RX12 yX12_copies yX12_copies, Cond.fieldLink RX12 73 "WarpDeskModel" "row" "[I", Cond.methodLink RX12 261 yX12_downBy, Cond.static yX12_downBy, Cond.methodLink RX12 326 yX12_records, Cond.instanceMethod yX12_records, Cond.selects RX12 yX12_records yX12_records, Cond.fieldLink RX12 70 "WarpDeskModel" "now" "[I"]
def wz_j154_X12_mend : List Cond := .code yX12_mend cX12_mend 2 (some .int) :: (wo_j154_X12_mend ++ (wsX120 ++ (wz_j144_X12_isPlace ++ (wz_j143_X12_isThere ++ (wz_j151_X12_copies ++ (wz_j155_X12_downBy ++ (wz_j152_X12_records ++ ([] : List Cond))))))))
theorem zg_j154_X12_mend : ∀ w ∈ wz_j154_X12_mend, goodWord w = true := zg_cons rfl (zg_app (by decide +kernel) (zg_app zgU_wsX120 (zg_app zg_j144_X12_isPlace (zg_app zg_j143_X12_isThere (zg_app zg_j151_X12_copies (zg_app zg_j155_X12_downBy (zg_app zg_j152_X12_records zg_nil)))))))
theorem zi_j154_X12_mend : ∀ w ∈ wz_j154_X12_mend, w ∈ lw_tbl := zi_cons zw_1694 (zi_app (zi_cons zw_1652 (zi_cons zw_1654 (zi_cons zw_66 (zi_cons zw_115 (zi_cons zw_1648 (zi_cons zw_1650 (zi_cons zw_65 (zi_cons zw_1679 (zi_cons zw_1681 (zi_cons zw_70 (zi_cons zw_1414 (zi_cons zw_1695 (zi_cons zw_1696 (zi_cons zw_1683 (zi_cons zw_1685 (zi_cons zw_71 (zi_cons zw_1413 zi_nil))))))))))))))))) (zi_app inX12 (zi_app zi_j144_X12_isPlace (zi_app zi_j143_X12_isThere (zi_app zi_j151_X12_copies (zi_app zi_j155_X12_downBy (zi_app zi_j152_X12_records zi_nil)))))))
set_option maxHeartbeats 4000000 in
set_option maxRecDepth 100000 in
theorem j154_X12_mend (l : Launch) (D : va_G) (zt : Nat × Nat × Nat × (Nat → Nat) × (Nat → Nat)) (r : Nat → Nat) (g : Nat → ClassId) (I : Nat → Int32) (A : Nat → Nat → Int32) (L : Nat → Nat → Int64) (z1 : Int32) (hIv : IvM I A) : GM l D zt (tyM g) yX12_mend wz_j154_X12_mend ({ frames := 3, cells := 0, slots := 0, locals := 64 } : Room) [.ref (r 0), .int z1] (wM r g I A L) (fun v _ w' => ∃ (I' : Nat → Int32) (A' : Nat → Nat → Int32) (L' : Nat → Nat → Int64), Md [22] I I' ∧ Md [17, 18, 22] A A' ∧ IvM I' A' ∧ ∃ y0 : Int32, v = some (.int y0) ∧ w' = wM r g I' A' L') 0 0 := by
  refine GM.of (cc := cX12_mend) (maxL := 2) (ret := (some .int)) (own := RX12) (lv := [(0, .ref (r 0)), (1, .int z1)]) (by decide) rfl rfl (Nat.le_of_ble_eq_true rfl) rfl (fun κ sz hk hR hN => ?_)
  have hin12 : ∀ w ∈ u_ws RX12 TX12 55, w ∈ wz_j154_X12_mend := fun w h => (List.mem_cons_of_mem _ (List.mem_append_right _ (List.mem_append_left _ h)))
  refine g_aload_n hk dX12_mend_0 rfl ?_
  refine g_iload_n hk dX12_mend_1 rfl ?_
  refine g_callV (n := 1) hk (j144_X12_isPlace l D zt r g I A L z1 hIv) (SP.same _) (fun _ h => h) (gi_V (List.mem_cons_of_mem _ (List.mem_append_left _ (List.mem_of_getElem? (i := 0) rfl))) (List.mem_cons_of_mem _ (List.mem_append_left _ (List.mem_of_getElem? (i := 1) rfl))) (List.mem_cons_of_mem _ (List.mem_append_left _ (List.mem_of_getElem? (i := 2) rfl))) (List.mem_cons_of_mem _ (List.mem_append_left _ (List.mem_of_getElem? (i := 3) rfl))) (gi_sub (fun w h => (List.mem_cons_of_mem _ (List.mem_append_right _ (List.mem_append_right _ (List.mem_append_left _ h))))) zg_j144_X12_isPlace)) rfl rfl rfl (by decide +kernel) ⟨Nat.le_of_ble_eq_true rfl, Nat.le_of_ble_eq_true rfl⟩ 0 rfl rfl rfl rfl (Nat.le_of_ble_eq_true rfl) ⟨Nat.le_of_ble_eq_true rfl, Nat.le_of_ble_eq_true rfl⟩ dX12_mend_2 (fun v ty' w' hp hk' => ?_)
  rcases hp with ⟨rfl, rfl⟩ | ⟨c17600, c17601, c17602, rfl, rfl⟩
  · skip
    show GW κ 2 0 0 (wM r g I A L) 5 [(0, .ref (r 0)), (1, .int z1)] [.int 0]
    refine g_if_eq (tgt := 36) (a := 0) hk dX12_mend_5 (by decide) rfl (fun _ => ?_) (fun z9 => absurd (show (0 : Int) = (0 : Int) from by decide) z9)
    refine g_sipush (v := (-1000)) hk dX12_mend_36 (by decide) ?_
    exact g_iret hk hR rfl ⟨I, A, L, (show Md [22] I I from Md.rf), (show Md [17, 18, 22] A A from Md.rf), hIv, (-1000), rfl, rfl⟩ dX12_mend_39
  · skip
    show GW κ 2 0 0 (wM r g I A L) 5 [(0, .ref (r 0)), (1, .int z1)] [.int 1]
    refine g_if_eq (tgt := 36) (a := 1) hk dX12_mend_5 (by decide) rfl (fun z9 => absurd z9 (show ¬ ((1 : Int) = (0 : Int)) from by decide)) (fun _ => ?_)
    refine g_aload_n hk dX12_mend_8 rfl ?_
    refine g_iload_n hk dX12_mend_9 rfl ?_
    refine g_callV (n := 1) hk (j143_X12_isThere l D zt r g I A L z1 hIv) (SP.same _) (fun _ h => h) (gi_V (List.mem_cons_of_mem _ (List.mem_append_left _ (List.mem_of_getElem? (i := 4) rfl))) (List.mem_cons_of_mem _ (List.mem_append_left _ (List.mem_of_getElem? (i := 5) rfl))) (List.mem_cons_of_mem _ (List.mem_append_left _ (List.mem_of_getElem? (i := 6) rfl))) (List.mem_cons_of_mem _ (List.mem_append_left _ (List.mem_of_getElem? (i := 3) rfl))) (gi_sub (fun w h => (List.mem_cons_of_mem _ (List.mem_append_right _ (List.mem_append_right _ (List.mem_append_right _ (List.mem_append_left _ h)))))) zg_j143_X12_isThere)) rfl rfl rfl (by decide +kernel) ⟨Nat.le_of_ble_eq_true rfl, Nat.le_of_ble_eq_true rfl⟩ 0 rfl rfl rfl rfl (Nat.le_of_ble_eq_true rfl) ⟨Nat.le_of_ble_eq_true rfl, Nat.le_of_ble_eq_true rfl⟩ dX12_mend_10 (fun v ty' w' hp hk' => ?_)
    rcases hp with ⟨rfl, rfl⟩ | ⟨c17605, c17606, c17607, c17608, c17609, rfl, rfl⟩
    · skip
      show GW κ 2 0 0 (wM r g I A L) 13 [(0, .ref (r 0)), (1, .int z1)] [.int 0]
      refine g_if_ne (tgt := 36) (a := 0) hk dX12_mend_13 (by decide) rfl (fun z9 => absurd z9 (show ¬ ((0 : Int) ≠ (0 : Int)) from by decide)) (fun _ => ?_)
      refine g_aload_n hk dX12_mend_16 rfl ?_
      refine g_iload_n hk dX12_mend_17 rfl ?_
      refine g_iconst (v := 1) hk dX12_mend_18 (by decide) ?_
      refine g_isub hk dX12_mend_19 ?_
      refine g_topi (fun y17611 ey17611 => ?_)
      have hy17611 : y17611.toInt = z1.toInt - 1 := i32_sub ey17611 rfl rfl (by omega) (by omega)
      refine g_callV (n := 1) hk (j143_X12_isThere l D zt r g I A L y17611 hIv) (SP.same _) (fun _ h => h) (gi_V (List.mem_cons_of_mem _ (List.mem_append_left _ (List.mem_of_getElem? (i := 4) rfl))) (List.mem_cons_of_mem _ (List.mem_append_left _ (List.mem_of_getElem? (i := 5) rfl))) (List.mem_cons_of_mem _ (List.mem_append_left _ (List.mem_of_getElem? (i := 6) rfl))) (List.mem_cons_of_mem _ (List.mem_append_left _ (List.mem_of_getElem? (i := 3) rfl))) (gi_sub (fun w h => (List.mem_cons_of_mem _ (List.mem_append_right _ (List.mem_append_right _ (List.mem_append_right _ (List.mem_append_left _ h)))))) zg_j143_X12_isThere)) rfl rfl rfl (by decide +kernel) ⟨Nat.le_of_ble_eq_true rfl, Nat.le_of_ble_eq_true rfl⟩ 0 rfl rfl rfl rfl (Nat.le_of_ble_eq_true rfl) ⟨Nat.le_of_ble_eq_true rfl, Nat.le_of_ble_eq_true rfl⟩ dX12_mend_20 (fun v ty' w' hp hk' => ?_)
      rcases hp with ⟨rfl, rfl⟩ | ⟨c17613, c17614, c17615, c17616, c17617, rfl, rfl⟩
      · skip
        show GW κ 2 0 0 (wM r g I A L) 23 [(0, .ref (r 0)), (1, .int z1)] [.int 0]
        refine g_if_eq (tgt := 36) (a := 0) hk dX12_mend_23 (by decide) rfl (fun _ => ?_) (fun z9 => absurd (show (0 : Int) = (0 : Int) from by decide) z9)
        refine g_sipush (v := (-1000)) hk dX12_mend_36 (by decide) ?_
        exact g_iret hk hR rfl ⟨I, A, L, (show Md [22] I I from Md.rf), (show Md [17, 18, 22] A A from Md.rf), hIv, (-1000), rfl, rfl⟩ dX12_mend_39
      · skip
        show GW κ 2 0 0 (wM r g I A L) 23 [(0, .ref (r 0)), (1, .int z1)] [.int 1]
        refine g_if_eq (tgt := 36) (a := 1) hk dX12_mend_23 (by decide) rfl (fun z9 => absurd z9 (show ¬ ((1 : Int) = (0 : Int)) from by decide)) (fun _ => ?_)
        refine g_aload_n hk dX12_mend_26 rfl ?_
        refine g_iload_n hk dX12_mend_27 rfl ?_
        refine g_iconst (v := 1) hk dX12_mend_28 (by decide) ?_
        refine g_iadd hk dX12_mend_29 ?_
        refine g_topi (fun y17619 ey17619 => ?_)
        have hy17619 : y17619.toInt = z1.toInt + 1 := i32_add ey17619 rfl rfl (by omega) (by omega)
        refine g_callV (n := 1) hk (j143_X12_isThere l D zt r g I A L y17619 hIv) (SP.same _) (fun _ h => h) (gi_V (List.mem_cons_of_mem _ (List.mem_append_left _ (List.mem_of_getElem? (i := 4) rfl))) (List.mem_cons_of_mem _ (List.mem_append_left _ (List.mem_of_getElem? (i := 5) rfl))) (List.mem_cons_of_mem _ (List.mem_append_left _ (List.mem_of_getElem? (i := 6) rfl))) (List.mem_cons_of_mem _ (List.mem_append_left _ (List.mem_of_getElem? (i := 3) rfl))) (gi_sub (fun w h => (List.mem_cons_of_mem _ (List.mem_append_right _ (List.mem_append_right _ (List.mem_append_right _ (List.mem_append_left _ h)))))) zg_j143_X12_isThere)) rfl rfl rfl (by decide +kernel) ⟨Nat.le_of_ble_eq_true rfl, Nat.le_of_ble_eq_true rfl⟩ 0 rfl rfl rfl rfl (Nat.le_of_ble_eq_true rfl) ⟨Nat.le_of_ble_eq_true rfl, Nat.le_of_ble_eq_true rfl⟩ dX12_mend_30 (fun v ty' w' hp hk' => ?_)
        rcases hp with ⟨rfl, rfl⟩ | ⟨c17621, c17622, c17623, c17624, c17625, rfl, rfl⟩
        · skip
          show GW κ 2 0 0 (wM r g I A L) 33 [(0, .ref (r 0)), (1, .int z1)] [.int 0]
          refine g_if_ne (tgt := 40) (a := 0) hk dX12_mend_33 (by decide) rfl (fun z9 => absurd z9 (show ¬ ((0 : Int) ≠ (0 : Int)) from by decide)) (fun _ => ?_)
          refine g_sipush (v := (-1000)) hk dX12_mend_36 (by decide) ?_
          exact g_iret hk hR rfl ⟨I, A, L, (show Md [22] I I from Md.rf), (show Md [17, 18, 22] A A from Md.rf), hIv, (-1000), rfl, rfl⟩ dX12_mend_39
        · skip
          show GW κ 2 0 0 (wM r g I A L) 33 [(0, .ref (r 0)), (1, .int z1)] [.int 1]
          refine g_if_ne (tgt := 40) (a := 1) hk dX12_mend_33 (by decide) rfl (fun _ => ?_) (fun z9 => absurd (show (1 : Int) ≠ (0 : Int) from by decide) z9)
          refine g_aload_n hk dX12_mend_40 rfl ?_
          refine g_callV (n := 0) hk (j151_X12_copies l D zt r g I A L  hIv) (SP.same _) (fun _ h => h) (gi_V (List.mem_cons_of_mem _ (List.mem_append_left _ (List.mem_of_getElem? (i := 7) rfl))) (List.mem_cons_of_mem _ (List.mem_append_left _ (List.mem_of_getElem? (i := 8) rfl))) (List.mem_cons_of_mem _ (List.mem_append_left _ (List.mem_of_getElem? (i := 9) rfl))) (List.mem_cons_of_mem _ (List.mem_append_left _ (List.mem_of_getElem? (i := 3) rfl))) (gi_sub (fun w h => (List.mem_cons_of_mem _ (List.mem_append_right _ (List.mem_append_right _ (List.mem_append_right _ (List.mem_append_right _ (List.mem_append_left _ h))))))) zg_j151_X12_copies)) rfl rfl rfl (by decide +kernel) ⟨Nat.le_of_ble_eq_true rfl, Nat.le_of_ble_eq_true rfl⟩ 0 rfl rfl rfl rfl (Nat.le_of_ble_eq_true rfl) ⟨Nat.le_of_ble_eq_true rfl, Nat.le_of_ble_eq_true rfl⟩ dX12_mend_41 (fun v ty' w' hp hk' => ?_)
          obtain ⟨I17628, A17628, L17628, hI17628, hA17628, hV17628, r17629, r17630, rfl, rfl⟩ := hp
          have f17631 := IvM_s17_0 hIv
          have f17632 := IvM_s17_164 hIv
          show GW κ 2 0 0 (wM r g I17628 A17628 L17628) 44 [(0, .ref (r 0)), (1, .int z1)] []
          refine g_aload_n hk dX12_mend_44 rfl ?_
          refine gM_r0_36 hk hin12 (List.mem_cons_of_mem _ (List.mem_append_left _ (List.mem_of_getElem? (i := 10) rfl))) dX12_mend_45 ?_
          refine g_iconst (v := 1) hk dX12_mend_48 (by decide) ?_
          refine g_iload_n hk dX12_mend_49 rfl ?_
          refine g_iadd hk dX12_mend_50 ?_
          refine g_topi (fun y17633 ey17633 => ?_)
          have hy17633 : y17633.toInt = 1 + z1.toInt := i32_add ey17633 rfl rfl (by omega) (by omega)
          refine g_aload_n hk dX12_mend_51 rfl ?_
          refine gM_r0_36 hk hin12 (List.mem_cons_of_mem _ (List.mem_append_left _ (List.mem_of_getElem? (i := 10) rfl))) dX12_mend_52 ?_
          refine g_iload_n hk dX12_mend_55 rfl ?_
          refine lM_18 (v := (A17628 18 z1.toNatClampNeg)) hk (vp_in_iff.mpr ⟨by omega, by omega⟩) rfl dX12_mend_56 ?_
          refine g_aload_n hk dX12_mend_57 rfl ?_
          refine gM_r0_36 hk hin12 (List.mem_cons_of_mem _ (List.mem_append_left _ (List.mem_of_getElem? (i := 10) rfl))) dX12_mend_58 ?_
          refine g_iconst (v := 2) hk dX12_mend_61 (by decide) ?_
          refine g_iload_n hk dX12_mend_62 rfl ?_
          refine g_iadd hk dX12_mend_63 ?_
          refine g_topi (fun y17634 ey17634 => ?_)
          have hy17634 : y17634.toInt = 2 + z1.toInt := i32_add ey17634 rfl rfl (by omega) (by omega)
          refine lM_18 (v := (A17628 18 y17634.toNatClampNeg)) hk (vp_in_iff.mpr ⟨by omega, by omega⟩) rfl dX12_mend_64 ?_
          have b17635l := Int32.le_toInt (A17628 18 z1.toNatClampNeg)
          have b17635h := Int32.toInt_lt (A17628 18 z1.toNatClampNeg)
          have b17636l := Int32.le_toInt (A17628 18 y17634.toNatClampNeg)
          have b17636h := Int32.toInt_lt (A17628 18 y17634.toNatClampNeg)
          refine g_iadd hk dX12_mend_65 ?_
          refine g_topi (fun y17637 ey17637 => ?_)
          refine g_iconst (v := 2) hk dX12_mend_66 (by decide) ?_
          have k17647 : (2 : Int32).toInt = 2 := rfl
          refine g_callS (n := 2) hk (j155_X12_downBy l D zt r g I17628 A17628 L17628 y17637 2 hV17628 (by decide)) (SP.same _) (fun _ h => h) (gi_S (List.mem_cons_of_mem _ (List.mem_append_left _ (List.mem_of_getElem? (i := 11) rfl))) (List.mem_cons_of_mem _ (List.mem_append_left _ (List.mem_of_getElem? (i := 12) rfl))) (List.mem_cons_of_mem _ (List.mem_append_left _ (List.mem_of_getElem? (i := 3) rfl))) (gi_sub (fun w h => (List.mem_cons_of_mem _ (List.mem_append_right _ (List.mem_append_right _ (List.mem_append_right _ (List.mem_append_right _ (List.mem_append_right _ (List.mem_append_left _ h)))))))) zg_j155_X12_downBy)) rfl rfl rfl (by decide +kernel) ⟨Nat.le_of_ble_eq_true rfl, Nat.le_of_ble_eq_true rfl⟩ rfl rfl (Nat.le_of_ble_eq_true rfl) ⟨Nat.le_of_ble_eq_true rfl, Nat.le_of_ble_eq_true rfl⟩ dX12_mend_67 (fun v ty' w' hp hk' => ?_)
          obtain ⟨y17648, rfl, rfl⟩ := hp
          show GW κ 2 0 0 (wM r g I17628 A17628 L17628) 70 [(0, .ref (r 0)), (1, .int z1)] [.int y17648, .int y17633, .ref (r 19)]
          refine sM_18 (j := y17633.toNatClampNeg) hk (vp_in_iff.mpr ⟨by omega, by omega⟩) rfl dX12_mend_70 ?_
          have hS17649 : (up3 A17628 18 (y17633.toNatClampNeg) y17648) 18 0 = (A17628 18 0) := (up3_ne (by have := cl_int (y := y17633) (by omega); omega)).trans (show A17628 18 0 = (A17628 18 0) from rfl)
          have hS17650 : (up3 A17628 18 (y17633.toNatClampNeg) y17648) 18 164 = (A17628 18 164) := (up3_ne (by have := cl_int (y := y17633) (by omega); omega)).trans (show A17628 18 164 = (A17628 18 164) from rfl)
          refine g_aload_n hk dX12_mend_71 rfl ?_
          refine g_callV (n := 0) hk (j152_X12_records l D zt r g I17628 (up3 A17628 18 (y17633.toNatClampNeg) y17648) L17628  ⟨(IvM_f1 (I := I17628) (A := A17628) hV17628), (IvM_f2 (I := I17628) (A := A17628) hV17628), (IvM_f3 (I := I17628) (A := A17628) hV17628), (IvM_f4 (I := I17628) (A := A17628) hV17628), (IvM_f6 (I := I17628) (A := A17628) hV17628), (IvM_f8 (I := I17628) (A := A17628) hV17628), (IvM_f15 (I := I17628) (A := A17628) hV17628), (IvM_f16 (I := I17628) (A := A17628) hV17628), (IvM_f17 (I := I17628) (A := A17628) hV17628), (IvM_f18 (I := I17628) (A := A17628) hV17628), (IvM_f22 (I := I17628) (A := A17628) hV17628), (IvM_f23 (I := I17628) (A := A17628) hV17628), (IvM_f24 (I := I17628) (A := A17628) hV17628), (IvM_a11 (I := I17628) (A := A17628) hV17628), (IvM_a26 (I := I17628) (A := A17628) hV17628), (IvM_s8_0 (I := I17628) (A := A17628) hV17628), (IvM_s8_1 (I := I17628) (A := A17628) hV17628), (IvM_s10_0 (I := I17628) (A := A17628) hV17628), (IvM_s10_1 (I := I17628) (A := A17628) hV17628), (IvM_s17_0 (I := I17628) (A := A17628) hV17628), (IvM_s17_164 (I := I17628) (A := A17628) hV17628), (IvM_lv (I := I17628) (A := A17628) hV17628), (IvM_sd (I := I17628) (A := A17628) hV17628), (IvM_nq (I := I17628) (A := A17628) hV17628), (IvM_hr (I := I17628) (A := A17628) hV17628), (IvM_hh (I := I17628) (A := A17628) hV17628), trivial⟩ (by first | (rw [show ((up3 A17628 18 (y17633.toNatClampNeg) y17648) 18 0) = (A17628 18 0) from hS17649] <;> omega) | omega) (by first | (rw [show ((up3 A17628 18 (y17633.toNatClampNeg) y17648) 18 0) = (A17628 18 0) from hS17649] <;> omega) | omega) (by first | (rw [show ((up3 A17628 18 (y17633.toNatClampNeg) y17648) 18 164) = (A17628 18 164) from hS17650] <;> omega) | omega)) (SP.same _) (fun _ h => h) (gi_V (List.mem_cons_of_mem _ (List.mem_append_left _ (List.mem_of_getElem? (i := 13) rfl))) (List.mem_cons_of_mem _ (List.mem_append_left _ (List.mem_of_getElem? (i := 14) rfl))) (List.mem_cons_of_mem _ (List.mem_append_left _ (List.mem_of_getElem? (i := 15) rfl))) (List.mem_cons_of_mem _ (List.mem_append_left _ (List.mem_of_getElem? (i := 3) rfl))) (gi_sub (fun w h => (List.mem_cons_of_mem _ (List.mem_append_right _ (List.mem_append_right _ (List.mem_append_right _ (List.mem_append_right _ (List.mem_append_right _ (List.mem_append_right _ (List.mem_append_left _ h))))))))) zg_j152_X12_records)) rfl rfl rfl (by decide +kernel) ⟨Nat.le_of_ble_eq_true rfl, Nat.le_of_ble_eq_true rfl⟩ 0 rfl rfl rfl rfl (Nat.le_of_ble_eq_true rfl) ⟨Nat.le_of_ble_eq_true rfl, Nat.le_of_ble_eq_true rfl⟩ dX12_mend_72 (fun v ty' w' hp hk' => ?_)
          obtain ⟨I17652, A17652, L17652, hI17652, hA17652, hV17652, rfl, rfl⟩ := hp
          show GW κ 2 0 0 (wM r g I17652 A17652 L17652) 75 [(0, .ref (r 0)), (1, .int z1)] []
          refine g_aload_n hk dX12_mend_75 rfl ?_
          refine gM_r0_35 hk hin12 (List.mem_cons_of_mem _ (List.mem_append_left _ (List.mem_of_getElem? (i := 16) rfl))) dX12_mend_76 ?_
          refine g_iconst (v := 1) hk dX12_mend_79 (by decide) ?_
          refine g_iload_n hk dX12_mend_80 rfl ?_
          refine g_iadd hk dX12_mend_81 ?_
          refine g_topi (fun y17653 ey17653 => ?_)
          have hy17653 : y17653.toInt = 1 + z1.toInt := i32_add ey17653 rfl rfl (by omega) (by omega)
          refine lM_17 (v := (A17652 17 y17653.toNatClampNeg)) hk (vp_in_iff.mpr ⟨by omega, by omega⟩) rfl dX12_mend_82 ?_
          have b17654l := Int32.le_toInt (A17652 17 y17653.toNatClampNeg)
          have b17654h := Int32.toInt_lt (A17652 17 y17653.toNatClampNeg)
          exact g_iret hk hR rfl ⟨I17652, A17652, L17652, (show Md [22] I I17652 from (Md.tr (Md.tr Md.rf hI17628 rfl) hI17652 rfl)), (show Md [17, 18, 22] A A17652 from (Md.tr (Md.up3 (Md.tr Md.rf hA17628 rfl) rfl) hA17652 rfl)), hV17652, (A17652 17 y17653.toNatClampNeg), rfl, rfl⟩ dX12_mend_83
    · skip
      show GW κ 2 0 0 (wM r g I A L) 13 [(0, .ref (r 0)), (1, .int z1)] [.int 1]
      refine g_if_ne (tgt := 36) (a := 1) hk dX12_mend_13 (by decide) rfl (fun _ => ?_) (fun z9 => absurd (show (1 : Int) ≠ (0 : Int) from by decide) z9)
      refine g_sipush (v := (-1000)) hk dX12_mend_36 (by decide) ?_
      exact g_iret hk hR rfl ⟨I, A, L, (show Md [22] I I from Md.rf), (show Md [17, 18, 22] A A from Md.rf), hIv, (-1000), rfl, rfl⟩ dX12_mend_39
def wo_j156_X12_drop : List Cond := [Cond.fieldLink RX12 70 "WarpDeskModel" "now" "[I", Cond.methodLink RX12 244 yX12_in, Cond.static yX12_in, Cond.initialized RX12, Cond.methodLink RX12 323 yX12_copies, Cond.instanceMethod yX12_copies, Cond.selects RX12 yX12_copies yX12_copies, Cond.fieldLink RX12 73 "WarpDeskModel" "row" "[I", Cond.methodLink RX12 326 yX12_records, Cond.instanceMethod yX12_records, Cond.selects RX12 yX12_records yX12_records]
def wz_j156_X12_drop : List Cond := .code yX12_drop cX12_drop 3 (some .boolean) :: (wo_j156_X12_drop ++ (wsX120 ++ (wz_j145_X12_in ++ (wz_j151_X12_copies ++ (wz_j152_X12_records ++ ([] : List Cond))))))
theorem zg_j156_X12_drop : ∀ w ∈ wz_j156_X12_drop, goodWord w = true := zg_cons rfl (zg_app (by decide +kernel) (zg_app zgU_wsX120 (zg_app zg_j145_X12_in (zg_app zg_j151_X12_copies (zg_app zg_j152_X12_records zg_nil)))))
theorem zi_j156_X12_drop : ∀ w ∈ wz_j156_X12_drop, w ∈ lw_tbl := zi_cons zw_1701 (zi_app (zi_cons zw_1413 (zi_cons zw_1656 (zi_cons zw_1657 (zi_cons zw_115 (zi_cons zw_1679 (zi_cons zw_1681 (zi_cons zw_70 (zi_cons zw_1414 (zi_cons zw_1683 (zi_cons zw_1685 (zi_cons zw_71 zi_nil))))))))))) (zi_app inX12 (zi_app zi_j145_X12_in (zi_app zi_j151_X12_copies (zi_app zi_j152_X12_records zi_nil)))))
set_option maxHeartbeats 4000000 in
set_option maxRecDepth 100000 in
theorem j156_X12_drop (l : Launch) (D : va_G) (zt : Nat × Nat × Nat × (Nat → Nat) × (Nat → Nat)) (r : Nat → Nat) (g : Nat → ClassId) (I : Nat → Int32) (A : Nat → Nat → Int32) (L : Nat → Nat → Int64) (z1 : Int32) (hIv : IvM I A) : GM l D zt (tyM g) yX12_drop wz_j156_X12_drop ({ frames := 2, cells := 0, slots := 0, locals := 42 } : Room) [.ref (r 0), .int z1] (wM r g I A L) (fun v _ w' => ∃ (I' : Nat → Int32) (A' : Nat → Nat → Int32) (L' : Nat → Nat → Int64), Md [22] I I' ∧ Md [17, 18, 22] A A' ∧ IvM I' A' ∧ ∃ y0 : Int32, (0 ≤ y0.toInt) ∧ (y0.toInt ≤ 1) ∧ v = some (.int y0) ∧ w' = wM r g I' A' L') 0 0 := by
  refine GM.of (cc := cX12_drop) (maxL := 3) (ret := (some .boolean)) (own := RX12) (lv := [(0, .ref (r 0)), (1, .int z1)]) (by decide) rfl rfl (Nat.le_of_ble_eq_true rfl) rfl (fun κ sz hk hR hN => ?_)
  have hin12 : ∀ w ∈ u_ws RX12 TX12 55, w ∈ wz_j156_X12_drop := fun w h => (List.mem_cons_of_mem _ (List.mem_append_right _ (List.mem_append_left _ h)))
  refine g_iload_n hk dX12_drop_0 rfl ?_
  refine g_iconst (v := 1) hk dX12_drop_1 (by decide) ?_
  refine g_aload_n hk dX12_drop_2 rfl ?_
  refine gM_r0_35 hk hin12 (List.mem_cons_of_mem _ (List.mem_append_left _ (List.mem_of_getElem? (i := 0) rfl))) dX12_drop_3 ?_
  refine g_iconst (v := 0) hk dX12_drop_6 (by decide) ?_
  refine lM_17 (v := (A 17 0)) hk (vp_in_iff.mpr ⟨by decide, by decide⟩) rfl dX12_drop_7 ?_
  have f17655 := IvM_s17_0 hIv
  have k17656 : (1 : Int32).toInt = 1 := rfl
  refine g_callS (n := 3) hk (j145_X12_in l D zt r g I A L z1 1 (A 17 0) hIv) (SP.same _) (fun _ h => h) (gi_S (List.mem_cons_of_mem _ (List.mem_append_left _ (List.mem_of_getElem? (i := 1) rfl))) (List.mem_cons_of_mem _ (List.mem_append_left _ (List.mem_of_getElem? (i := 2) rfl))) (List.mem_cons_of_mem _ (List.mem_append_left _ (List.mem_of_getElem? (i := 3) rfl))) (gi_sub (fun w h => (List.mem_cons_of_mem _ (List.mem_append_right _ (List.mem_append_right _ (List.mem_append_left _ h))))) zg_j145_X12_in)) rfl rfl rfl (by decide +kernel) ⟨Nat.le_of_ble_eq_true rfl, Nat.le_of_ble_eq_true rfl⟩ rfl rfl (Nat.le_of_ble_eq_true rfl) ⟨Nat.le_of_ble_eq_true rfl, Nat.le_of_ble_eq_true rfl⟩ dX12_drop_8 (fun v ty' w' hp hk' => ?_)
  rcases hp with ⟨c17657, rfl, rfl⟩ | ⟨c17659, c17660, rfl, rfl⟩
  · skip
    have b17662l := Int32.le_toInt z1
    have b17662h := Int32.toInt_lt z1
    show GW κ 3 0 0 (wM r g I A L) 11 [(0, .ref (r 0)), (1, .int z1)] [.int 0]
    refine g_if_ne (tgt := 16) (a := 0) hk dX12_drop_11 (by decide) rfl (fun z9 => absurd z9 (show ¬ ((0 : Int) ≠ (0 : Int)) from by decide)) (fun _ => ?_)
    refine g_iconst (v := 0) hk dX12_drop_14 (by decide) ?_
    exact g_iret hk hR rfl ⟨I, A, L, (show Md [22] I I from Md.rf), (show Md [17, 18, 22] A A from Md.rf), hIv, 0, (by decide), (by decide), rfl, rfl⟩ dX12_drop_15
  · skip
    show GW κ 3 0 0 (wM r g I A L) 11 [(0, .ref (r 0)), (1, .int z1)] [.int 1]
    refine g_if_ne (tgt := 16) (a := 1) hk dX12_drop_11 (by decide) rfl (fun _ => ?_) (fun z9 => absurd (show (1 : Int) ≠ (0 : Int) from by decide) z9)
    refine g_aload_n hk dX12_drop_16 rfl ?_
    refine g_callV (n := 0) hk (j151_X12_copies l D zt r g I A L  hIv) (SP.same _) (fun _ h => h) (gi_V (List.mem_cons_of_mem _ (List.mem_append_left _ (List.mem_of_getElem? (i := 4) rfl))) (List.mem_cons_of_mem _ (List.mem_append_left _ (List.mem_of_getElem? (i := 5) rfl))) (List.mem_cons_of_mem _ (List.mem_append_left _ (List.mem_of_getElem? (i := 6) rfl))) (List.mem_cons_of_mem _ (List.mem_append_left _ (List.mem_of_getElem? (i := 3) rfl))) (gi_sub (fun w h => (List.mem_cons_of_mem _ (List.mem_append_right _ (List.mem_append_right _ (List.mem_append_right _ (List.mem_append_left _ h)))))) zg_j151_X12_copies)) rfl rfl rfl (by decide +kernel) ⟨Nat.le_of_ble_eq_true rfl, Nat.le_of_ble_eq_true rfl⟩ 0 rfl rfl rfl rfl (Nat.le_of_ble_eq_true rfl) ⟨Nat.le_of_ble_eq_true rfl, Nat.le_of_ble_eq_true rfl⟩ dX12_drop_17 (fun v ty' w' hp hk' => ?_)
    obtain ⟨I17664, A17664, L17664, hI17664, hA17664, hV17664, r17665, r17666, rfl, rfl⟩ := hp
    have f17667 := IvM_s17_164 hIv
    show GW κ 3 0 0 (wM r g I17664 A17664 L17664) 20 [(0, .ref (r 0)), (1, .int z1)] []
    refine g_iconst (v := 0) hk dX12_drop_20 (by decide) ?_
    refine g_istore_n (lv' := [(2, .int 0), (0, .ref (r 0)), (1, .int z1)]) hk dX12_drop_21 (by decide) rfl ?_
    have lp17725 : ∀ (n17726 : Nat) (x17668 : Int32) (I17671 : Nat → Int32) (A17671 : Nat → Nat → Int32) (L17671 : Nat → Nat → Int64), (Md [] I17664 I17671) → (Md [18] A17664 A17671) → (IvM I17671 A17671) → (0 ≤ x17668.toInt) → (x17668.toInt ≤ 160) → ((A17671 18 0).toInt = (A 17 0).toInt) → ((A17671 18 164).toInt = (A 17 164).toInt) → (161 - x17668.toInt < (n17726 : Int)) → (0 < n17726) → GW κ 3 0 0 (wM r g I17671 A17671 L17671) 22 [(2, .int x17668), (0, .ref (r 0)), (1, .int z1)] [] := by
      intro n17726
      induction n17726 with
      | zero =>
        intro x17668 I17671 A17671 L17671 hI17671 hA17671 hV17671 h17721 h17722 h17723 h17724 m17727 m17727z
        exact absurd m17727z (Nat.lt_irrefl 0)
      | succ n17726 ih17728 =>
        intro x17668 I17671 A17671 L17671 hI17671 hA17671 hV17671 h17721 h17722 h17723 h17724 m17727 m17727z
        refine g_iload_n hk dX12_drop_22 rfl ?_
        refine g_sipush (v := 160) hk dX12_drop_23 (by decide) ?_
        refine g_icmp_ge (tgt := 69) (a := x17668.toInt) (b := 160) hk dX12_drop_26 (by decide) rfl rfl (fun c17729 => ?_) (fun c17729 => ?_)
        · skip
          refine g_aload_n hk dX12_drop_69 rfl ?_
          refine gM_r0_36 hk hin12 (List.mem_cons_of_mem _ (List.mem_append_left _ (List.mem_of_getElem? (i := 7) rfl))) dX12_drop_70 ?_
          refine g_iconst (v := 0) hk dX12_drop_73 (by decide) ?_
          refine g_dup2 hk dX12_drop_74 rfl rfl ?_
          refine lM_18 (v := (A17671 18 0)) hk (vp_in_iff.mpr ⟨by decide, by decide⟩) rfl dX12_drop_75 ?_
          refine g_iload_n hk dX12_drop_76 rfl ?_
          refine g_isub hk dX12_drop_77 ?_
          refine g_topi (fun y17730 ey17730 => ?_)
          have hy17730 : y17730.toInt = (A17671 18 0).toInt - z1.toInt := i32_sub ey17730 rfl rfl (by omega) (by omega)
          refine sM_18 (j := 0) hk (vp_in_iff.mpr ⟨by decide, by decide⟩) (by decide) dX12_drop_78 ?_
          refine g_aload_n hk dX12_drop_79 rfl ?_
          refine g_callV (n := 0) hk (j152_X12_records l D zt r g I17671 (up3 A17671 18 0 y17730) L17671  ⟨(IvM_f1 (I := I17671) (A := A17671) hV17671), (IvM_f2 (I := I17671) (A := A17671) hV17671), (IvM_f3 (I := I17671) (A := A17671) hV17671), (IvM_f4 (I := I17671) (A := A17671) hV17671), (IvM_f6 (I := I17671) (A := A17671) hV17671), (IvM_f8 (I := I17671) (A := A17671) hV17671), (IvM_f15 (I := I17671) (A := A17671) hV17671), (IvM_f16 (I := I17671) (A := A17671) hV17671), (IvM_f17 (I := I17671) (A := A17671) hV17671), (IvM_f18 (I := I17671) (A := A17671) hV17671), (IvM_f22 (I := I17671) (A := A17671) hV17671), (IvM_f23 (I := I17671) (A := A17671) hV17671), (IvM_f24 (I := I17671) (A := A17671) hV17671), (IvM_a11 (I := I17671) (A := A17671) hV17671), (IvM_a26 (I := I17671) (A := A17671) hV17671), (IvM_s8_0 (I := I17671) (A := A17671) hV17671), (IvM_s8_1 (I := I17671) (A := A17671) hV17671), (IvM_s10_0 (I := I17671) (A := A17671) hV17671), (IvM_s10_1 (I := I17671) (A := A17671) hV17671), (IvM_s17_0 (I := I17671) (A := A17671) hV17671), (IvM_s17_164 (I := I17671) (A := A17671) hV17671), (IvM_lv (I := I17671) (A := A17671) hV17671), (IvM_sd (I := I17671) (A := A17671) hV17671), (IvM_nq (I := I17671) (A := A17671) hV17671), (IvM_hr (I := I17671) (A := A17671) hV17671), (IvM_hh (I := I17671) (A := A17671) hV17671), trivial⟩ (by first | (rw [show ((up3 A17671 18 0 y17730) 18 0) = y17730 from rfl] <;> omega) | omega) (by first | (rw [show ((up3 A17671 18 0 y17730) 18 0) = y17730 from rfl] <;> omega) | omega) (by first | (rw [show ((up3 A17671 18 0 y17730) 18 164) = (A17671 18 164) from rfl] <;> omega) | omega)) (SP.same _) (fun _ h => h) (gi_V (List.mem_cons_of_mem _ (List.mem_append_left _ (List.mem_of_getElem? (i := 8) rfl))) (List.mem_cons_of_mem _ (List.mem_append_left _ (List.mem_of_getElem? (i := 9) rfl))) (List.mem_cons_of_mem _ (List.mem_append_left _ (List.mem_of_getElem? (i := 10) rfl))) (List.mem_cons_of_mem _ (List.mem_append_left _ (List.mem_of_getElem? (i := 3) rfl))) (gi_sub (fun w h => (List.mem_cons_of_mem _ (List.mem_append_right _ (List.mem_append_right _ (List.mem_append_right _ (List.mem_append_right _ (List.mem_append_left _ h))))))) zg_j152_X12_records)) rfl rfl rfl (by decide +kernel) ⟨Nat.le_of_ble_eq_true rfl, Nat.le_of_ble_eq_true rfl⟩ 0 rfl rfl rfl rfl (Nat.le_of_ble_eq_true rfl) ⟨Nat.le_of_ble_eq_true rfl, Nat.le_of_ble_eq_true rfl⟩ dX12_drop_80 (fun v ty' w' hp hk' => ?_)
          obtain ⟨I17732, A17732, L17732, hI17732, hA17732, hV17732, rfl, rfl⟩ := hp
          show GW κ 3 0 0 (wM r g I17732 A17732 L17732) 83 [(2, .int x17668), (0, .ref (r 0)), (1, .int z1)] []
          refine g_iconst (v := 1) hk dX12_drop_83 (by decide) ?_
          exact g_iret hk hR rfl ⟨I17732, A17732, L17732, (show Md [22] I I17732 from (Md.tr (Md.tr (Md.tr Md.rf hI17664 rfl) hI17671 rfl) hI17732 rfl)), (show Md [17, 18, 22] A A17732 from (Md.tr (Md.up3 (Md.tr (Md.tr Md.rf hA17664 rfl) hA17671 rfl) rfl) hA17732 rfl)), hV17732, 1, (by decide), (by decide), rfl, rfl⟩ dX12_drop_84
        · skip
          refine g_aload_n hk dX12_drop_29 rfl ?_
          refine gM_r0_36 hk hin12 (List.mem_cons_of_mem _ (List.mem_append_left _ (List.mem_of_getElem? (i := 7) rfl))) dX12_drop_30 ?_
          refine g_iconst (v := 1) hk dX12_drop_33 (by decide) ?_
          refine g_iload_n hk dX12_drop_34 rfl ?_
          refine g_iadd hk dX12_drop_35 ?_
          refine g_topi (fun y17733 ey17733 => ?_)
          have hy17733 : y17733.toInt = 1 + x17668.toInt := i32_add ey17733 rfl rfl (by omega) (by omega)
          refine g_iload_n hk dX12_drop_36 rfl ?_
          refine g_iload_n hk dX12_drop_37 rfl ?_
          refine g_iadd hk dX12_drop_38 ?_
          refine g_topi (fun y17734 ey17734 => ?_)
          have hy17734 : y17734.toInt = x17668.toInt + z1.toInt := i32_add ey17734 rfl rfl (by omega) (by omega)
          refine g_aload_n hk dX12_drop_39 rfl ?_
          refine gM_r0_35 hk hin12 (List.mem_cons_of_mem _ (List.mem_append_left _ (List.mem_of_getElem? (i := 0) rfl))) dX12_drop_40 ?_
          refine g_iconst (v := 0) hk dX12_drop_43 (by decide) ?_
          refine lM_17 (v := (A 17 0)) hk (vp_in_iff.mpr ⟨by decide, by decide⟩) ((congrFun (hA17671 17 rfl) _).trans (congrFun (hA17664 17 rfl) _)) dX12_drop_44 ?_
          refine g_icmp_ge (tgt := 61) (a := y17734.toInt) (b := (A 17 0).toInt) hk dX12_drop_45 (by decide) rfl rfl (fun c17735 => ?_) (fun c17735 => ?_)
          · skip
            refine g_iconst (v := 0) hk dX12_drop_61 (by decide) ?_
            have k17736 : (0 : Int32).toInt = 0 := rfl
            refine sM_18 (j := y17733.toNatClampNeg) hk (vp_in_iff.mpr ⟨by omega, by omega⟩) rfl dX12_drop_62 ?_
            have hS17737 : (up3 A17671 18 (y17733.toNatClampNeg) 0) 18 0 = (A17671 18 0) := (up3_ne (by have := cl_int (y := y17733) (by omega); omega)).trans (show A17671 18 0 = (A17671 18 0) from rfl)
            have hS17738 : (up3 A17671 18 (y17733.toNatClampNeg) 0) 18 164 = (A17671 18 164) := (up3_ne (by have := cl_int (y := y17733) (by omega); omega)).trans (show A17671 18 164 = (A17671 18 164) from rfl)
            obtain ⟨y17739, ey17739⟩ : ∃ y : Int32, y = x17668 + Int32.ofInt 1 := ⟨_, rfl⟩
            have hy17739 : y17739.toInt = x17668.toInt + 1 := i32_add ey17739 rfl (by decide) (by omega) (by omega)
            refine g_iinc (v := y17739) (lv' := [(2, .int y17739), (0, .ref (r 0)), (1, .int z1)]) hk 0 dX12_drop_63 rfl ey17739.symm (by decide) rfl ?_
            refine g_goto (tgt := 22) hk dX12_drop_66 (by decide) ?_
            exact g_lv (List.forall_mem_cons.mpr ⟨List.mem_of_getElem? (i := 0) rfl, (List.forall_mem_cons.mpr ⟨List.mem_of_getElem? (i := 1) rfl, (List.forall_mem_cons.mpr ⟨List.mem_of_getElem? (i := 2) rfl, (fun _ h => absurd h List.not_mem_nil)⟩)⟩)⟩) (ih17728 y17739 I17671 (up3 A17671 18 (y17733.toNatClampNeg) 0) L17671 (show Md [] I17664 I17671 from Md.tr hI17671 (show Md [] I17671 I17671 from Md.rf) rfl) (show Md [18] A17664 (up3 A17671 18 (y17733.toNatClampNeg) 0) from Md.tr hA17671 (show Md [18] A17671 (up3 A17671 18 (y17733.toNatClampNeg) 0) from (Md.up3 Md.rf rfl)) rfl) ⟨(IvM_f1 (I := I17671) (A := A17671) hV17671), (IvM_f2 (I := I17671) (A := A17671) hV17671), (IvM_f3 (I := I17671) (A := A17671) hV17671), (IvM_f4 (I := I17671) (A := A17671) hV17671), (IvM_f6 (I := I17671) (A := A17671) hV17671), (IvM_f8 (I := I17671) (A := A17671) hV17671), (IvM_f15 (I := I17671) (A := A17671) hV17671), (IvM_f16 (I := I17671) (A := A17671) hV17671), (IvM_f17 (I := I17671) (A := A17671) hV17671), (IvM_f18 (I := I17671) (A := A17671) hV17671), (IvM_f22 (I := I17671) (A := A17671) hV17671), (IvM_f23 (I := I17671) (A := A17671) hV17671), (IvM_f24 (I := I17671) (A := A17671) hV17671), (IvM_a11 (I := I17671) (A := A17671) hV17671), (IvM_a26 (I := I17671) (A := A17671) hV17671), (IvM_s8_0 (I := I17671) (A := A17671) hV17671), (IvM_s8_1 (I := I17671) (A := A17671) hV17671), (IvM_s10_0 (I := I17671) (A := A17671) hV17671), (IvM_s10_1 (I := I17671) (A := A17671) hV17671), (IvM_s17_0 (I := I17671) (A := A17671) hV17671), (IvM_s17_164 (I := I17671) (A := A17671) hV17671), (IvM_lv (I := I17671) (A := A17671) hV17671), (IvM_sd (I := I17671) (A := A17671) hV17671), (IvM_nq (I := I17671) (A := A17671) hV17671), (IvM_hr (I := I17671) (A := A17671) hV17671), (IvM_hh (I := I17671) (A := A17671) hV17671), trivial⟩ (by omega) (by omega) (by first | (rw [show ((up3 A17671 18 (y17733.toNatClampNeg) 0) 18 0) = (A17671 18 0) from hS17737] <;> omega) | omega) (by first | (rw [show ((up3 A17671 18 (y17733.toNatClampNeg) 0) 18 164) = (A17671 18 164) from hS17738] <;> omega) | omega) (by omega) (by omega))
          · skip
            refine g_aload_n hk dX12_drop_48 rfl ?_
            refine gM_r0_35 hk hin12 (List.mem_cons_of_mem _ (List.mem_append_left _ (List.mem_of_getElem? (i := 0) rfl))) dX12_drop_49 ?_
            refine g_iconst (v := 1) hk dX12_drop_52 (by decide) ?_
            refine g_iload_n hk dX12_drop_53 rfl ?_
            refine g_iadd hk dX12_drop_54 ?_
            refine g_topi (fun y17740 ey17740 => ?_)
            have hy17740 : y17740.toInt = 1 + x17668.toInt := i32_add ey17740 rfl rfl (by omega) (by omega)
            refine g_iload_n hk dX12_drop_55 rfl ?_
            refine g_iadd hk dX12_drop_56 ?_
            refine g_topi (fun y17741 ey17741 => ?_)
            have hy17741 : y17741.toInt = y17740.toInt + z1.toInt := i32_add ey17741 rfl rfl (by omega) (by omega)
            refine lM_17 (v := (A 17 y17741.toNatClampNeg)) hk (vp_in_iff.mpr ⟨by omega, by omega⟩) ((congrFun (hA17671 17 rfl) _).trans (congrFun (hA17664 17 rfl) _)) dX12_drop_57 ?_
            refine g_goto (tgt := 62) hk dX12_drop_58 (by decide) ?_
            refine sM_18 (j := y17733.toNatClampNeg) hk (vp_in_iff.mpr ⟨by omega, by omega⟩) rfl dX12_drop_62 ?_
            have hS17742 : (up3 A17671 18 (y17733.toNatClampNeg) (A 17 y17741.toNatClampNeg)) 18 0 = (A17671 18 0) := (up3_ne (by have := cl_int (y := y17733) (by omega); omega)).trans (show A17671 18 0 = (A17671 18 0) from rfl)
            have hS17743 : (up3 A17671 18 (y17733.toNatClampNeg) (A 17 y17741.toNatClampNeg)) 18 164 = (A17671 18 164) := (up3_ne (by have := cl_int (y := y17733) (by omega); omega)).trans (show A17671 18 164 = (A17671 18 164) from rfl)
            obtain ⟨y17744, ey17744⟩ : ∃ y : Int32, y = x17668 + Int32.ofInt 1 := ⟨_, rfl⟩
            have hy17744 : y17744.toInt = x17668.toInt + 1 := i32_add ey17744 rfl (by decide) (by omega) (by omega)
            refine g_iinc (v := y17744) (lv' := [(2, .int y17744), (0, .ref (r 0)), (1, .int z1)]) hk 0 dX12_drop_63 rfl ey17744.symm (by decide) rfl ?_
            refine g_goto (tgt := 22) hk dX12_drop_66 (by decide) ?_
            exact g_lv (List.forall_mem_cons.mpr ⟨List.mem_of_getElem? (i := 0) rfl, (List.forall_mem_cons.mpr ⟨List.mem_of_getElem? (i := 1) rfl, (List.forall_mem_cons.mpr ⟨List.mem_of_getElem? (i := 2) rfl, (fun _ h => absurd h List.not_mem_nil)⟩)⟩)⟩) (ih17728 y17744 I17671 (up3 A17671 18 (y17733.toNatClampNeg) (A 17 y17741.toNatClampNeg)) L17671 (show Md [] I17664 I17671 from Md.tr hI17671 (show Md [] I17671 I17671 from Md.rf) rfl) (show Md [18] A17664 (up3 A17671 18 (y17733.toNatClampNeg) (A 17 y17741.toNatClampNeg)) from Md.tr hA17671 (show Md [18] A17671 (up3 A17671 18 (y17733.toNatClampNeg) (A 17 y17741.toNatClampNeg)) from (Md.up3 Md.rf rfl)) rfl) ⟨(IvM_f1 (I := I17671) (A := A17671) hV17671), (IvM_f2 (I := I17671) (A := A17671) hV17671), (IvM_f3 (I := I17671) (A := A17671) hV17671), (IvM_f4 (I := I17671) (A := A17671) hV17671), (IvM_f6 (I := I17671) (A := A17671) hV17671), (IvM_f8 (I := I17671) (A := A17671) hV17671), (IvM_f15 (I := I17671) (A := A17671) hV17671), (IvM_f16 (I := I17671) (A := A17671) hV17671), (IvM_f17 (I := I17671) (A := A17671) hV17671), (IvM_f18 (I := I17671) (A := A17671) hV17671), (IvM_f22 (I := I17671) (A := A17671) hV17671), (IvM_f23 (I := I17671) (A := A17671) hV17671), (IvM_f24 (I := I17671) (A := A17671) hV17671), (IvM_a11 (I := I17671) (A := A17671) hV17671), (IvM_a26 (I := I17671) (A := A17671) hV17671), (IvM_s8_0 (I := I17671) (A := A17671) hV17671), (IvM_s8_1 (I := I17671) (A := A17671) hV17671), (IvM_s10_0 (I := I17671) (A := A17671) hV17671), (IvM_s10_1 (I := I17671) (A := A17671) hV17671), (IvM_s17_0 (I := I17671) (A := A17671) hV17671), (IvM_s17_164 (I := I17671) (A := A17671) hV17671), (IvM_lv (I := I17671) (A := A17671) hV17671), (IvM_sd (I := I17671) (A := A17671) hV17671), (IvM_nq (I := I17671) (A := A17671) hV17671), (IvM_hr (I := I17671) (A := A17671) hV17671), (IvM_hh (I := I17671) (A := A17671) hV17671), trivial⟩ (by omega) (by omega) (by first | (rw [show ((up3 A17671 18 (y17733.toNatClampNeg) (A 17 y17741.toNatClampNeg)) 18 0) = (A17671 18 0) from hS17742] <;> omega) | omega) (by first | (rw [show ((up3 A17671 18 (y17733.toNatClampNeg) (A 17 y17741.toNatClampNeg)) 18 164) = (A17671 18 164) from hS17743] <;> omega) | omega) (by omega) (by omega))
    have k17745 : (0 : Int32).toInt = 0 := rfl
    obtain ⟨n17746, n17746a, n17746b⟩ : ∃ n : Nat, 161 - (0 : Int32).toInt < (n : Int) ∧ 0 < n := ⟨((161 - (0 : Int32).toInt : Int)).toNat + 1, by omega, by omega⟩
    exact lp17725 n17746 0 I17664 A17664 L17664 Md.rf Md.rf hV17664 (by omega) (by omega) (by omega) (by omega) n17746a n17746b
def wo_j157_X12_set : List Cond := [Cond.methodLink RX12 244 yX12_in, Cond.static yX12_in, Cond.initialized RX12, Cond.fieldLink RX12 70 "WarpDeskModel" "now" "[I", Cond.methodLink RX12 323 yX12_copies, Cond.instanceMethod yX12_copies, Cond.selects RX12 yX12_copies yX12_copies, Cond.fieldLink RX12 73 "WarpDeskModel" "row" "[I", Cond.methodLink RX12 326 yX12_records, Cond.instanceMethod yX12_records, Cond.selects RX12 yX12_records yX12_records]
def wz_j157_X12_set : List Cond := .code yX12_set cX12_set 5 (some .boolean) :: (wo_j157_X12_set ++ (wsX120 ++ (wz_j145_X12_in ++ (wz_j151_X12_copies ++ (wz_j152_X12_records ++ ([] : List Cond))))))
theorem zg_j157_X12_set : ∀ w ∈ wz_j157_X12_set, goodWord w = true := zg_cons rfl (zg_app (by decide +kernel) (zg_app zgU_wsX120 (zg_app zg_j145_X12_in (zg_app zg_j151_X12_copies (zg_app zg_j152_X12_records zg_nil)))))
theorem zi_j157_X12_set : ∀ w ∈ wz_j157_X12_set, w ∈ lw_tbl := zi_cons zw_1705 (zi_app (zi_cons zw_1656 (zi_cons zw_1657 (zi_cons zw_115 (zi_cons zw_1413 (zi_cons zw_1679 (zi_cons zw_1681 (zi_cons zw_70 (zi_cons zw_1414 (zi_cons zw_1683 (zi_cons zw_1685 (zi_cons zw_71 zi_nil))))))))))) (zi_app inX12 (zi_app zi_j145_X12_in (zi_app zi_j151_X12_copies (zi_app zi_j152_X12_records zi_nil)))))
set_option maxHeartbeats 4000000 in
set_option maxRecDepth 100000 in
theorem j157_X12_set (l : Launch) (D : va_G) (zt : Nat × Nat × Nat × (Nat → Nat) × (Nat → Nat)) (r : Nat → Nat) (g : Nat → ClassId) (I : Nat → Int32) (A : Nat → Nat → Int32) (L : Nat → Nat → Int64) (z1 : Int32) (z2 : Int32) (hIv : IvM I A) : GM l D zt (tyM g) yX12_set wz_j157_X12_set ({ frames := 2, cells := 0, slots := 0, locals := 42 } : Room) [.ref (r 0), .int z1, .int z2] (wM r g I A L) (fun v _ w' => ∃ (I' : Nat → Int32) (A' : Nat → Nat → Int32) (L' : Nat → Nat → Int64), Md [22] I I' ∧ Md [17, 18, 22] A A' ∧ IvM I' A' ∧ ∃ y0 : Int32, (0 ≤ y0.toInt) ∧ (y0.toInt ≤ 1) ∧ v = some (.int y0) ∧ w' = wM r g I' A' L') 0 0 := by
  refine GM.of (cc := cX12_set) (maxL := 5) (ret := (some .boolean)) (own := RX12) (lv := [(0, .ref (r 0)), (1, .int z1), (2, .int z2)]) (by decide) rfl rfl (Nat.le_of_ble_eq_true rfl) rfl (fun κ sz hk hR hN => ?_)
  have hin12 : ∀ w ∈ u_ws RX12 TX12 55, w ∈ wz_j157_X12_set := fun w h => (List.mem_cons_of_mem _ (List.mem_append_right _ (List.mem_append_left _ h)))
  refine g_iload_n hk dX12_set_0 rfl ?_
  refine g_iconst (v := 0) hk dX12_set_1 (by decide) ?_
  refine g_iconst (v := 3) hk dX12_set_2 (by decide) ?_
  have k17747 : (0 : Int32).toInt = 0 := rfl
  have k17748 : (3 : Int32).toInt = 3 := rfl
  refine g_callS (n := 3) hk (j145_X12_in l D zt r g I A L z1 0 3 hIv) (SP.same _) (fun _ h => h) (gi_S (List.mem_cons_of_mem _ (List.mem_append_left _ (List.mem_of_getElem? (i := 0) rfl))) (List.mem_cons_of_mem _ (List.mem_append_left _ (List.mem_of_getElem? (i := 1) rfl))) (List.mem_cons_of_mem _ (List.mem_append_left _ (List.mem_of_getElem? (i := 2) rfl))) (gi_sub (fun w h => (List.mem_cons_of_mem _ (List.mem_append_right _ (List.mem_append_right _ (List.mem_append_left _ h))))) zg_j145_X12_in)) rfl rfl rfl (by decide +kernel) ⟨Nat.le_of_ble_eq_true rfl, Nat.le_of_ble_eq_true rfl⟩ rfl rfl (Nat.le_of_ble_eq_true rfl) ⟨Nat.le_of_ble_eq_true rfl, Nat.le_of_ble_eq_true rfl⟩ dX12_set_3 (fun v ty' w' hp hk' => ?_)
  rcases hp with ⟨c17749, rfl, rfl⟩ | ⟨c17751, c17752, rfl, rfl⟩
  · skip
    have b17754l := Int32.le_toInt z1
    have b17754h := Int32.toInt_lt z1
    show GW κ 5 0 0 (wM r g I A L) 6 [(0, .ref (r 0)), (1, .int z1), (2, .int z2)] [.int 0]
    refine g_if_eq (tgt := 23) (a := 0) hk dX12_set_6 (by decide) rfl (fun _ => ?_) (fun z9 => absurd (show (0 : Int) = (0 : Int) from by decide) z9)
    refine g_iconst (v := 0) hk dX12_set_23 (by decide) ?_
    exact g_iret hk hR rfl ⟨I, A, L, (show Md [22] I I from Md.rf), (show Md [17, 18, 22] A A from Md.rf), hIv, 0, (by decide), (by decide), rfl, rfl⟩ dX12_set_24
  · skip
    show GW κ 5 0 0 (wM r g I A L) 6 [(0, .ref (r 0)), (1, .int z1), (2, .int z2)] [.int 1]
    refine g_if_eq (tgt := 23) (a := 1) hk dX12_set_6 (by decide) rfl (fun z9 => absurd z9 (show ¬ ((1 : Int) = (0 : Int)) from by decide)) (fun _ => ?_)
    refine g_aload_n hk dX12_set_9 rfl ?_
    refine gM_r0_35 hk hin12 (List.mem_cons_of_mem _ (List.mem_append_left _ (List.mem_of_getElem? (i := 3) rfl))) dX12_set_10 ?_
    refine g_sipush (v := 161) hk dX12_set_13 (by decide) ?_
    refine g_iload_n hk dX12_set_16 rfl ?_
    refine g_iadd hk dX12_set_17 ?_
    refine g_topi (fun y17755 ey17755 => ?_)
    have hy17755 : y17755.toInt = 161 + z1.toInt := i32_add ey17755 rfl rfl (by omega) (by omega)
    refine lM_17 (v := (A 17 y17755.toNatClampNeg)) hk (vp_in_iff.mpr ⟨by omega, by omega⟩) rfl dX12_set_18 ?_
    refine g_iload_n hk dX12_set_19 rfl ?_
    have b17756l := Int32.le_toInt (A 17 y17755.toNatClampNeg)
    have b17756h := Int32.toInt_lt (A 17 y17755.toNatClampNeg)
    have b17757l := Int32.le_toInt z2
    have b17757h := Int32.toInt_lt z2
    refine g_icmp_ne (tgt := 25) (a := (A 17 y17755.toNatClampNeg).toInt) (b := z2.toInt) hk dX12_set_20 (by decide) rfl rfl (fun c17758 => ?_) (fun c17758 => ?_)
    · skip
      refine g_iload_n hk dX12_set_25 rfl ?_
      refine g_iconst (v := 3) hk dX12_set_26 (by decide) ?_
      refine g_icmp_ne (tgt := 34) (a := z1.toInt) (b := 3) hk dX12_set_27 (by decide) rfl rfl (fun c17759 => ?_) (fun c17759 => ?_)
      · skip
        refine g_iconst (v := 0) hk dX12_set_34 (by decide) ?_
        refine g_istore_n (lv' := [(3, .int 0), (0, .ref (r 0)), (1, .int z1), (2, .int z2)]) hk dX12_set_35 (by decide) rfl ?_
        refine g_iload_n hk dX12_set_36 rfl ?_
        refine g_if_ne (tgt := 45) (a := z1.toInt) hk dX12_set_37 (by decide) rfl (fun c17760 => ?_) (fun c17760 => ?_)
        · skip
          refine g_iload_n hk dX12_set_45 rfl ?_
          refine g_iconst (v := 1) hk dX12_set_46 (by decide) ?_
          refine g_icmp_ne (tgt := 54) (a := z1.toInt) (b := 1) hk dX12_set_47 (by decide) rfl rfl (fun c17761 => ?_) (fun c17761 => ?_)
          · skip
            refine g_iload_n hk dX12_set_54 rfl ?_
            refine g_iconst (v := 2) hk dX12_set_55 (by decide) ?_
            refine g_icmp_ne (tgt := 63) (a := z1.toInt) (b := 2) hk dX12_set_56 (by decide) rfl rfl (fun z9 => absurd z9 (show ¬ (z1.toInt ≠ 2) from by omega)) (fun _ => ?_)
            refine g_iconst (v := 1) hk dX12_set_59 (by decide) ?_
            refine g_goto (tgt := 65) hk dX12_set_60 (by decide) ?_
            refine g_istore (lv' := [(4, .int 1), (3, .int 0), (0, .ref (r 0)), (1, .int z1), (2, .int z2)]) hk dX12_set_65 (by decide) rfl ?_
            refine g_iload_n hk dX12_set_67 rfl ?_
            refine g_iload_n hk dX12_set_68 rfl ?_
            refine g_iload hk dX12_set_69 rfl ?_
            have k17762 : (1 : Int32).toInt = 1 := rfl
            refine g_callS (n := 3) hk (j145_X12_in l D zt r g I A L z2 0 1 hIv) (SP.same _) (fun _ h => h) (gi_S (List.mem_cons_of_mem _ (List.mem_append_left _ (List.mem_of_getElem? (i := 0) rfl))) (List.mem_cons_of_mem _ (List.mem_append_left _ (List.mem_of_getElem? (i := 1) rfl))) (List.mem_cons_of_mem _ (List.mem_append_left _ (List.mem_of_getElem? (i := 2) rfl))) (gi_sub (fun w h => (List.mem_cons_of_mem _ (List.mem_append_right _ (List.mem_append_right _ (List.mem_append_left _ h))))) zg_j145_X12_in)) rfl rfl rfl (by decide +kernel) ⟨Nat.le_of_ble_eq_true rfl, Nat.le_of_ble_eq_true rfl⟩ rfl rfl (Nat.le_of_ble_eq_true rfl) ⟨Nat.le_of_ble_eq_true rfl, Nat.le_of_ble_eq_true rfl⟩ dX12_set_71 (fun v ty' w' hp hk' => ?_)
            rcases hp with ⟨c17763, rfl, rfl⟩ | ⟨c17765, c17766, rfl, rfl⟩
            · skip
              show GW κ 5 0 0 (wM r g I A L) 74 [(4, .int 1), (3, .int 0), (0, .ref (r 0)), (1, .int z1), (2, .int z2)] [.int 0]
              refine g_if_ne (tgt := 79) (a := 0) hk dX12_set_74 (by decide) rfl (fun z9 => absurd z9 (show ¬ ((0 : Int) ≠ (0 : Int)) from by decide)) (fun _ => ?_)
              refine g_iconst (v := 0) hk dX12_set_77 (by decide) ?_
              exact g_iret hk hR rfl ⟨I, A, L, (show Md [22] I I from Md.rf), (show Md [17, 18, 22] A A from Md.rf), hIv, 0, (by decide), (by decide), rfl, rfl⟩ dX12_set_78
            · skip
              show GW κ 5 0 0 (wM r g I A L) 74 [(4, .int 1), (3, .int 0), (0, .ref (r 0)), (1, .int z1), (2, .int z2)] [.int 1]
              refine g_if_ne (tgt := 79) (a := 1) hk dX12_set_74 (by decide) rfl (fun _ => ?_) (fun z9 => absurd (show (1 : Int) ≠ (0 : Int) from by decide) z9)
              refine g_aload_n hk dX12_set_79 rfl ?_
              refine g_callV (n := 0) hk (j151_X12_copies l D zt r g I A L  hIv) (SP.same _) (fun _ h => h) (gi_V (List.mem_cons_of_mem _ (List.mem_append_left _ (List.mem_of_getElem? (i := 4) rfl))) (List.mem_cons_of_mem _ (List.mem_append_left _ (List.mem_of_getElem? (i := 5) rfl))) (List.mem_cons_of_mem _ (List.mem_append_left _ (List.mem_of_getElem? (i := 6) rfl))) (List.mem_cons_of_mem _ (List.mem_append_left _ (List.mem_of_getElem? (i := 2) rfl))) (gi_sub (fun w h => (List.mem_cons_of_mem _ (List.mem_append_right _ (List.mem_append_right _ (List.mem_append_right _ (List.mem_append_left _ h)))))) zg_j151_X12_copies)) rfl rfl rfl (by decide +kernel) ⟨Nat.le_of_ble_eq_true rfl, Nat.le_of_ble_eq_true rfl⟩ 0 rfl rfl rfl rfl (Nat.le_of_ble_eq_true rfl) ⟨Nat.le_of_ble_eq_true rfl, Nat.le_of_ble_eq_true rfl⟩ dX12_set_80 (fun v ty' w' hp hk' => ?_)
              obtain ⟨I17769, A17769, L17769, hI17769, hA17769, hV17769, r17770, r17771, rfl, rfl⟩ := hp
              have f17772 := IvM_s17_0 hIv
              have f17773 := IvM_s17_164 hIv
              show GW κ 5 0 0 (wM r g I17769 A17769 L17769) 83 [(4, .int 1), (3, .int 0), (0, .ref (r 0)), (1, .int z1), (2, .int z2)] []
              refine g_aload_n hk dX12_set_83 rfl ?_
              refine gM_r0_36 hk hin12 (List.mem_cons_of_mem _ (List.mem_append_left _ (List.mem_of_getElem? (i := 7) rfl))) dX12_set_84 ?_
              refine g_sipush (v := 161) hk dX12_set_87 (by decide) ?_
              refine g_iload_n hk dX12_set_90 rfl ?_
              refine g_iadd hk dX12_set_91 ?_
              refine g_topi (fun y17774 ey17774 => ?_)
              have hy17774 : y17774.toInt = 161 + z1.toInt := i32_add ey17774 rfl rfl (by omega) (by omega)
              refine g_iload_n hk dX12_set_92 rfl ?_
              refine sM_18 (j := y17774.toNatClampNeg) hk (vp_in_iff.mpr ⟨by omega, by omega⟩) rfl dX12_set_93 ?_
              have hS17775 : (up3 A17769 18 (y17774.toNatClampNeg) z2) 18 0 = (A17769 18 0) := (up3_ne (by have := cl_int (y := y17774) (by omega); omega)).trans (show A17769 18 0 = (A17769 18 0) from rfl)
              have hS17776 : (up3 A17769 18 (y17774.toNatClampNeg) z2) 18 164 = (A17769 18 164) := (up3_ne (by have := cl_int (y := y17774) (by omega); omega)).trans (show A17769 18 164 = (A17769 18 164) from rfl)
              refine g_aload_n hk dX12_set_94 rfl ?_
              refine g_callV (n := 0) hk (j152_X12_records l D zt r g I17769 (up3 A17769 18 (y17774.toNatClampNeg) z2) L17769  ⟨(IvM_f1 (I := I17769) (A := A17769) hV17769), (IvM_f2 (I := I17769) (A := A17769) hV17769), (IvM_f3 (I := I17769) (A := A17769) hV17769), (IvM_f4 (I := I17769) (A := A17769) hV17769), (IvM_f6 (I := I17769) (A := A17769) hV17769), (IvM_f8 (I := I17769) (A := A17769) hV17769), (IvM_f15 (I := I17769) (A := A17769) hV17769), (IvM_f16 (I := I17769) (A := A17769) hV17769), (IvM_f17 (I := I17769) (A := A17769) hV17769), (IvM_f18 (I := I17769) (A := A17769) hV17769), (IvM_f22 (I := I17769) (A := A17769) hV17769), (IvM_f23 (I := I17769) (A := A17769) hV17769), (IvM_f24 (I := I17769) (A := A17769) hV17769), (IvM_a11 (I := I17769) (A := A17769) hV17769), (IvM_a26 (I := I17769) (A := A17769) hV17769), (IvM_s8_0 (I := I17769) (A := A17769) hV17769), (IvM_s8_1 (I := I17769) (A := A17769) hV17769), (IvM_s10_0 (I := I17769) (A := A17769) hV17769), (IvM_s10_1 (I := I17769) (A := A17769) hV17769), (IvM_s17_0 (I := I17769) (A := A17769) hV17769), (IvM_s17_164 (I := I17769) (A := A17769) hV17769), (IvM_lv (I := I17769) (A := A17769) hV17769), (IvM_sd (I := I17769) (A := A17769) hV17769), (IvM_nq (I := I17769) (A := A17769) hV17769), (IvM_hr (I := I17769) (A := A17769) hV17769), (IvM_hh (I := I17769) (A := A17769) hV17769), trivial⟩ (by first | (rw [show ((up3 A17769 18 (y17774.toNatClampNeg) z2) 18 0) = (A17769 18 0) from hS17775] <;> omega) | omega) (by first | (rw [show ((up3 A17769 18 (y17774.toNatClampNeg) z2) 18 0) = (A17769 18 0) from hS17775] <;> omega) | omega) (by first | (rw [show ((up3 A17769 18 (y17774.toNatClampNeg) z2) 18 164) = (A17769 18 164) from hS17776] <;> omega) | omega)) (SP.same _) (fun _ h => h) (gi_V (List.mem_cons_of_mem _ (List.mem_append_left _ (List.mem_of_getElem? (i := 8) rfl))) (List.mem_cons_of_mem _ (List.mem_append_left _ (List.mem_of_getElem? (i := 9) rfl))) (List.mem_cons_of_mem _ (List.mem_append_left _ (List.mem_of_getElem? (i := 10) rfl))) (List.mem_cons_of_mem _ (List.mem_append_left _ (List.mem_of_getElem? (i := 2) rfl))) (gi_sub (fun w h => (List.mem_cons_of_mem _ (List.mem_append_right _ (List.mem_append_right _ (List.mem_append_right _ (List.mem_append_right _ (List.mem_append_left _ h))))))) zg_j152_X12_records)) rfl rfl rfl (by decide +kernel) ⟨Nat.le_of_ble_eq_true rfl, Nat.le_of_ble_eq_true rfl⟩ 0 rfl rfl rfl rfl (Nat.le_of_ble_eq_true rfl) ⟨Nat.le_of_ble_eq_true rfl, Nat.le_of_ble_eq_true rfl⟩ dX12_set_95 (fun v ty' w' hp hk' => ?_)
              obtain ⟨I17778, A17778, L17778, hI17778, hA17778, hV17778, rfl, rfl⟩ := hp
              show GW κ 5 0 0 (wM r g I17778 A17778 L17778) 98 [(4, .int 1), (3, .int 0), (0, .ref (r 0)), (1, .int z1), (2, .int z2)] []
              refine g_iconst (v := 1) hk dX12_set_98 (by decide) ?_
              exact g_iret hk hR rfl ⟨I17778, A17778, L17778, (show Md [22] I I17778 from (Md.tr (Md.tr Md.rf hI17769 rfl) hI17778 rfl)), (show Md [17, 18, 22] A A17778 from (Md.tr (Md.up3 (Md.tr Md.rf hA17769 rfl) rfl) hA17778 rfl)), hV17778, 1, (by decide), (by decide), rfl, rfl⟩ dX12_set_99
          · skip
            refine g_iconst (v := 3) hk dX12_set_50 (by decide) ?_
            refine g_goto (tgt := 65) hk dX12_set_51 (by decide) ?_
            refine g_istore (lv' := [(4, .int 3), (3, .int 0), (0, .ref (r 0)), (1, .int z1), (2, .int z2)]) hk dX12_set_65 (by decide) rfl ?_
            refine g_iload_n hk dX12_set_67 rfl ?_
            refine g_iload_n hk dX12_set_68 rfl ?_
            refine g_iload hk dX12_set_69 rfl ?_
            refine g_callS (n := 3) hk (j145_X12_in l D zt r g I A L z2 0 3 hIv) (SP.same _) (fun _ h => h) (gi_S (List.mem_cons_of_mem _ (List.mem_append_left _ (List.mem_of_getElem? (i := 0) rfl))) (List.mem_cons_of_mem _ (List.mem_append_left _ (List.mem_of_getElem? (i := 1) rfl))) (List.mem_cons_of_mem _ (List.mem_append_left _ (List.mem_of_getElem? (i := 2) rfl))) (gi_sub (fun w h => (List.mem_cons_of_mem _ (List.mem_append_right _ (List.mem_append_right _ (List.mem_append_left _ h))))) zg_j145_X12_in)) rfl rfl rfl (by decide +kernel) ⟨Nat.le_of_ble_eq_true rfl, Nat.le_of_ble_eq_true rfl⟩ rfl rfl (Nat.le_of_ble_eq_true rfl) ⟨Nat.le_of_ble_eq_true rfl, Nat.le_of_ble_eq_true rfl⟩ dX12_set_71 (fun v ty' w' hp hk' => ?_)
            rcases hp with ⟨c17779, rfl, rfl⟩ | ⟨c17781, c17782, rfl, rfl⟩
            · skip
              show GW κ 5 0 0 (wM r g I A L) 74 [(4, .int 3), (3, .int 0), (0, .ref (r 0)), (1, .int z1), (2, .int z2)] [.int 0]
              refine g_if_ne (tgt := 79) (a := 0) hk dX12_set_74 (by decide) rfl (fun z9 => absurd z9 (show ¬ ((0 : Int) ≠ (0 : Int)) from by decide)) (fun _ => ?_)
              refine g_iconst (v := 0) hk dX12_set_77 (by decide) ?_
              exact g_iret hk hR rfl ⟨I, A, L, (show Md [22] I I from Md.rf), (show Md [17, 18, 22] A A from Md.rf), hIv, 0, (by decide), (by decide), rfl, rfl⟩ dX12_set_78
            · skip
              show GW κ 5 0 0 (wM r g I A L) 74 [(4, .int 3), (3, .int 0), (0, .ref (r 0)), (1, .int z1), (2, .int z2)] [.int 1]
              refine g_if_ne (tgt := 79) (a := 1) hk dX12_set_74 (by decide) rfl (fun _ => ?_) (fun z9 => absurd (show (1 : Int) ≠ (0 : Int) from by decide) z9)
              refine g_aload_n hk dX12_set_79 rfl ?_
              refine g_callV (n := 0) hk (j151_X12_copies l D zt r g I A L  hIv) (SP.same _) (fun _ h => h) (gi_V (List.mem_cons_of_mem _ (List.mem_append_left _ (List.mem_of_getElem? (i := 4) rfl))) (List.mem_cons_of_mem _ (List.mem_append_left _ (List.mem_of_getElem? (i := 5) rfl))) (List.mem_cons_of_mem _ (List.mem_append_left _ (List.mem_of_getElem? (i := 6) rfl))) (List.mem_cons_of_mem _ (List.mem_append_left _ (List.mem_of_getElem? (i := 2) rfl))) (gi_sub (fun w h => (List.mem_cons_of_mem _ (List.mem_append_right _ (List.mem_append_right _ (List.mem_append_right _ (List.mem_append_left _ h)))))) zg_j151_X12_copies)) rfl rfl rfl (by decide +kernel) ⟨Nat.le_of_ble_eq_true rfl, Nat.le_of_ble_eq_true rfl⟩ 0 rfl rfl rfl rfl (Nat.le_of_ble_eq_true rfl) ⟨Nat.le_of_ble_eq_true rfl, Nat.le_of_ble_eq_true rfl⟩ dX12_set_80 (fun v ty' w' hp hk' => ?_)
              obtain ⟨I17785, A17785, L17785, hI17785, hA17785, hV17785, r17786, r17787, rfl, rfl⟩ := hp
              have f17788 := IvM_s17_0 hIv
              have f17789 := IvM_s17_164 hIv
              show GW κ 5 0 0 (wM r g I17785 A17785 L17785) 83 [(4, .int 3), (3, .int 0), (0, .ref (r 0)), (1, .int z1), (2, .int z2)] []
              refine g_aload_n hk dX12_set_83 rfl ?_
              refine gM_r0_36 hk hin12 (List.mem_cons_of_mem _ (List.mem_append_left _ (List.mem_of_getElem? (i := 7) rfl))) dX12_set_84 ?_
              refine g_sipush (v := 161) hk dX12_set_87 (by decide) ?_
              refine g_iload_n hk dX12_set_90 rfl ?_
              refine g_iadd hk dX12_set_91 ?_
              refine g_topi (fun y17790 ey17790 => ?_)
              have hy17790 : y17790.toInt = 161 + z1.toInt := i32_add ey17790 rfl rfl (by omega) (by omega)
              refine g_iload_n hk dX12_set_92 rfl ?_
              refine sM_18 (j := y17790.toNatClampNeg) hk (vp_in_iff.mpr ⟨by omega, by omega⟩) rfl dX12_set_93 ?_
              have hS17791 : (up3 A17785 18 (y17790.toNatClampNeg) z2) 18 0 = (A17785 18 0) := (up3_ne (by have := cl_int (y := y17790) (by omega); omega)).trans (show A17785 18 0 = (A17785 18 0) from rfl)
              have hS17792 : (up3 A17785 18 (y17790.toNatClampNeg) z2) 18 164 = (A17785 18 164) := (up3_ne (by have := cl_int (y := y17790) (by omega); omega)).trans (show A17785 18 164 = (A17785 18 164) from rfl)
              refine g_aload_n hk dX12_set_94 rfl ?_
              refine g_callV (n := 0) hk (j152_X12_records l D zt r g I17785 (up3 A17785 18 (y17790.toNatClampNeg) z2) L17785  ⟨(IvM_f1 (I := I17785) (A := A17785) hV17785), (IvM_f2 (I := I17785) (A := A17785) hV17785), (IvM_f3 (I := I17785) (A := A17785) hV17785), (IvM_f4 (I := I17785) (A := A17785) hV17785), (IvM_f6 (I := I17785) (A := A17785) hV17785), (IvM_f8 (I := I17785) (A := A17785) hV17785), (IvM_f15 (I := I17785) (A := A17785) hV17785), (IvM_f16 (I := I17785) (A := A17785) hV17785), (IvM_f17 (I := I17785) (A := A17785) hV17785), (IvM_f18 (I := I17785) (A := A17785) hV17785), (IvM_f22 (I := I17785) (A := A17785) hV17785), (IvM_f23 (I := I17785) (A := A17785) hV17785), (IvM_f24 (I := I17785) (A := A17785) hV17785), (IvM_a11 (I := I17785) (A := A17785) hV17785), (IvM_a26 (I := I17785) (A := A17785) hV17785), (IvM_s8_0 (I := I17785) (A := A17785) hV17785), (IvM_s8_1 (I := I17785) (A := A17785) hV17785), (IvM_s10_0 (I := I17785) (A := A17785) hV17785), (IvM_s10_1 (I := I17785) (A := A17785) hV17785), (IvM_s17_0 (I := I17785) (A := A17785) hV17785), (IvM_s17_164 (I := I17785) (A := A17785) hV17785), (IvM_lv (I := I17785) (A := A17785) hV17785), (IvM_sd (I := I17785) (A := A17785) hV17785), (IvM_nq (I := I17785) (A := A17785) hV17785), (IvM_hr (I := I17785) (A := A17785) hV17785), (IvM_hh (I := I17785) (A := A17785) hV17785), trivial⟩ (by first | (rw [show ((up3 A17785 18 (y17790.toNatClampNeg) z2) 18 0) = (A17785 18 0) from hS17791] <;> omega) | omega) (by first | (rw [show ((up3 A17785 18 (y17790.toNatClampNeg) z2) 18 0) = (A17785 18 0) from hS17791] <;> omega) | omega) (by first | (rw [show ((up3 A17785 18 (y17790.toNatClampNeg) z2) 18 164) = (A17785 18 164) from hS17792] <;> omega) | omega)) (SP.same _) (fun _ h => h) (gi_V (List.mem_cons_of_mem _ (List.mem_append_left _ (List.mem_of_getElem? (i := 8) rfl))) (List.mem_cons_of_mem _ (List.mem_append_left _ (List.mem_of_getElem? (i := 9) rfl))) (List.mem_cons_of_mem _ (List.mem_append_left _ (List.mem_of_getElem? (i := 10) rfl))) (List.mem_cons_of_mem _ (List.mem_append_left _ (List.mem_of_getElem? (i := 2) rfl))) (gi_sub (fun w h => (List.mem_cons_of_mem _ (List.mem_append_right _ (List.mem_append_right _ (List.mem_append_right _ (List.mem_append_right _ (List.mem_append_left _ h))))))) zg_j152_X12_records)) rfl rfl rfl (by decide +kernel) ⟨Nat.le_of_ble_eq_true rfl, Nat.le_of_ble_eq_true rfl⟩ 0 rfl rfl rfl rfl (Nat.le_of_ble_eq_true rfl) ⟨Nat.le_of_ble_eq_true rfl, Nat.le_of_ble_eq_true rfl⟩ dX12_set_95 (fun v ty' w' hp hk' => ?_)
              obtain ⟨I17794, A17794, L17794, hI17794, hA17794, hV17794, rfl, rfl⟩ := hp
              show GW κ 5 0 0 (wM r g I17794 A17794 L17794) 98 [(4, .int 3), (3, .int 0), (0, .ref (r 0)), (1, .int z1), (2, .int z2)] []
              refine g_iconst (v := 1) hk dX12_set_98 (by decide) ?_
              exact g_iret hk hR rfl ⟨I17794, A17794, L17794, (show Md [22] I I17794 from (Md.tr (Md.tr Md.rf hI17785 rfl) hI17794 rfl)), (show Md [17, 18, 22] A A17794 from (Md.tr (Md.up3 (Md.tr Md.rf hA17785 rfl) rfl) hA17794 rfl)), hV17794, 1, (by decide), (by decide), rfl, rfl⟩ dX12_set_99
        · skip
          refine g_bipush (v := 15) hk dX12_set_40 (by decide) ?_
          refine g_goto (tgt := 65) hk dX12_set_42 (by decide) ?_
          refine g_istore (lv' := [(4, .int 15), (3, .int 0), (0, .ref (r 0)), (1, .int z1), (2, .int z2)]) hk dX12_set_65 (by decide) rfl ?_
          refine g_iload_n hk dX12_set_67 rfl ?_
          refine g_iload_n hk dX12_set_68 rfl ?_
          refine g_iload hk dX12_set_69 rfl ?_
          have k17795 : (15 : Int32).toInt = 15 := rfl
          refine g_callS (n := 3) hk (j145_X12_in l D zt r g I A L z2 0 15 hIv) (SP.same _) (fun _ h => h) (gi_S (List.mem_cons_of_mem _ (List.mem_append_left _ (List.mem_of_getElem? (i := 0) rfl))) (List.mem_cons_of_mem _ (List.mem_append_left _ (List.mem_of_getElem? (i := 1) rfl))) (List.mem_cons_of_mem _ (List.mem_append_left _ (List.mem_of_getElem? (i := 2) rfl))) (gi_sub (fun w h => (List.mem_cons_of_mem _ (List.mem_append_right _ (List.mem_append_right _ (List.mem_append_left _ h))))) zg_j145_X12_in)) rfl rfl rfl (by decide +kernel) ⟨Nat.le_of_ble_eq_true rfl, Nat.le_of_ble_eq_true rfl⟩ rfl rfl (Nat.le_of_ble_eq_true rfl) ⟨Nat.le_of_ble_eq_true rfl, Nat.le_of_ble_eq_true rfl⟩ dX12_set_71 (fun v ty' w' hp hk' => ?_)
          rcases hp with ⟨c17796, rfl, rfl⟩ | ⟨c17798, c17799, rfl, rfl⟩
          · skip
            show GW κ 5 0 0 (wM r g I A L) 74 [(4, .int 15), (3, .int 0), (0, .ref (r 0)), (1, .int z1), (2, .int z2)] [.int 0]
            refine g_if_ne (tgt := 79) (a := 0) hk dX12_set_74 (by decide) rfl (fun z9 => absurd z9 (show ¬ ((0 : Int) ≠ (0 : Int)) from by decide)) (fun _ => ?_)
            refine g_iconst (v := 0) hk dX12_set_77 (by decide) ?_
            exact g_iret hk hR rfl ⟨I, A, L, (show Md [22] I I from Md.rf), (show Md [17, 18, 22] A A from Md.rf), hIv, 0, (by decide), (by decide), rfl, rfl⟩ dX12_set_78
          · skip
            show GW κ 5 0 0 (wM r g I A L) 74 [(4, .int 15), (3, .int 0), (0, .ref (r 0)), (1, .int z1), (2, .int z2)] [.int 1]
            refine g_if_ne (tgt := 79) (a := 1) hk dX12_set_74 (by decide) rfl (fun _ => ?_) (fun z9 => absurd (show (1 : Int) ≠ (0 : Int) from by decide) z9)
            refine g_aload_n hk dX12_set_79 rfl ?_
            refine g_callV (n := 0) hk (j151_X12_copies l D zt r g I A L  hIv) (SP.same _) (fun _ h => h) (gi_V (List.mem_cons_of_mem _ (List.mem_append_left _ (List.mem_of_getElem? (i := 4) rfl))) (List.mem_cons_of_mem _ (List.mem_append_left _ (List.mem_of_getElem? (i := 5) rfl))) (List.mem_cons_of_mem _ (List.mem_append_left _ (List.mem_of_getElem? (i := 6) rfl))) (List.mem_cons_of_mem _ (List.mem_append_left _ (List.mem_of_getElem? (i := 2) rfl))) (gi_sub (fun w h => (List.mem_cons_of_mem _ (List.mem_append_right _ (List.mem_append_right _ (List.mem_append_right _ (List.mem_append_left _ h)))))) zg_j151_X12_copies)) rfl rfl rfl (by decide +kernel) ⟨Nat.le_of_ble_eq_true rfl, Nat.le_of_ble_eq_true rfl⟩ 0 rfl rfl rfl rfl (Nat.le_of_ble_eq_true rfl) ⟨Nat.le_of_ble_eq_true rfl, Nat.le_of_ble_eq_true rfl⟩ dX12_set_80 (fun v ty' w' hp hk' => ?_)
            obtain ⟨I17802, A17802, L17802, hI17802, hA17802, hV17802, r17803, r17804, rfl, rfl⟩ := hp
            have f17805 := IvM_s17_0 hIv
            have f17806 := IvM_s17_164 hIv
            show GW κ 5 0 0 (wM r g I17802 A17802 L17802) 83 [(4, .int 15), (3, .int 0), (0, .ref (r 0)), (1, .int z1), (2, .int z2)] []
            refine g_aload_n hk dX12_set_83 rfl ?_
            refine gM_r0_36 hk hin12 (List.mem_cons_of_mem _ (List.mem_append_left _ (List.mem_of_getElem? (i := 7) rfl))) dX12_set_84 ?_
            refine g_sipush (v := 161) hk dX12_set_87 (by decide) ?_
            refine g_iload_n hk dX12_set_90 rfl ?_
            refine g_iadd hk dX12_set_91 ?_
            refine g_topi (fun y17807 ey17807 => ?_)
            have hy17807 : y17807.toInt = 161 + z1.toInt := i32_add ey17807 rfl rfl (by omega) (by omega)
            refine g_iload_n hk dX12_set_92 rfl ?_
            refine sM_18 (j := y17807.toNatClampNeg) hk (vp_in_iff.mpr ⟨by omega, by omega⟩) rfl dX12_set_93 ?_
            have hS17808 : (up3 A17802 18 (y17807.toNatClampNeg) z2) 18 0 = (A17802 18 0) := (up3_ne (by have := cl_int (y := y17807) (by omega); omega)).trans (show A17802 18 0 = (A17802 18 0) from rfl)
            have hS17809 : (up3 A17802 18 (y17807.toNatClampNeg) z2) 18 164 = (A17802 18 164) := (up3_ne (by have := cl_int (y := y17807) (by omega); omega)).trans (show A17802 18 164 = (A17802 18 164) from rfl)
            refine g_aload_n hk dX12_set_94 rfl ?_
            refine g_callV (n := 0) hk (j152_X12_records l D zt r g I17802 (up3 A17802 18 (y17807.toNatClampNeg) z2) L17802  ⟨(IvM_f1 (I := I17802) (A := A17802) hV17802), (IvM_f2 (I := I17802) (A := A17802) hV17802), (IvM_f3 (I := I17802) (A := A17802) hV17802), (IvM_f4 (I := I17802) (A := A17802) hV17802), (IvM_f6 (I := I17802) (A := A17802) hV17802), (IvM_f8 (I := I17802) (A := A17802) hV17802), (IvM_f15 (I := I17802) (A := A17802) hV17802), (IvM_f16 (I := I17802) (A := A17802) hV17802), (IvM_f17 (I := I17802) (A := A17802) hV17802), (IvM_f18 (I := I17802) (A := A17802) hV17802), (IvM_f22 (I := I17802) (A := A17802) hV17802), (IvM_f23 (I := I17802) (A := A17802) hV17802), (IvM_f24 (I := I17802) (A := A17802) hV17802), (IvM_a11 (I := I17802) (A := A17802) hV17802), (IvM_a26 (I := I17802) (A := A17802) hV17802), (IvM_s8_0 (I := I17802) (A := A17802) hV17802), (IvM_s8_1 (I := I17802) (A := A17802) hV17802), (IvM_s10_0 (I := I17802) (A := A17802) hV17802), (IvM_s10_1 (I := I17802) (A := A17802) hV17802), (IvM_s17_0 (I := I17802) (A := A17802) hV17802), (IvM_s17_164 (I := I17802) (A := A17802) hV17802), (IvM_lv (I := I17802) (A := A17802) hV17802), (IvM_sd (I := I17802) (A := A17802) hV17802), (IvM_nq (I := I17802) (A := A17802) hV17802), (IvM_hr (I := I17802) (A := A17802) hV17802), (IvM_hh (I := I17802) (A := A17802) hV17802), trivial⟩ (by first | (rw [show ((up3 A17802 18 (y17807.toNatClampNeg) z2) 18 0) = (A17802 18 0) from hS17808] <;> omega) | omega) (by first | (rw [show ((up3 A17802 18 (y17807.toNatClampNeg) z2) 18 0) = (A17802 18 0) from hS17808] <;> omega) | omega) (by first | (rw [show ((up3 A17802 18 (y17807.toNatClampNeg) z2) 18 164) = (A17802 18 164) from hS17809] <;> omega) | omega)) (SP.same _) (fun _ h => h) (gi_V (List.mem_cons_of_mem _ (List.mem_append_left _ (List.mem_of_getElem? (i := 8) rfl))) (List.mem_cons_of_mem _ (List.mem_append_left _ (List.mem_of_getElem? (i := 9) rfl))) (List.mem_cons_of_mem _ (List.mem_append_left _ (List.mem_of_getElem? (i := 10) rfl))) (List.mem_cons_of_mem _ (List.mem_append_left _ (List.mem_of_getElem? (i := 2) rfl))) (gi_sub (fun w h => (List.mem_cons_of_mem _ (List.mem_append_right _ (List.mem_append_right _ (List.mem_append_right _ (List.mem_append_right _ (List.mem_append_left _ h))))))) zg_j152_X12_records)) rfl rfl rfl (by decide +kernel) ⟨Nat.le_of_ble_eq_true rfl, Nat.le_of_ble_eq_true rfl⟩ 0 rfl rfl rfl rfl (Nat.le_of_ble_eq_true rfl) ⟨Nat.le_of_ble_eq_true rfl, Nat.le_of_ble_eq_true rfl⟩ dX12_set_95 (fun v ty' w' hp hk' => ?_)
            obtain ⟨I17811, A17811, L17811, hI17811, hA17811, hV17811, rfl, rfl⟩ := hp
            show GW κ 5 0 0 (wM r g I17811 A17811 L17811) 98 [(4, .int 15), (3, .int 0), (0, .ref (r 0)), (1, .int z1), (2, .int z2)] []
            refine g_iconst (v := 1) hk dX12_set_98 (by decide) ?_
            exact g_iret hk hR rfl ⟨I17811, A17811, L17811, (show Md [22] I I17811 from (Md.tr (Md.tr Md.rf hI17802 rfl) hI17811 rfl)), (show Md [17, 18, 22] A A17811 from (Md.tr (Md.up3 (Md.tr Md.rf hA17802 rfl) rfl) hA17811 rfl)), hV17811, 1, (by decide), (by decide), rfl, rfl⟩ dX12_set_99
      · skip
        refine g_iconst (v := 1) hk dX12_set_30 (by decide) ?_
        refine g_goto (tgt := 35) hk dX12_set_31 (by decide) ?_
        refine g_istore_n (lv' := [(3, .int 1), (0, .ref (r 0)), (1, .int z1), (2, .int z2)]) hk dX12_set_35 (by decide) rfl ?_
        refine g_iload_n hk dX12_set_36 rfl ?_
        refine g_if_ne (tgt := 45) (a := z1.toInt) hk dX12_set_37 (by decide) rfl (fun _ => ?_) (fun z9 => absurd (show z1.toInt ≠ 0 from by omega) z9)
        refine g_iload_n hk dX12_set_45 rfl ?_
        refine g_iconst (v := 1) hk dX12_set_46 (by decide) ?_
        refine g_icmp_ne (tgt := 54) (a := z1.toInt) (b := 1) hk dX12_set_47 (by decide) rfl rfl (fun _ => ?_) (fun z9 => absurd (show z1.toInt ≠ 1 from by omega) z9)
        refine g_iload_n hk dX12_set_54 rfl ?_
        refine g_iconst (v := 2) hk dX12_set_55 (by decide) ?_
        refine g_icmp_ne (tgt := 63) (a := z1.toInt) (b := 2) hk dX12_set_56 (by decide) rfl rfl (fun _ => ?_) (fun z9 => absurd (show z1.toInt ≠ 2 from by omega) z9)
        refine g_bipush (v := 99) hk dX12_set_63 (by decide) ?_
        refine g_istore (lv' := [(4, .int 99), (3, .int 1), (0, .ref (r 0)), (1, .int z1), (2, .int z2)]) hk dX12_set_65 (by decide) rfl ?_
        refine g_iload_n hk dX12_set_67 rfl ?_
        refine g_iload_n hk dX12_set_68 rfl ?_
        refine g_iload hk dX12_set_69 rfl ?_
        have k17812 : (1 : Int32).toInt = 1 := rfl
        have k17813 : (99 : Int32).toInt = 99 := rfl
        refine g_callS (n := 3) hk (j145_X12_in l D zt r g I A L z2 1 99 hIv) (SP.same _) (fun _ h => h) (gi_S (List.mem_cons_of_mem _ (List.mem_append_left _ (List.mem_of_getElem? (i := 0) rfl))) (List.mem_cons_of_mem _ (List.mem_append_left _ (List.mem_of_getElem? (i := 1) rfl))) (List.mem_cons_of_mem _ (List.mem_append_left _ (List.mem_of_getElem? (i := 2) rfl))) (gi_sub (fun w h => (List.mem_cons_of_mem _ (List.mem_append_right _ (List.mem_append_right _ (List.mem_append_left _ h))))) zg_j145_X12_in)) rfl rfl rfl (by decide +kernel) ⟨Nat.le_of_ble_eq_true rfl, Nat.le_of_ble_eq_true rfl⟩ rfl rfl (Nat.le_of_ble_eq_true rfl) ⟨Nat.le_of_ble_eq_true rfl, Nat.le_of_ble_eq_true rfl⟩ dX12_set_71 (fun v ty' w' hp hk' => ?_)
        rcases hp with ⟨c17814, rfl, rfl⟩ | ⟨c17816, c17817, rfl, rfl⟩
        · skip
          show GW κ 5 0 0 (wM r g I A L) 74 [(4, .int 99), (3, .int 1), (0, .ref (r 0)), (1, .int z1), (2, .int z2)] [.int 0]
          refine g_if_ne (tgt := 79) (a := 0) hk dX12_set_74 (by decide) rfl (fun z9 => absurd z9 (show ¬ ((0 : Int) ≠ (0 : Int)) from by decide)) (fun _ => ?_)
          refine g_iconst (v := 0) hk dX12_set_77 (by decide) ?_
          exact g_iret hk hR rfl ⟨I, A, L, (show Md [22] I I from Md.rf), (show Md [17, 18, 22] A A from Md.rf), hIv, 0, (by decide), (by decide), rfl, rfl⟩ dX12_set_78
        · skip
          show GW κ 5 0 0 (wM r g I A L) 74 [(4, .int 99), (3, .int 1), (0, .ref (r 0)), (1, .int z1), (2, .int z2)] [.int 1]
          refine g_if_ne (tgt := 79) (a := 1) hk dX12_set_74 (by decide) rfl (fun _ => ?_) (fun z9 => absurd (show (1 : Int) ≠ (0 : Int) from by decide) z9)
          refine g_aload_n hk dX12_set_79 rfl ?_
          refine g_callV (n := 0) hk (j151_X12_copies l D zt r g I A L  hIv) (SP.same _) (fun _ h => h) (gi_V (List.mem_cons_of_mem _ (List.mem_append_left _ (List.mem_of_getElem? (i := 4) rfl))) (List.mem_cons_of_mem _ (List.mem_append_left _ (List.mem_of_getElem? (i := 5) rfl))) (List.mem_cons_of_mem _ (List.mem_append_left _ (List.mem_of_getElem? (i := 6) rfl))) (List.mem_cons_of_mem _ (List.mem_append_left _ (List.mem_of_getElem? (i := 2) rfl))) (gi_sub (fun w h => (List.mem_cons_of_mem _ (List.mem_append_right _ (List.mem_append_right _ (List.mem_append_right _ (List.mem_append_left _ h)))))) zg_j151_X12_copies)) rfl rfl rfl (by decide +kernel) ⟨Nat.le_of_ble_eq_true rfl, Nat.le_of_ble_eq_true rfl⟩ 0 rfl rfl rfl rfl (Nat.le_of_ble_eq_true rfl) ⟨Nat.le_of_ble_eq_true rfl, Nat.le_of_ble_eq_true rfl⟩ dX12_set_80 (fun v ty' w' hp hk' => ?_)
          obtain ⟨I17820, A17820, L17820, hI17820, hA17820, hV17820, r17821, r17822, rfl, rfl⟩ := hp
          have f17823 := IvM_s17_0 hIv
          have f17824 := IvM_s17_164 hIv
          show GW κ 5 0 0 (wM r g I17820 A17820 L17820) 83 [(4, .int 99), (3, .int 1), (0, .ref (r 0)), (1, .int z1), (2, .int z2)] []
          refine g_aload_n hk dX12_set_83 rfl ?_
          refine gM_r0_36 hk hin12 (List.mem_cons_of_mem _ (List.mem_append_left _ (List.mem_of_getElem? (i := 7) rfl))) dX12_set_84 ?_
          refine g_sipush (v := 161) hk dX12_set_87 (by decide) ?_
          refine g_iload_n hk dX12_set_90 rfl ?_
          refine g_iadd hk dX12_set_91 ?_
          refine g_topi (fun y17825 ey17825 => ?_)
          have hy17825 : y17825.toInt = 161 + z1.toInt := i32_add ey17825 rfl rfl (by omega) (by omega)
          refine g_iload_n hk dX12_set_92 rfl ?_
          refine sM_18 (j := y17825.toNatClampNeg) hk (vp_in_iff.mpr ⟨by omega, by omega⟩) rfl dX12_set_93 ?_
          have hS17826 : (up3 A17820 18 (y17825.toNatClampNeg) z2) 18 0 = (A17820 18 0) := (up3_ne (by have := cl_int (y := y17825) (by omega); omega)).trans (show A17820 18 0 = (A17820 18 0) from rfl)
          have hS17827 : (up3 A17820 18 (y17825.toNatClampNeg) z2) 18 164 = z2 := up3_at (by have := cl_int (y := y17825) (by omega); omega)
          refine g_aload_n hk dX12_set_94 rfl ?_
          refine g_callV (n := 0) hk (j152_X12_records l D zt r g I17820 (up3 A17820 18 (y17825.toNatClampNeg) z2) L17820  ⟨(IvM_f1 (I := I17820) (A := A17820) hV17820), (IvM_f2 (I := I17820) (A := A17820) hV17820), (IvM_f3 (I := I17820) (A := A17820) hV17820), (IvM_f4 (I := I17820) (A := A17820) hV17820), (IvM_f6 (I := I17820) (A := A17820) hV17820), (IvM_f8 (I := I17820) (A := A17820) hV17820), (IvM_f15 (I := I17820) (A := A17820) hV17820), (IvM_f16 (I := I17820) (A := A17820) hV17820), (IvM_f17 (I := I17820) (A := A17820) hV17820), (IvM_f18 (I := I17820) (A := A17820) hV17820), (IvM_f22 (I := I17820) (A := A17820) hV17820), (IvM_f23 (I := I17820) (A := A17820) hV17820), (IvM_f24 (I := I17820) (A := A17820) hV17820), (IvM_a11 (I := I17820) (A := A17820) hV17820), (IvM_a26 (I := I17820) (A := A17820) hV17820), (IvM_s8_0 (I := I17820) (A := A17820) hV17820), (IvM_s8_1 (I := I17820) (A := A17820) hV17820), (IvM_s10_0 (I := I17820) (A := A17820) hV17820), (IvM_s10_1 (I := I17820) (A := A17820) hV17820), (IvM_s17_0 (I := I17820) (A := A17820) hV17820), (IvM_s17_164 (I := I17820) (A := A17820) hV17820), (IvM_lv (I := I17820) (A := A17820) hV17820), (IvM_sd (I := I17820) (A := A17820) hV17820), (IvM_nq (I := I17820) (A := A17820) hV17820), (IvM_hr (I := I17820) (A := A17820) hV17820), (IvM_hh (I := I17820) (A := A17820) hV17820), trivial⟩ (by first | (rw [show ((up3 A17820 18 (y17825.toNatClampNeg) z2) 18 0) = (A17820 18 0) from hS17826] <;> omega) | omega) (by first | (rw [show ((up3 A17820 18 (y17825.toNatClampNeg) z2) 18 0) = (A17820 18 0) from hS17826] <;> omega) | omega) (by first | (rw [show ((up3 A17820 18 (y17825.toNatClampNeg) z2) 18 164) = z2 from hS17827] <;> omega) | omega)) (SP.same _) (fun _ h => h) (gi_V (List.mem_cons_of_mem _ (List.mem_append_left _ (List.mem_of_getElem? (i := 8) rfl))) (List.mem_cons_of_mem _ (List.mem_append_left _ (List.mem_of_getElem? (i := 9) rfl))) (List.mem_cons_of_mem _ (List.mem_append_left _ (List.mem_of_getElem? (i := 10) rfl))) (List.mem_cons_of_mem _ (List.mem_append_left _ (List.mem_of_getElem? (i := 2) rfl))) (gi_sub (fun w h => (List.mem_cons_of_mem _ (List.mem_append_right _ (List.mem_append_right _ (List.mem_append_right _ (List.mem_append_right _ (List.mem_append_left _ h))))))) zg_j152_X12_records)) rfl rfl rfl (by decide +kernel) ⟨Nat.le_of_ble_eq_true rfl, Nat.le_of_ble_eq_true rfl⟩ 0 rfl rfl rfl rfl (Nat.le_of_ble_eq_true rfl) ⟨Nat.le_of_ble_eq_true rfl, Nat.le_of_ble_eq_true rfl⟩ dX12_set_95 (fun v ty' w' hp hk' => ?_)
          obtain ⟨I17829, A17829, L17829, hI17829, hA17829, hV17829, rfl, rfl⟩ := hp
          show GW κ 5 0 0 (wM r g I17829 A17829 L17829) 98 [(4, .int 99), (3, .int 1), (0, .ref (r 0)), (1, .int z1), (2, .int z2)] []
          refine g_iconst (v := 1) hk dX12_set_98 (by decide) ?_
          exact g_iret hk hR rfl ⟨I17829, A17829, L17829, (show Md [22] I I17829 from (Md.tr (Md.tr Md.rf hI17820 rfl) hI17829 rfl)), (show Md [17, 18, 22] A A17829 from (Md.tr (Md.up3 (Md.tr Md.rf hA17820 rfl) rfl) hA17829 rfl)), hV17829, 1, (by decide), (by decide), rfl, rfl⟩ dX12_set_99
    · skip
      refine g_iconst (v := 0) hk dX12_set_23 (by decide) ?_
      exact g_iret hk hR rfl ⟨I, A, L, (show Md [22] I I from Md.rf), (show Md [17, 18, 22] A A from Md.rf), hIv, 0, (by decide), (by decide), rfl, rfl⟩ dX12_set_24
def wo_j158_X12_undo : List Cond := [Cond.fieldLink RX12 209 "WarpDeskModel" "undos" "I", Cond.fieldLink RX12 70 "WarpDeskModel" "now" "[I", Cond.fieldLink RX12 85 "WarpDeskModel" "history" "[I"]
def wz_j158_X12_undo : List Cond := .code yX12_undo cX12_undo 2 (some .boolean) :: (wo_j158_X12_undo ++ (wsX120 ++ ([] : List Cond)))
theorem zg_j158_X12_undo : ∀ w ∈ wz_j158_X12_undo, goodWord w = true := zg_cons rfl (zg_app (by decide +kernel) (zg_app zgU_wsX120 zg_nil))
theorem zi_j158_X12_undo : ∀ w ∈ wz_j158_X12_undo, w ∈ lw_tbl := zi_cons zw_1709 (zi_app (zi_cons zw_1422 (zi_cons zw_1413 (zi_cons zw_1423 zi_nil))) (zi_app inX12 zi_nil))
set_option maxHeartbeats 4000000 in
set_option maxRecDepth 100000 in
theorem j158_X12_undo (l : Launch) (D : va_G) (zt : Nat × Nat × Nat × (Nat → Nat) × (Nat → Nat)) (r : Nat → Nat) (g : Nat → ClassId) (I : Nat → Int32) (A : Nat → Nat → Int32) (L : Nat → Nat → Int64) (hIv : IvM I A) : GM l D zt (tyM g) yX12_undo wz_j158_X12_undo ({ frames := 0, cells := 0, slots := 0, locals := 0 } : Room) [.ref (r 0)] (wM r g I A L) (fun v _ w' => ∃ (I' : Nat → Int32) (A' : Nat → Nat → Int32) (L' : Nat → Nat → Int64), Md [22] I I' ∧ Md [17] A A' ∧ IvM I' A' ∧ ∃ y0 : Int32, (0 ≤ y0.toInt) ∧ (y0.toInt ≤ 1) ∧ v = some (.int y0) ∧ w' = wM r g I' A' L') 0 0 := by
  refine GM.of (cc := cX12_undo) (maxL := 2) (ret := (some .boolean)) (own := RX12) (lv := [(0, .ref (r 0))]) (by decide) rfl rfl (Nat.le_of_ble_eq_true rfl) rfl (fun κ sz hk hR hN => ?_)
  have hin12 : ∀ w ∈ u_ws RX12 TX12 55, w ∈ wz_j158_X12_undo := fun w h => (List.mem_cons_of_mem _ (List.mem_append_right _ (List.mem_append_left _ h)))
  refine g_aload_n hk dX12_undo_0 rfl ?_
  refine gM_i22 (v := (I 22)) hk hin12 (List.mem_cons_of_mem _ (List.mem_append_left _ (List.mem_of_getElem? (i := 0) rfl))) dX12_undo_1 rfl ?_
  have f17830 := IvM_f22 hIv
  refine g_if_ne (tgt := 9) (a := (I 22).toInt) hk dX12_undo_4 (by decide) rfl (fun c17831 => ?_) (fun c17831 => ?_)
  · skip
    refine g_aload_n hk dX12_undo_9 rfl ?_
    refine g_dup hk dX12_undo_10 rfl ?_
    refine gM_i22 (v := (I 22)) hk hin12 (List.mem_cons_of_mem _ (List.mem_append_left _ (List.mem_of_getElem? (i := 0) rfl))) dX12_undo_11 rfl ?_
    refine g_iconst (v := 1) hk dX12_undo_14 (by decide) ?_
    refine g_isub hk dX12_undo_15 ?_
    refine g_topi (fun y17832 ey17832 => ?_)
    have hy17832 : y17832.toInt = (I 22).toInt - 1 := i32_sub ey17832 rfl rfl (by omega) (by omega)
    refine pM_i22 hk hin12 (List.mem_cons_of_mem _ (List.mem_append_left _ (List.mem_of_getElem? (i := 0) rfl))) dX12_undo_16 ?_
    refine g_iconst (v := 0) hk dX12_undo_19 (by decide) ?_
    refine g_istore_n (lv' := [(1, .int 0), (0, .ref (r 0))]) hk dX12_undo_20 (by decide) rfl ?_
    have lp17833 : ∀ (n17835 k17834 : Nat), k17834 + n17835 = 165 → GW κ 2 0 0 (wM r g (upd I 22 y17832) (up2 A 17 (cpo (fun k => A 22 (165 * y17832.toNatClampNeg + k)) (A 17) 0 k17834)) L) 21 [(1, .int (nI k17834)), (0, .ref (r 0))] [] := by
      intro n17835
      induction n17835 with
      | zero =>
        intro k17834 hk17834
        obtain rfl : k17834 = 165 := by omega
        show GW κ 2 0 0 (wM r g (upd I 22 y17832) (up2 A 17 (cpo (fun k => A 22 (165 * y17832.toNatClampNeg + k)) (A 17) 0 165)) L) 21 [(1, .int 165), (0, .ref (r 0))] []
        refine g_iload_n hk dX12_undo_21 rfl ?_
        refine g_sipush (v := 165) hk dX12_undo_22 (by decide) ?_
        refine g_icmp_ge (tgt := 55) (a := 165) (b := 165) hk dX12_undo_25 (by decide) rfl rfl (fun _ => ?_) (fun z9 => absurd (show (165 : Int) ≤ (165 : Int) from by decide) z9)
        refine g_iconst (v := 1) hk dX12_undo_55 (by decide) ?_
        have q17838 := cl_int (y := y17832) (by omega)
        have hw17839 := (IvM_hr (I := I) (A := A) hIv) (y17832.toNatClampNeg) (by omega)
        have g17840 : 0 ≤ (A 22 (165 * y17832.toNatClampNeg + 0)).toInt ∧ (A 22 (165 * y17832.toNatClampNeg + 0)).toInt ≤ 160 := hw17839.1
        have g17841 : 1 ≤ (A 22 (165 * y17832.toNatClampNeg + 164)).toInt := hw17839.2
        have g17842 := Int32.toInt_lt (A 22 (165 * y17832.toNatClampNeg + 164))
        exact g_iret hk hR rfl ⟨(upd I 22 y17832), (up2 A 17 (cpo (fun k => A 22 (165 * y17832.toNatClampNeg + k)) (A 17) 0 165)), L, (show Md [22] I (upd I 22 y17832) from (Md.up Md.rf rfl)), (show Md [17] A (up2 A 17 (cpo (fun k => A 22 (165 * y17832.toNatClampNeg + k)) (A 17) 0 165)) from (Md.up2 Md.rf rfl)), ⟨(IvM_f1 (I := I) (A := A) hIv), (IvM_f2 (I := I) (A := A) hIv), (IvM_f3 (I := I) (A := A) hIv), (IvM_f4 (I := I) (A := A) hIv), (IvM_f6 (I := I) (A := A) hIv), (IvM_f8 (I := I) (A := A) hIv), (IvM_f15 (I := I) (A := A) hIv), (IvM_f16 (I := I) (A := A) hIv), (IvM_f17 (I := I) (A := A) hIv), (IvM_f18 (I := I) (A := A) hIv), (show 0 ≤ y17832.toInt ∧ y17832.toInt ≤ 40 from ⟨by omega, by omega⟩), (IvM_f23 (I := I) (A := A) hIv), (IvM_f24 (I := I) (A := A) hIv), (IvM_a11 (I := I) (A := A) hIv), (IvM_a26 (I := I) (A := A) hIv), (IvM_s8_0 (I := I) (A := A) hIv), (IvM_s8_1 (I := I) (A := A) hIv), (IvM_s10_0 (I := I) (A := A) hIv), (IvM_s10_1 (I := I) (A := A) hIv), (show 0 ≤ ((up2 A 17 (cpo (fun k => A 22 (165 * y17832.toNatClampNeg + k)) (A 17) 0 165)) 17 0).toInt ∧ ((up2 A 17 (cpo (fun k => A 22 (165 * y17832.toNatClampNeg + k)) (A 17) 0 165)) 17 0).toInt ≤ 160 from by rw [show (up2 A 17 (cpo (fun k => A 22 (165 * y17832.toNatClampNeg + k)) (A 17) 0 165)) 17 0 = (A 22 (165 * y17832.toNatClampNeg + 0)) from rfl]; exact ⟨by omega, by omega⟩), (show 1 ≤ ((up2 A 17 (cpo (fun k => A 22 (165 * y17832.toNatClampNeg + k)) (A 17) 0 165)) 17 164).toInt ∧ ((up2 A 17 (cpo (fun k => A 22 (165 * y17832.toNatClampNeg + k)) (A 17) 0 165)) 17 164).toInt ≤ 2147483647 from by rw [show (up2 A 17 (cpo (fun k => A 22 (165 * y17832.toNatClampNeg + k)) (A 17) 0 165)) 17 164 = (A 22 (165 * y17832.toNatClampNeg + 164)) from rfl]; exact ⟨by omega, by omega⟩), (IvM_lv (I := I) (A := A) hIv), (IvM_sd (I := I) (A := A) hIv), (IvM_nq (I := I) (A := A) hIv), (fun j hj => (IvM_hr (I := I) (A := A) hIv) j (by have hj : (j : Int) < y17832.toInt := hj; omega)), (IvM_hh (I := I) (A := A) hIv), trivial⟩, 1, (by decide), (by decide), rfl, rfl⟩ dX12_undo_56
      | succ n17835 ih17837 =>
        intro k17834 hk17834
        obtain ⟨x17836, ex17836⟩ : ∃ x : Int32, x = nI k17834 := ⟨_, rfl⟩
        have hx17836 : x17836.toInt = (k17834 : Int) := by rw [ex17836]; exact nI_toInt (by omega)
        have cx17836 : x17836.toNatClampNeg = k17834 := cl_nat hx17836
        rw [← ex17836]
        have q17843 := cl_int (y := y17832) (by omega)
        refine g_iload_n hk dX12_undo_21 rfl ?_
        refine g_sipush (v := 165) hk dX12_undo_22 (by decide) ?_
        refine g_icmp_ge (tgt := 55) (a := x17836.toInt) (b := 165) hk dX12_undo_25 (by decide) rfl rfl (fun z9 => absurd z9 (show ¬ (165 ≤ x17836.toInt) from by omega)) (fun _ => ?_)
        refine g_aload_n hk dX12_undo_28 rfl ?_
        refine gM_r0_35 hk hin12 (List.mem_cons_of_mem _ (List.mem_append_left _ (List.mem_of_getElem? (i := 1) rfl))) dX12_undo_29 ?_
        refine g_iload_n hk dX12_undo_32 rfl ?_
        refine g_aload_n hk dX12_undo_33 rfl ?_
        refine gM_r0_45 hk hin12 (List.mem_cons_of_mem _ (List.mem_append_left _ (List.mem_of_getElem? (i := 2) rfl))) dX12_undo_34 ?_
        refine g_sipush (v := 165) hk dX12_undo_37 (by decide) ?_
        refine g_aload_n hk dX12_undo_40 rfl ?_
        refine gM_i22 (v := y17832) hk hin12 (List.mem_cons_of_mem _ (List.mem_append_left _ (List.mem_of_getElem? (i := 0) rfl))) dX12_undo_41 rfl ?_
        refine g_imul hk dX12_undo_44 ?_
        refine g_topi (fun y17844 ey17844 => ?_)
        have hy17844 : y17844.toInt = 165 * y17832.toInt := i32_mul ey17844 rfl rfl (by omega) (by omega)
        refine g_iload_n hk dX12_undo_45 rfl ?_
        refine g_iadd hk dX12_undo_46 ?_
        refine g_topi (fun y17845 ey17845 => ?_)
        have hy17845 : y17845.toInt = y17844.toInt + x17836.toInt := i32_add ey17845 rfl rfl (by omega) (by omega)
        refine lM_22 (v := (A 22 y17845.toNatClampNeg)) hk (vp_in_iff.mpr ⟨by omega, by omega⟩) rfl dX12_undo_47 ?_
        refine sM_17 (j := x17836.toNatClampNeg) hk (vp_in_iff.mpr ⟨by omega, by omega⟩) rfl dX12_undo_48 ?_
        obtain ⟨y17846, ey17846⟩ : ∃ y : Int32, y = x17836 + Int32.ofInt 1 := ⟨_, rfl⟩
        have hy17846 : y17846.toInt = x17836.toInt + 1 := i32_add ey17846 rfl (by decide) (by omega) (by omega)
        refine g_iinc (v := y17846) (lv' := [(1, .int y17846), (0, .ref (r 0))]) hk 0 dX12_undo_49 rfl ey17846.symm (by decide) rfl ?_
        refine g_goto (tgt := 21) hk dX12_undo_52 (by decide) ?_
        have q17847 := cl_int (y := y17845) (by omega)
        have q17848 := cl_int (y := x17836) (by omega)
        have eW : (up3 (up2 A 17 (cpo (fun k => A 22 (165 * y17832.toNatClampNeg + k)) (A 17) 0 k17834)) 17 (x17836.toNatClampNeg) (A 22 y17845.toNatClampNeg)) = (up2 A 17 (cpo (fun k => A 22 (165 * y17832.toNatClampNeg + k)) (A 17) 0 (k17834 + 1))) := cpo_st (by omega) (show (A 22 y17845.toNatClampNeg) = (A 22 (165 * y17832.toNatClampNeg + k17834)) from by rw [show y17845.toNatClampNeg = 165 * y17832.toNatClampNeg + k17834 from by omega])
        have fy : y17846 = nI (k17834 + 1) := nI_of_toInt (by omega) (by omega)
        rw [eW, fy]
        exact g_lv (List.forall_mem_cons.mpr ⟨List.mem_of_getElem? (i := 0) rfl, (List.forall_mem_cons.mpr ⟨List.mem_of_getElem? (i := 1) rfl, (fun _ h => absurd h List.not_mem_nil)⟩)⟩) (ih17837 (k17834 + 1) (by omega))
    have lp17833e := lp17833 165 0 (by omega)
    rw [cpo_0] at lp17833e
    exact lp17833e
  · skip
    refine g_iconst (v := 0) hk dX12_undo_7 (by decide) ?_
    exact g_iret hk hR rfl ⟨I, A, L, (show Md [22] I I from Md.rf), (show Md [17] A A from Md.rf), hIv, 0, (by decide), (by decide), rfl, rfl⟩ dX12_undo_8
def wo_j160_X12_isWindow : List Cond := [Cond.fieldLink RX12 70 "WarpDeskModel" "now" "[I", Cond.constant RX12 239 (100000)]
def wz_j160_X12_isWindow : List Cond := .code yX12_isWindow cX12_isWindow 4 (some .boolean) :: (wo_j160_X12_isWindow ++ (wsX120 ++ ([] : List Cond)))
theorem zg_j160_X12_isWindow : ∀ w ∈ wz_j160_X12_isWindow, goodWord w = true := zg_cons rfl (zg_app (by decide +kernel) (zg_app zgU_wsX120 zg_nil))
theorem zi_j160_X12_isWindow : ∀ w ∈ wz_j160_X12_isWindow, w ∈ lw_tbl := zi_cons zw_1717 (zi_app (zi_cons zw_1413 (zi_cons zw_1607 zi_nil)) (zi_app inX12 zi_nil))
set_option maxHeartbeats 4000000 in
set_option maxRecDepth 100000 in
theorem j160_X12_isWindow (l : Launch) (D : va_G) (zt : Nat × Nat × Nat × (Nat → Nat) × (Nat → Nat)) (r : Nat → Nat) (g : Nat → ClassId) (I : Nat → Int32) (A : Nat → Nat → Int32) (L : Nat → Nat → Int64) (z1 : Int32) (z2 : Int32) (hIv : IvM I A) : GM l D zt (tyM g) yX12_isWindow wz_j160_X12_isWindow ({ frames := 0, cells := 0, slots := 0, locals := 0 } : Room) [.ref (r 0), .int z1, .int z2] (wM r g I A L) (fun v _ w' => (v = some (.int 0) ∧ w' = wM r g I A L) ∨ ((¬ (z1.toInt < 0)) ∧ (¬ (z2.toInt < 1)) ∧ (0 ≤ z1.toInt) ∧ (z1.toInt ≤ 159) ∧ (1 ≤ z2.toInt) ∧ (z2.toInt ≤ 160) ∧ (z1.toInt + z2.toInt ≤ 160) ∧ v = some (.int 1) ∧ w' = wM r g I A L)) 0 0 := by
  refine GM.of (cc := cX12_isWindow) (maxL := 4) (ret := (some .boolean)) (own := RX12) (lv := [(0, .ref (r 0)), (1, .int z1), (2, .int z2)]) (by decide) rfl rfl (Nat.le_of_ble_eq_true rfl) rfl (fun κ sz hk hR hN => ?_)
  have hin12 : ∀ w ∈ u_ws RX12 TX12 55, w ∈ wz_j160_X12_isWindow := fun w h => (List.mem_cons_of_mem _ (List.mem_append_right _ (List.mem_append_left _ h)))
  refine g_iload_n hk dX12_isWindow_0 rfl ?_
  have b17849l := Int32.le_toInt z1
  have b17849h := Int32.toInt_lt z1
  refine g_if_lt (tgt := 21) (a := z1.toInt) hk dX12_isWindow_1 (by decide) rfl (fun c17850 => ?_) (fun c17850 => ?_)
  · skip
    refine g_iconst (v := 0) hk dX12_isWindow_21 (by decide) ?_
    exact g_iret hk hR rfl (Or.inl ⟨rfl, rfl⟩) dX12_isWindow_22
  · skip
    refine g_iload_n hk dX12_isWindow_4 rfl ?_
    refine g_iconst (v := 1) hk dX12_isWindow_5 (by decide) ?_
    have b17851l := Int32.le_toInt z2
    have b17851h := Int32.toInt_lt z2
    refine g_icmp_lt (tgt := 21) (a := z2.toInt) (b := 1) hk dX12_isWindow_6 (by decide) rfl rfl (fun c17852 => ?_) (fun c17852 => ?_)
    · skip
      refine g_iconst (v := 0) hk dX12_isWindow_21 (by decide) ?_
      exact g_iret hk hR rfl (Or.inl ⟨rfl, rfl⟩) dX12_isWindow_22
    · skip
      refine g_iload_n hk dX12_isWindow_9 rfl ?_
      refine g_aload_n hk dX12_isWindow_10 rfl ?_
      refine gM_r0_35 hk hin12 (List.mem_cons_of_mem _ (List.mem_append_left _ (List.mem_of_getElem? (i := 0) rfl))) dX12_isWindow_11 ?_
      refine g_iconst (v := 0) hk dX12_isWindow_14 (by decide) ?_
      refine lM_17 (v := (A 17 0)) hk (vp_in_iff.mpr ⟨by decide, by decide⟩) rfl dX12_isWindow_15 ?_
      have f17853 := IvM_s17_0 hIv
      refine g_iload_n hk dX12_isWindow_16 rfl ?_
      refine g_isub hk dX12_isWindow_17 ?_
      refine g_topi (fun y17854 ey17854 => ?_)
      have hy17854 : y17854.toInt = (A 17 0).toInt - z2.toInt := i32_sub ey17854 rfl rfl (by omega) (by omega)
      refine g_icmp_le (tgt := 23) (a := z1.toInt) (b := y17854.toInt) hk dX12_isWindow_18 (by decide) rfl rfl (fun c17855 => ?_) (fun c17855 => ?_)
      · skip
        refine g_iload_n hk dX12_isWindow_23 rfl ?_
        refine g_istore_n (lv' := [(3, .int z1), (0, .ref (r 0)), (1, .int z1), (2, .int z2)]) hk dX12_isWindow_24 (by decide) rfl ?_
        have lp17869 : ∀ (n17870 : Nat) (x17856 : Int32), (0 ≤ x17856.toInt) → (x17856.toInt ≤ 160) → (161 - x17856.toInt < (n17870 : Int)) → (0 < n17870) → GW κ 4 0 0 (wM r g I A L) 25 [(3, .int x17856), (0, .ref (r 0)), (1, .int z1), (2, .int z2)] [] := by
          intro n17870
          induction n17870 with
          | zero =>
            intro x17856 h17867 h17868 m17871 m17871z
            exact absurd m17871z (Nat.lt_irrefl 0)
          | succ n17870 ih17872 =>
            intro x17856 h17867 h17868 m17871 m17871z
            refine g_iload_n hk dX12_isWindow_25 rfl ?_
            refine g_iload_n hk dX12_isWindow_26 rfl ?_
            refine g_iload_n hk dX12_isWindow_27 rfl ?_
            refine g_iadd hk dX12_isWindow_28 ?_
            refine g_topi (fun y17873 ey17873 => ?_)
            have hy17873 : y17873.toInt = z1.toInt + z2.toInt := i32_add ey17873 rfl rfl (by omega) (by omega)
            refine g_icmp_ge (tgt := 53) (a := x17856.toInt) (b := y17873.toInt) hk dX12_isWindow_29 (by decide) rfl rfl (fun c17874 => ?_) (fun c17874 => ?_)
            · skip
              refine g_iconst (v := 1) hk dX12_isWindow_53 (by decide) ?_
              exact g_iret hk hR rfl (Or.inr (⟨c17850, c17852, (by omega), (by omega), (by omega), (by omega), (by omega), rfl, rfl⟩)) dX12_isWindow_54
            · skip
              refine g_aload_n hk dX12_isWindow_32 rfl ?_
              refine gM_r0_35 hk hin12 (List.mem_cons_of_mem _ (List.mem_append_left _ (List.mem_of_getElem? (i := 0) rfl))) dX12_isWindow_33 ?_
              refine g_iconst (v := 1) hk dX12_isWindow_36 (by decide) ?_
              refine g_iload_n hk dX12_isWindow_37 rfl ?_
              refine g_iadd hk dX12_isWindow_38 ?_
              refine g_topi (fun y17875 ey17875 => ?_)
              have hy17875 : y17875.toInt = 1 + x17856.toInt := i32_add ey17875 rfl rfl (by omega) (by omega)
              refine lM_17 (v := (A 17 y17875.toNatClampNeg)) hk (vp_in_iff.mpr ⟨by omega, by omega⟩) rfl dX12_isWindow_39 ?_
              refine g_ldc (v := 100000) hk (List.mem_cons_of_mem _ (List.mem_append_left _ (List.mem_of_getElem? (i := 1) rfl))) dX12_isWindow_40 ?_
              have b17876l := Int32.le_toInt (A 17 y17875.toNatClampNeg)
              have b17876h := Int32.toInt_lt (A 17 y17875.toNatClampNeg)
              refine g_icmp_ne (tgt := 47) (a := (A 17 y17875.toNatClampNeg).toInt) (b := 100000) hk dX12_isWindow_42 (by decide) rfl rfl (fun c17877 => ?_) (fun c17877 => ?_)
              · skip
                obtain ⟨y17878, ey17878⟩ : ∃ y : Int32, y = x17856 + Int32.ofInt 1 := ⟨_, rfl⟩
                have hy17878 : y17878.toInt = x17856.toInt + 1 := i32_add ey17878 rfl (by decide) (by omega) (by omega)
                refine g_iinc (v := y17878) (lv' := [(3, .int y17878), (0, .ref (r 0)), (1, .int z1), (2, .int z2)]) hk 0 dX12_isWindow_47 rfl ey17878.symm (by decide) rfl ?_
                refine g_goto (tgt := 25) hk dX12_isWindow_50 (by decide) ?_
                exact g_lv (List.forall_mem_cons.mpr ⟨List.mem_of_getElem? (i := 0) rfl, (List.forall_mem_cons.mpr ⟨List.mem_of_getElem? (i := 1) rfl, (List.forall_mem_cons.mpr ⟨List.mem_of_getElem? (i := 2) rfl, (List.forall_mem_cons.mpr ⟨List.mem_of_getElem? (i := 3) rfl, (fun _ h => absurd h List.not_mem_nil)⟩)⟩)⟩)⟩) (ih17872 y17878 (by omega) (by omega) (by omega) (by omega))
              · skip
                refine g_iconst (v := 0) hk dX12_isWindow_45 (by decide) ?_
                exact g_iret hk hR rfl (Or.inl ⟨rfl, rfl⟩) dX12_isWindow_46
        obtain ⟨n17879, n17879a, n17879b⟩ : ∃ n : Nat, 161 - z1.toInt < (n : Int) ∧ 0 < n := ⟨((161 - z1.toInt : Int)).toNat + 1, by omega, by omega⟩
        exact lp17869 n17879 z1 (by omega) (by omega) n17879a n17879b
      · skip
        refine g_iconst (v := 0) hk dX12_isWindow_21 (by decide) ?_
        exact g_iret hk hR rfl (Or.inl ⟨rfl, rfl⟩) dX12_isWindow_22
def wo_j161_X12_sumOf : List Cond := [Cond.fieldLink RX12 70 "WarpDeskModel" "now" "[I"]
def wz_j161_X12_sumOf : List Cond := .code yX12_sumOf cX12_sumOf 5 (some .int) :: (wo_j161_X12_sumOf ++ (wsX120 ++ ([] : List Cond)))
theorem zg_j161_X12_sumOf : ∀ w ∈ wz_j161_X12_sumOf, goodWord w = true := zg_cons rfl (zg_app (by decide +kernel) (zg_app zgU_wsX120 zg_nil))
theorem zi_j161_X12_sumOf : ∀ w ∈ wz_j161_X12_sumOf, w ∈ lw_tbl := zi_cons zw_1722 (zi_app (zi_cons zw_1413 zi_nil) (zi_app inX12 zi_nil))
set_option maxHeartbeats 4000000 in
set_option maxRecDepth 100000 in
theorem j161_X12_sumOf (l : Launch) (D : va_G) (zt : Nat × Nat × Nat × (Nat → Nat) × (Nat → Nat)) (r : Nat → Nat) (g : Nat → ClassId) (I : Nat → Int32) (A : Nat → Nat → Int32) (L : Nat → Nat → Int64) (z1 : Int32) (z2 : Int32) (hIv : IvM I A) (hp0 : 0 ≤ z1.toInt) (hp1 : z1.toInt ≤ 159) (hp2 : 1 ≤ z2.toInt) (hp3 : z2.toInt ≤ 160) (hp4 : z1.toInt + z2.toInt ≤ 160) : GM l D zt (tyM g) yX12_sumOf wz_j161_X12_sumOf ({ frames := 0, cells := 0, slots := 0, locals := 0 } : Room) [.ref (r 0), .int z1, .int z2] (wM r g I A L) (fun v _ w' => ∃ y0 : Int32, v = some (.int y0) ∧ w' = wM r g I A L) 0 0 := by
  refine GM.of (cc := cX12_sumOf) (maxL := 5) (ret := (some .int)) (own := RX12) (lv := [(0, .ref (r 0)), (1, .int z1), (2, .int z2)]) (by decide) rfl rfl (Nat.le_of_ble_eq_true rfl) rfl (fun κ sz hk hR hN => ?_)
  have hin12 : ∀ w ∈ u_ws RX12 TX12 55, w ∈ wz_j161_X12_sumOf := fun w h => (List.mem_cons_of_mem _ (List.mem_append_right _ (List.mem_append_left _ h)))
  refine g_iconst (v := 0) hk dX12_sumOf_0 (by decide) ?_
  refine g_istore_n (lv' := [(3, .int 0), (0, .ref (r 0)), (1, .int z1), (2, .int z2)]) hk dX12_sumOf_1 (by decide) rfl ?_
  refine g_iload_n hk dX12_sumOf_2 rfl ?_
  refine g_istore (lv' := [(4, .int z1), (3, .int 0), (0, .ref (r 0)), (1, .int z1), (2, .int z2)]) hk dX12_sumOf_3 (by decide) rfl ?_
  have lp17926 : ∀ (n17927 : Nat) (x17890 : Int32) (x17891 : Int32), (0 ≤ x17890.toInt) → (x17890.toInt ≤ 319) → (320 - x17890.toInt < (n17927 : Int)) → (0 < n17927) → GW κ 5 0 0 (wM r g I A L) 5 [(4, .int x17890), (3, .int x17891), (0, .ref (r 0)), (1, .int z1), (2, .int z2)] [] := by
    intro n17927
    induction n17927 with
    | zero =>
      intro x17890 x17891 h17924 h17925 m17928 m17928z
      exact absurd m17928z (Nat.lt_irrefl 0)
    | succ n17927 ih17929 =>
      intro x17890 x17891 h17924 h17925 m17928 m17928z
      refine g_iload hk dX12_sumOf_5 rfl ?_
      refine g_iload_n hk dX12_sumOf_7 rfl ?_
      refine g_iload_n hk dX12_sumOf_8 rfl ?_
      refine g_iadd hk dX12_sumOf_9 ?_
      refine g_topi (fun y17930 ey17930 => ?_)
      have hy17930 : y17930.toInt = z1.toInt + z2.toInt := i32_add ey17930 rfl rfl (by omega) (by omega)
      refine g_icmp_ge (tgt := 31) (a := x17890.toInt) (b := y17930.toInt) hk dX12_sumOf_10 (by decide) rfl rfl (fun c17931 => ?_) (fun c17931 => ?_)
      · skip
        refine g_iload_n hk dX12_sumOf_31 rfl ?_
        have b17932l := Int32.le_toInt x17891
        have b17932h := Int32.toInt_lt x17891
        exact g_iret hk hR rfl ⟨x17891, rfl, rfl⟩ dX12_sumOf_32
      · skip
        refine g_iload_n hk dX12_sumOf_13 rfl ?_
        refine g_aload_n hk dX12_sumOf_14 rfl ?_
        refine gM_r0_35 hk hin12 (List.mem_cons_of_mem _ (List.mem_append_left _ (List.mem_of_getElem? (i := 0) rfl))) dX12_sumOf_15 ?_
        refine g_iconst (v := 1) hk dX12_sumOf_18 (by decide) ?_
        refine g_iload hk dX12_sumOf_19 rfl ?_
        refine g_iadd hk dX12_sumOf_21 ?_
        refine g_topi (fun y17933 ey17933 => ?_)
        have hy17933 : y17933.toInt = 1 + x17890.toInt := i32_add ey17933 rfl rfl (by omega) (by omega)
        refine lM_17 (v := (A 17 y17933.toNatClampNeg)) hk (vp_in_iff.mpr ⟨by omega, by omega⟩) rfl dX12_sumOf_22 ?_
        have b17934l := Int32.le_toInt x17891
        have b17934h := Int32.toInt_lt x17891
        have b17935l := Int32.le_toInt (A 17 y17933.toNatClampNeg)
        have b17935h := Int32.toInt_lt (A 17 y17933.toNatClampNeg)
        refine g_iadd hk dX12_sumOf_23 ?_
        refine g_topi (fun y17936 ey17936 => ?_)
        refine g_istore_n (lv' := [(3, .int y17936), (4, .int x17890), (0, .ref (r 0)), (1, .int z1), (2, .int z2)]) hk dX12_sumOf_24 (by decide) rfl ?_
        obtain ⟨y17937, ey17937⟩ : ∃ y : Int32, y = x17890 + Int32.ofInt 1 := ⟨_, rfl⟩
        have hy17937 : y17937.toInt = x17890.toInt + 1 := i32_add ey17937 rfl (by decide) (by omega) (by omega)
        refine g_iinc (v := y17937) (lv' := [(4, .int y17937), (3, .int y17936), (0, .ref (r 0)), (1, .int z1), (2, .int z2)]) hk 1 dX12_sumOf_25 rfl ey17937.symm (by decide) rfl ?_
        refine g_goto (tgt := 5) hk dX12_sumOf_28 (by decide) ?_
        have b17938l := Int32.le_toInt y17936
        have b17938h := Int32.toInt_lt y17936
        exact g_lv (List.forall_mem_cons.mpr ⟨List.mem_of_getElem? (i := 0) rfl, (List.forall_mem_cons.mpr ⟨List.mem_of_getElem? (i := 1) rfl, (List.forall_mem_cons.mpr ⟨List.mem_of_getElem? (i := 2) rfl, (List.forall_mem_cons.mpr ⟨List.mem_of_getElem? (i := 3) rfl, (List.forall_mem_cons.mpr ⟨List.mem_of_getElem? (i := 4) rfl, (fun _ h => absurd h List.not_mem_nil)⟩)⟩)⟩)⟩)⟩) (ih17929 y17937 y17936 (by omega) (by omega) (by omega) (by omega))
  have k17939 : (0 : Int32).toInt = 0 := rfl
  obtain ⟨n17940, n17940a, n17940b⟩ : ∃ n : Nat, 320 - z1.toInt < (n : Int) ∧ 0 < n := ⟨((320 - z1.toInt : Int)).toNat + 1, by omega, by omega⟩
  exact lp17926 n17940 z1 0 (by omega) (by omega) n17940a n17940b
def wo_j162_X12_leastOf : List Cond := [Cond.fieldLink RX12 70 "WarpDeskModel" "now" "[I"]
def wz_j162_X12_leastOf : List Cond := .code yX12_leastOf cX12_leastOf 5 (some .int) :: (wo_j162_X12_leastOf ++ (wsX120 ++ ([] : List Cond)))
theorem zg_j162_X12_leastOf : ∀ w ∈ wz_j162_X12_leastOf, goodWord w = true := zg_cons rfl (zg_app (by decide +kernel) (zg_app zgU_wsX120 zg_nil))
theorem zi_j162_X12_leastOf : ∀ w ∈ wz_j162_X12_leastOf, w ∈ lw_tbl := zi_cons zw_1726 (zi_app (zi_cons zw_1413 zi_nil) (zi_app inX12 zi_nil))
set_option maxHeartbeats 4000000 in
set_option maxRecDepth 100000 in
theorem j162_X12_leastOf (l : Launch) (D : va_G) (zt : Nat × Nat × Nat × (Nat → Nat) × (Nat → Nat)) (r : Nat → Nat) (g : Nat → ClassId) (I : Nat → Int32) (A : Nat → Nat → Int32) (L : Nat → Nat → Int64) (z1 : Int32) (z2 : Int32) (hIv : IvM I A) (hp0 : 0 ≤ z1.toInt) (hp1 : z1.toInt ≤ 159) (hp2 : 1 ≤ z2.toInt) (hp3 : z2.toInt ≤ 160) (hp4 : z1.toInt + z2.toInt ≤ 160) : GM l D zt (tyM g) yX12_leastOf wz_j162_X12_leastOf ({ frames := 0, cells := 0, slots := 0, locals := 0 } : Room) [.ref (r 0), .int z1, .int z2] (wM r g I A L) (fun v _ w' => ∃ y0 : Int32, v = some (.int y0) ∧ w' = wM r g I A L) 0 0 := by
  refine GM.of (cc := cX12_leastOf) (maxL := 5) (ret := (some .int)) (own := RX12) (lv := [(0, .ref (r 0)), (1, .int z1), (2, .int z2)]) (by decide) rfl rfl (Nat.le_of_ble_eq_true rfl) rfl (fun κ sz hk hR hN => ?_)
  have hin12 : ∀ w ∈ u_ws RX12 TX12 55, w ∈ wz_j162_X12_leastOf := fun w h => (List.mem_cons_of_mem _ (List.mem_append_right _ (List.mem_append_left _ h)))
  refine g_aload_n hk dX12_leastOf_0 rfl ?_
  refine gM_r0_35 hk hin12 (List.mem_cons_of_mem _ (List.mem_append_left _ (List.mem_of_getElem? (i := 0) rfl))) dX12_leastOf_1 ?_
  refine g_iconst (v := 1) hk dX12_leastOf_4 (by decide) ?_
  refine g_iload_n hk dX12_leastOf_5 rfl ?_
  refine g_iadd hk dX12_leastOf_6 ?_
  refine g_topi (fun y17944 ey17944 => ?_)
  have hy17944 : y17944.toInt = 1 + z1.toInt := i32_add ey17944 rfl rfl (by omega) (by omega)
  refine lM_17 (v := (A 17 y17944.toNatClampNeg)) hk (vp_in_iff.mpr ⟨by omega, by omega⟩) rfl dX12_leastOf_7 ?_
  refine g_istore_n (lv' := [(3, .int (A 17 y17944.toNatClampNeg)), (0, .ref (r 0)), (1, .int z1), (2, .int z2)]) hk dX12_leastOf_8 (by decide) rfl ?_
  refine g_iload_n hk dX12_leastOf_9 rfl ?_
  refine g_istore (lv' := [(4, .int z1), (3, .int (A 17 y17944.toNatClampNeg)), (0, .ref (r 0)), (1, .int z1), (2, .int z2)]) hk dX12_leastOf_10 (by decide) rfl ?_
  have lp17990 : ∀ (n17991 : Nat) (x17945 : Int32) (x17946 : Int32), (0 ≤ x17945.toInt) → (x17945.toInt ≤ 319) → (320 - x17945.toInt < (n17991 : Int)) → (0 < n17991) → GW κ 5 0 0 (wM r g I A L) 12 [(4, .int x17945), (3, .int x17946), (0, .ref (r 0)), (1, .int z1), (2, .int z2)] [] := by
    intro n17991
    induction n17991 with
    | zero =>
      intro x17945 x17946 h17988 h17989 m17992 m17992z
      exact absurd m17992z (Nat.lt_irrefl 0)
    | succ n17991 ih17993 =>
      intro x17945 x17946 h17988 h17989 m17992 m17992z
      refine g_iload hk dX12_leastOf_12 rfl ?_
      refine g_iload_n hk dX12_leastOf_14 rfl ?_
      refine g_iload_n hk dX12_leastOf_15 rfl ?_
      refine g_iadd hk dX12_leastOf_16 ?_
      refine g_topi (fun y17994 ey17994 => ?_)
      have hy17994 : y17994.toInt = z1.toInt + z2.toInt := i32_add ey17994 rfl rfl (by omega) (by omega)
      refine g_icmp_ge (tgt := 49) (a := x17945.toInt) (b := y17994.toInt) hk dX12_leastOf_17 (by decide) rfl rfl (fun c17995 => ?_) (fun c17995 => ?_)
      · skip
        refine g_iload_n hk dX12_leastOf_49 rfl ?_
        have b17996l := Int32.le_toInt x17946
        have b17996h := Int32.toInt_lt x17946
        exact g_iret hk hR rfl ⟨x17946, rfl, rfl⟩ dX12_leastOf_50
      · skip
        refine g_aload_n hk dX12_leastOf_20 rfl ?_
        refine gM_r0_35 hk hin12 (List.mem_cons_of_mem _ (List.mem_append_left _ (List.mem_of_getElem? (i := 0) rfl))) dX12_leastOf_21 ?_
        refine g_iconst (v := 1) hk dX12_leastOf_24 (by decide) ?_
        refine g_iload hk dX12_leastOf_25 rfl ?_
        refine g_iadd hk dX12_leastOf_27 ?_
        refine g_topi (fun y17997 ey17997 => ?_)
        have hy17997 : y17997.toInt = 1 + x17945.toInt := i32_add ey17997 rfl rfl (by omega) (by omega)
        refine lM_17 (v := (A 17 y17997.toNatClampNeg)) hk (vp_in_iff.mpr ⟨by omega, by omega⟩) rfl dX12_leastOf_28 ?_
        refine g_iload_n hk dX12_leastOf_29 rfl ?_
        have b17998l := Int32.le_toInt (A 17 y17997.toNatClampNeg)
        have b17998h := Int32.toInt_lt (A 17 y17997.toNatClampNeg)
        have b17999l := Int32.le_toInt x17946
        have b17999h := Int32.toInt_lt x17946
        refine g_icmp_ge (tgt := 43) (a := (A 17 y17997.toNatClampNeg).toInt) (b := x17946.toInt) hk dX12_leastOf_30 (by decide) rfl rfl (fun c18000 => ?_) (fun c18000 => ?_)
        · skip
          obtain ⟨y18001, ey18001⟩ : ∃ y : Int32, y = x17945 + Int32.ofInt 1 := ⟨_, rfl⟩
          have hy18001 : y18001.toInt = x17945.toInt + 1 := i32_add ey18001 rfl (by decide) (by omega) (by omega)
          refine g_iinc (v := y18001) (lv' := [(4, .int y18001), (3, .int x17946), (0, .ref (r 0)), (1, .int z1), (2, .int z2)]) hk 0 dX12_leastOf_43 rfl ey18001.symm (by decide) rfl ?_
          refine g_goto (tgt := 12) hk dX12_leastOf_46 (by decide) ?_
          exact g_lv (List.forall_mem_cons.mpr ⟨List.mem_of_getElem? (i := 0) rfl, (List.forall_mem_cons.mpr ⟨List.mem_of_getElem? (i := 1) rfl, (List.forall_mem_cons.mpr ⟨List.mem_of_getElem? (i := 2) rfl, (List.forall_mem_cons.mpr ⟨List.mem_of_getElem? (i := 3) rfl, (List.forall_mem_cons.mpr ⟨List.mem_of_getElem? (i := 4) rfl, (fun _ h => absurd h List.not_mem_nil)⟩)⟩)⟩)⟩)⟩) (ih17993 y18001 x17946 (by omega) (by omega) (by omega) (by omega))
        · skip
          refine g_aload_n hk dX12_leastOf_33 rfl ?_
          refine gM_r0_35 hk hin12 (List.mem_cons_of_mem _ (List.mem_append_left _ (List.mem_of_getElem? (i := 0) rfl))) dX12_leastOf_34 ?_
          refine g_iconst (v := 1) hk dX12_leastOf_37 (by decide) ?_
          refine g_iload hk dX12_leastOf_38 rfl ?_
          refine g_iadd hk dX12_leastOf_40 ?_
          refine g_topi (fun y18002 ey18002 => ?_)
          have hy18002 : y18002.toInt = 1 + x17945.toInt := i32_add ey18002 rfl rfl (by omega) (by omega)
          refine lM_17 (v := (A 17 y18002.toNatClampNeg)) hk (vp_in_iff.mpr ⟨by omega, by omega⟩) rfl dX12_leastOf_41 ?_
          refine g_istore_n (lv' := [(3, .int (A 17 y18002.toNatClampNeg)), (4, .int x17945), (0, .ref (r 0)), (1, .int z1), (2, .int z2)]) hk dX12_leastOf_42 (by decide) rfl ?_
          obtain ⟨y18003, ey18003⟩ : ∃ y : Int32, y = x17945 + Int32.ofInt 1 := ⟨_, rfl⟩
          have hy18003 : y18003.toInt = x17945.toInt + 1 := i32_add ey18003 rfl (by decide) (by omega) (by omega)
          refine g_iinc (v := y18003) (lv' := [(4, .int y18003), (3, .int (A 17 y18002.toNatClampNeg)), (0, .ref (r 0)), (1, .int z1), (2, .int z2)]) hk 1 dX12_leastOf_43 rfl ey18003.symm (by decide) rfl ?_
          refine g_goto (tgt := 12) hk dX12_leastOf_46 (by decide) ?_
          have b18004l := Int32.le_toInt (A 17 y18002.toNatClampNeg)
          have b18004h := Int32.toInt_lt (A 17 y18002.toNatClampNeg)
          exact g_lv (List.forall_mem_cons.mpr ⟨List.mem_of_getElem? (i := 0) rfl, (List.forall_mem_cons.mpr ⟨List.mem_of_getElem? (i := 1) rfl, (List.forall_mem_cons.mpr ⟨List.mem_of_getElem? (i := 2) rfl, (List.forall_mem_cons.mpr ⟨List.mem_of_getElem? (i := 3) rfl, (List.forall_mem_cons.mpr ⟨List.mem_of_getElem? (i := 4) rfl, (fun _ h => absurd h List.not_mem_nil)⟩)⟩)⟩)⟩)⟩) (ih17993 y18003 (A 17 y18002.toNatClampNeg) (by omega) (by omega) (by omega) (by omega))
  have b18005l := Int32.le_toInt (A 17 y17944.toNatClampNeg)
  have b18005h := Int32.toInt_lt (A 17 y17944.toNatClampNeg)
  obtain ⟨n18006, n18006a, n18006b⟩ : ∃ n : Nat, 320 - z1.toInt < (n : Int) ∧ 0 < n := ⟨((320 - z1.toInt : Int)).toNat + 1, by omega, by omega⟩
  exact lp17990 n18006 z1 (A 17 y17944.toNatClampNeg) (by omega) (by omega) n18006a n18006b
def wo_j163_X12_mostOf : List Cond := [Cond.fieldLink RX12 70 "WarpDeskModel" "now" "[I"]
def wz_j163_X12_mostOf : List Cond := .code yX12_mostOf cX12_mostOf 5 (some .int) :: (wo_j163_X12_mostOf ++ (wsX120 ++ ([] : List Cond)))
theorem zg_j163_X12_mostOf : ∀ w ∈ wz_j163_X12_mostOf, goodWord w = true := zg_cons rfl (zg_app (by decide +kernel) (zg_app zgU_wsX120 zg_nil))
theorem zi_j163_X12_mostOf : ∀ w ∈ wz_j163_X12_mostOf, w ∈ lw_tbl := zi_cons zw_1730 (zi_app (zi_cons zw_1413 zi_nil) (zi_app inX12 zi_nil))
set_option maxHeartbeats 4000000 in
set_option maxRecDepth 100000 in
theorem j163_X12_mostOf (l : Launch) (D : va_G) (zt : Nat × Nat × Nat × (Nat → Nat) × (Nat → Nat)) (r : Nat → Nat) (g : Nat → ClassId) (I : Nat → Int32) (A : Nat → Nat → Int32) (L : Nat → Nat → Int64) (z1 : Int32) (z2 : Int32) (hIv : IvM I A) (hp0 : 0 ≤ z1.toInt) (hp1 : z1.toInt ≤ 159) (hp2 : 1 ≤ z2.toInt) (hp3 : z2.toInt ≤ 160) (hp4 : z1.toInt + z2.toInt ≤ 160) : GM l D zt (tyM g) yX12_mostOf wz_j163_X12_mostOf ({ frames := 0, cells := 0, slots := 0, locals := 0 } : Room) [.ref (r 0), .int z1, .int z2] (wM r g I A L) (fun v _ w' => ∃ y0 : Int32, v = some (.int y0) ∧ w' = wM r g I A L) 0 0 := by
  refine GM.of (cc := cX12_mostOf) (maxL := 5) (ret := (some .int)) (own := RX12) (lv := [(0, .ref (r 0)), (1, .int z1), (2, .int z2)]) (by decide) rfl rfl (Nat.le_of_ble_eq_true rfl) rfl (fun κ sz hk hR hN => ?_)
  have hin12 : ∀ w ∈ u_ws RX12 TX12 55, w ∈ wz_j163_X12_mostOf := fun w h => (List.mem_cons_of_mem _ (List.mem_append_right _ (List.mem_append_left _ h)))
  refine g_aload_n hk dX12_mostOf_0 rfl ?_
  refine gM_r0_35 hk hin12 (List.mem_cons_of_mem _ (List.mem_append_left _ (List.mem_of_getElem? (i := 0) rfl))) dX12_mostOf_1 ?_
  refine g_iconst (v := 1) hk dX12_mostOf_4 (by decide) ?_
  refine g_iload_n hk dX12_mostOf_5 rfl ?_
  refine g_iadd hk dX12_mostOf_6 ?_
  refine g_topi (fun y18010 ey18010 => ?_)
  have hy18010 : y18010.toInt = 1 + z1.toInt := i32_add ey18010 rfl rfl (by omega) (by omega)
  refine lM_17 (v := (A 17 y18010.toNatClampNeg)) hk (vp_in_iff.mpr ⟨by omega, by omega⟩) rfl dX12_mostOf_7 ?_
  refine g_istore_n (lv' := [(3, .int (A 17 y18010.toNatClampNeg)), (0, .ref (r 0)), (1, .int z1), (2, .int z2)]) hk dX12_mostOf_8 (by decide) rfl ?_
  refine g_iload_n hk dX12_mostOf_9 rfl ?_
  refine g_istore (lv' := [(4, .int z1), (3, .int (A 17 y18010.toNatClampNeg)), (0, .ref (r 0)), (1, .int z1), (2, .int z2)]) hk dX12_mostOf_10 (by decide) rfl ?_
  have lp18056 : ∀ (n18057 : Nat) (x18011 : Int32) (x18012 : Int32), (0 ≤ x18011.toInt) → (x18011.toInt ≤ 319) → (320 - x18011.toInt < (n18057 : Int)) → (0 < n18057) → GW κ 5 0 0 (wM r g I A L) 12 [(4, .int x18011), (3, .int x18012), (0, .ref (r 0)), (1, .int z1), (2, .int z2)] [] := by
    intro n18057
    induction n18057 with
    | zero =>
      intro x18011 x18012 h18054 h18055 m18058 m18058z
      exact absurd m18058z (Nat.lt_irrefl 0)
    | succ n18057 ih18059 =>
      intro x18011 x18012 h18054 h18055 m18058 m18058z
      refine g_iload hk dX12_mostOf_12 rfl ?_
      refine g_iload_n hk dX12_mostOf_14 rfl ?_
      refine g_iload_n hk dX12_mostOf_15 rfl ?_
      refine g_iadd hk dX12_mostOf_16 ?_
      refine g_topi (fun y18060 ey18060 => ?_)
      have hy18060 : y18060.toInt = z1.toInt + z2.toInt := i32_add ey18060 rfl rfl (by omega) (by omega)
      refine g_icmp_ge (tgt := 49) (a := x18011.toInt) (b := y18060.toInt) hk dX12_mostOf_17 (by decide) rfl rfl (fun c18061 => ?_) (fun c18061 => ?_)
      · skip
        refine g_iload_n hk dX12_mostOf_49 rfl ?_
        have b18062l := Int32.le_toInt x18012
        have b18062h := Int32.toInt_lt x18012
        exact g_iret hk hR rfl ⟨x18012, rfl, rfl⟩ dX12_mostOf_50
      · skip
        refine g_aload_n hk dX12_mostOf_20 rfl ?_
        refine gM_r0_35 hk hin12 (List.mem_cons_of_mem _ (List.mem_append_left _ (List.mem_of_getElem? (i := 0) rfl))) dX12_mostOf_21 ?_
        refine g_iconst (v := 1) hk dX12_mostOf_24 (by decide) ?_
        refine g_iload hk dX12_mostOf_25 rfl ?_
        refine g_iadd hk dX12_mostOf_27 ?_
        refine g_topi (fun y18063 ey18063 => ?_)
        have hy18063 : y18063.toInt = 1 + x18011.toInt := i32_add ey18063 rfl rfl (by omega) (by omega)
        refine lM_17 (v := (A 17 y18063.toNatClampNeg)) hk (vp_in_iff.mpr ⟨by omega, by omega⟩) rfl dX12_mostOf_28 ?_
        refine g_iload_n hk dX12_mostOf_29 rfl ?_
        have b18064l := Int32.le_toInt (A 17 y18063.toNatClampNeg)
        have b18064h := Int32.toInt_lt (A 17 y18063.toNatClampNeg)
        have b18065l := Int32.le_toInt x18012
        have b18065h := Int32.toInt_lt x18012
        refine g_icmp_le (tgt := 43) (a := (A 17 y18063.toNatClampNeg).toInt) (b := x18012.toInt) hk dX12_mostOf_30 (by decide) rfl rfl (fun c18066 => ?_) (fun c18066 => ?_)
        · skip
          obtain ⟨y18067, ey18067⟩ : ∃ y : Int32, y = x18011 + Int32.ofInt 1 := ⟨_, rfl⟩
          have hy18067 : y18067.toInt = x18011.toInt + 1 := i32_add ey18067 rfl (by decide) (by omega) (by omega)
          refine g_iinc (v := y18067) (lv' := [(4, .int y18067), (3, .int x18012), (0, .ref (r 0)), (1, .int z1), (2, .int z2)]) hk 0 dX12_mostOf_43 rfl ey18067.symm (by decide) rfl ?_
          refine g_goto (tgt := 12) hk dX12_mostOf_46 (by decide) ?_
          exact g_lv (List.forall_mem_cons.mpr ⟨List.mem_of_getElem? (i := 0) rfl, (List.forall_mem_cons.mpr ⟨List.mem_of_getElem? (i := 1) rfl, (List.forall_mem_cons.mpr ⟨List.mem_of_getElem? (i := 2) rfl, (List.forall_mem_cons.mpr ⟨List.mem_of_getElem? (i := 3) rfl, (List.forall_mem_cons.mpr ⟨List.mem_of_getElem? (i := 4) rfl, (fun _ h => absurd h List.not_mem_nil)⟩)⟩)⟩)⟩)⟩) (ih18059 y18067 x18012 (by omega) (by omega) (by omega) (by omega))
        · skip
          refine g_aload_n hk dX12_mostOf_33 rfl ?_
          refine gM_r0_35 hk hin12 (List.mem_cons_of_mem _ (List.mem_append_left _ (List.mem_of_getElem? (i := 0) rfl))) dX12_mostOf_34 ?_
          refine g_iconst (v := 1) hk dX12_mostOf_37 (by decide) ?_
          refine g_iload hk dX12_mostOf_38 rfl ?_
          refine g_iadd hk dX12_mostOf_40 ?_
          refine g_topi (fun y18068 ey18068 => ?_)
          have hy18068 : y18068.toInt = 1 + x18011.toInt := i32_add ey18068 rfl rfl (by omega) (by omega)
          refine lM_17 (v := (A 17 y18068.toNatClampNeg)) hk (vp_in_iff.mpr ⟨by omega, by omega⟩) rfl dX12_mostOf_41 ?_
          refine g_istore_n (lv' := [(3, .int (A 17 y18068.toNatClampNeg)), (4, .int x18011), (0, .ref (r 0)), (1, .int z1), (2, .int z2)]) hk dX12_mostOf_42 (by decide) rfl ?_
          obtain ⟨y18069, ey18069⟩ : ∃ y : Int32, y = x18011 + Int32.ofInt 1 := ⟨_, rfl⟩
          have hy18069 : y18069.toInt = x18011.toInt + 1 := i32_add ey18069 rfl (by decide) (by omega) (by omega)
          refine g_iinc (v := y18069) (lv' := [(4, .int y18069), (3, .int (A 17 y18068.toNatClampNeg)), (0, .ref (r 0)), (1, .int z1), (2, .int z2)]) hk 1 dX12_mostOf_43 rfl ey18069.symm (by decide) rfl ?_
          refine g_goto (tgt := 12) hk dX12_mostOf_46 (by decide) ?_
          have b18070l := Int32.le_toInt (A 17 y18068.toNatClampNeg)
          have b18070h := Int32.toInt_lt (A 17 y18068.toNatClampNeg)
          exact g_lv (List.forall_mem_cons.mpr ⟨List.mem_of_getElem? (i := 0) rfl, (List.forall_mem_cons.mpr ⟨List.mem_of_getElem? (i := 1) rfl, (List.forall_mem_cons.mpr ⟨List.mem_of_getElem? (i := 2) rfl, (List.forall_mem_cons.mpr ⟨List.mem_of_getElem? (i := 3) rfl, (List.forall_mem_cons.mpr ⟨List.mem_of_getElem? (i := 4) rfl, (fun _ h => absurd h List.not_mem_nil)⟩)⟩)⟩)⟩)⟩) (ih18059 y18069 (A 17 y18068.toNatClampNeg) (by omega) (by omega) (by omega) (by omega))
  have b18071l := Int32.le_toInt (A 17 y18010.toNatClampNeg)
  have b18071h := Int32.toInt_lt (A 17 y18010.toNatClampNeg)
  obtain ⟨n18072, n18072a, n18072b⟩ : ∃ n : Nat, 320 - z1.toInt < (n : Int) ∧ 0 < n := ⟨((320 - z1.toInt : Int)).toNat + 1, by omega, by omega⟩
  exact lp18056 n18072 z1 (A 17 y18010.toNatClampNeg) (by omega) (by omega) n18072a n18072b
def wo_j159_X12_window : List Cond := [Cond.methodLink RX12 257 yX12_isWindow, Cond.instanceMethod yX12_isWindow, Cond.selects RX12 yX12_isWindow yX12_isWindow, Cond.initialized RX12, Cond.constant RX12 332 (-1000000), Cond.methodLink RX12 333 yX12_sumOf, Cond.instanceMethod yX12_sumOf, Cond.selects RX12 yX12_sumOf yX12_sumOf, Cond.methodLink RX12 336 yX12_leastOf, Cond.instanceMethod yX12_leastOf, Cond.selects RX12 yX12_leastOf yX12_leastOf, Cond.methodLink RX12 339 yX12_mostOf, Cond.instanceMethod yX12_mostOf, Cond.selects RX12 yX12_mostOf yX12_mostOf, Cond.methodLink RX12 261 yX12_downBy, Cond.static yX12_downBy]
def wz_j159_X12_window : List Cond := .code yX12_window cX12_window 4 (some .int) :: (wo_j159_X12_window ++ (wz_j160_X12_isWindow ++ (wz_j161_X12_sumOf ++ (wz_j162_X12_leastOf ++ (wz_j163_X12_mostOf ++ (wz_j155_X12_downBy ++ ([] : List Cond)))))))
theorem zg_j159_X12_window : ∀ w ∈ wz_j159_X12_window, goodWord w = true := zg_cons rfl (zg_app (by decide +kernel) (zg_app zg_j160_X12_isWindow (zg_app zg_j161_X12_sumOf (zg_app zg_j162_X12_leastOf (zg_app zg_j163_X12_mostOf (zg_app zg_j155_X12_downBy zg_nil))))))
theorem zi_j159_X12_window : ∀ w ∈ wz_j159_X12_window, w ∈ lw_tbl := zi_cons zw_1713 (zi_app (zi_cons zw_1714 (zi_cons zw_1716 (zi_cons zw_72 (zi_cons zw_115 (zi_cons zw_1718 (zi_cons zw_1719 (zi_cons zw_1721 (zi_cons zw_73 (zi_cons zw_1723 (zi_cons zw_1725 (zi_cons zw_74 (zi_cons zw_1727 (zi_cons zw_1729 (zi_cons zw_75 (zi_cons zw_1695 (zi_cons zw_1696 zi_nil)))))))))))))))) (zi_app zi_j160_X12_isWindow (zi_app zi_j161_X12_sumOf (zi_app zi_j162_X12_leastOf (zi_app zi_j163_X12_mostOf (zi_app zi_j155_X12_downBy zi_nil))))))
set_option maxHeartbeats 4000000 in
set_option maxRecDepth 100000 in
theorem j159_X12_window (l : Launch) (D : va_G) (zt : Nat × Nat × Nat × (Nat → Nat) × (Nat → Nat)) (r : Nat → Nat) (g : Nat → ClassId) (I : Nat → Int32) (A : Nat → Nat → Int32) (L : Nat → Nat → Int64) (z1 : Int32) (z2 : Int32) (z3 : Int32) (hIv : IvM I A) : GM l D zt (tyM g) yX12_window wz_j159_X12_window ({ frames := 1, cells := 0, slots := 0, locals := 24 } : Room) [.ref (r 0), .int z1, .int z2, .int z3] (wM r g I A L) (fun v _ w' => ∃ y0 : Int32, v = some (.int y0) ∧ w' = wM r g I A L) 0 0 := by
  refine GM.of (cc := cX12_window) (maxL := 4) (ret := (some .int)) (own := RX12) (lv := [(0, .ref (r 0)), (1, .int z1), (2, .int z2), (3, .int z3)]) (by decide) rfl rfl (Nat.le_of_ble_eq_true rfl) rfl (fun κ sz hk hR hN => ?_)
  refine g_aload_n hk dX12_window_0 rfl ?_
  refine g_iload_n hk dX12_window_1 rfl ?_
  refine g_iload_n hk dX12_window_2 rfl ?_
  refine g_callV (n := 2) hk (j160_X12_isWindow l D zt r g I A L z1 z2 hIv) (SP.same _) (fun _ h => h) (gi_V (List.mem_cons_of_mem _ (List.mem_append_left _ (List.mem_of_getElem? (i := 0) rfl))) (List.mem_cons_of_mem _ (List.mem_append_left _ (List.mem_of_getElem? (i := 1) rfl))) (List.mem_cons_of_mem _ (List.mem_append_left _ (List.mem_of_getElem? (i := 2) rfl))) (List.mem_cons_of_mem _ (List.mem_append_left _ (List.mem_of_getElem? (i := 3) rfl))) (gi_sub (fun w h => (List.mem_cons_of_mem _ (List.mem_append_right _ (List.mem_append_left _ h)))) zg_j160_X12_isWindow)) rfl rfl rfl (by decide +kernel) ⟨Nat.le_of_ble_eq_true rfl, Nat.le_of_ble_eq_true rfl⟩ 0 rfl rfl rfl rfl (Nat.le_of_ble_eq_true rfl) ⟨Nat.le_of_ble_eq_true rfl, Nat.le_of_ble_eq_true rfl⟩ dX12_window_3 (fun v ty' w' hp hk' => ?_)
  rcases hp with ⟨rfl, rfl⟩ | ⟨c17881, c17882, c17883, c17884, c17885, c17886, c17887, rfl, rfl⟩
  · skip
    show GW κ 4 0 0 (wM r g I A L) 6 [(0, .ref (r 0)), (1, .int z1), (2, .int z2), (3, .int z3)] [.int 0]
    refine g_if_ne (tgt := 13) (a := 0) hk dX12_window_6 (by decide) rfl (fun z9 => absurd z9 (show ¬ ((0 : Int) ≠ (0 : Int)) from by decide)) (fun _ => ?_)
    refine g_ldcw (v := (-1000000)) hk (List.mem_cons_of_mem _ (List.mem_append_left _ (List.mem_of_getElem? (i := 4) rfl))) dX12_window_9 ?_
    exact g_iret hk hR rfl ⟨(-1000000), rfl, rfl⟩ dX12_window_12
  · skip
    show GW κ 4 0 0 (wM r g I A L) 6 [(0, .ref (r 0)), (1, .int z1), (2, .int z2), (3, .int z3)] [.int 1]
    refine g_if_ne (tgt := 13) (a := 1) hk dX12_window_6 (by decide) rfl (fun _ => ?_) (fun z9 => absurd (show (1 : Int) ≠ (0 : Int) from by decide) z9)
    refine g_iload_n hk dX12_window_13 rfl ?_
    by_cases c17889 : z3.toInt = 0
    · refine g_tabIn (tgt := 44) (a := 0) hk dX12_window_14 c17889 (by decide) (by decide) rfl (by decide) ?_
      refine g_aload_n hk dX12_window_44 rfl ?_
      refine g_iload_n hk dX12_window_45 rfl ?_
      refine g_iload_n hk dX12_window_46 rfl ?_
      refine g_callV (n := 2) hk (j161_X12_sumOf l D zt r g I A L z1 z2 hIv (by omega) (by omega) (by omega) (by omega) (by omega)) (SP.same _) (fun _ h => h) (gi_V (List.mem_cons_of_mem _ (List.mem_append_left _ (List.mem_of_getElem? (i := 5) rfl))) (List.mem_cons_of_mem _ (List.mem_append_left _ (List.mem_of_getElem? (i := 6) rfl))) (List.mem_cons_of_mem _ (List.mem_append_left _ (List.mem_of_getElem? (i := 7) rfl))) (List.mem_cons_of_mem _ (List.mem_append_left _ (List.mem_of_getElem? (i := 3) rfl))) (gi_sub (fun w h => (List.mem_cons_of_mem _ (List.mem_append_right _ (List.mem_append_right _ (List.mem_append_left _ h))))) zg_j161_X12_sumOf)) rfl rfl rfl (by decide +kernel) ⟨Nat.le_of_ble_eq_true rfl, Nat.le_of_ble_eq_true rfl⟩ 0 rfl rfl rfl rfl (Nat.le_of_ble_eq_true rfl) ⟨Nat.le_of_ble_eq_true rfl, Nat.le_of_ble_eq_true rfl⟩ dX12_window_47 (fun v ty' w' hp hk' => ?_)
      obtain ⟨y17941, rfl, rfl⟩ := hp
      show GW κ 4 0 0 (wM r g I A L) 50 [(0, .ref (r 0)), (1, .int z1), (2, .int z2), (3, .int z3)] [.int y17941]
      have b17942l := Int32.le_toInt y17941
      have b17942h := Int32.toInt_lt y17941
      exact g_iret hk hR rfl ⟨y17941, rfl, rfl⟩ dX12_window_50
    by_cases c17943 : z3.toInt = 1
    · refine g_tabIn (tgt := 51) (a := 1) hk dX12_window_14 c17943 (by decide) (by decide) rfl (by decide) ?_
      refine g_aload_n hk dX12_window_51 rfl ?_
      refine g_iload_n hk dX12_window_52 rfl ?_
      refine g_iload_n hk dX12_window_53 rfl ?_
      refine g_callV (n := 2) hk (j162_X12_leastOf l D zt r g I A L z1 z2 hIv (by omega) (by omega) (by omega) (by omega) (by omega)) (SP.same _) (fun _ h => h) (gi_V (List.mem_cons_of_mem _ (List.mem_append_left _ (List.mem_of_getElem? (i := 8) rfl))) (List.mem_cons_of_mem _ (List.mem_append_left _ (List.mem_of_getElem? (i := 9) rfl))) (List.mem_cons_of_mem _ (List.mem_append_left _ (List.mem_of_getElem? (i := 10) rfl))) (List.mem_cons_of_mem _ (List.mem_append_left _ (List.mem_of_getElem? (i := 3) rfl))) (gi_sub (fun w h => (List.mem_cons_of_mem _ (List.mem_append_right _ (List.mem_append_right _ (List.mem_append_right _ (List.mem_append_left _ h)))))) zg_j162_X12_leastOf)) rfl rfl rfl (by decide +kernel) ⟨Nat.le_of_ble_eq_true rfl, Nat.le_of_ble_eq_true rfl⟩ 0 rfl rfl rfl rfl (Nat.le_of_ble_eq_true rfl) ⟨Nat.le_of_ble_eq_true rfl, Nat.le_of_ble_eq_true rfl⟩ dX12_window_54 (fun v ty' w' hp hk' => ?_)
      obtain ⟨y18007, rfl, rfl⟩ := hp
      show GW κ 4 0 0 (wM r g I A L) 57 [(0, .ref (r 0)), (1, .int z1), (2, .int z2), (3, .int z3)] [.int y18007]
      have b18008l := Int32.le_toInt y18007
      have b18008h := Int32.toInt_lt y18007
      exact g_iret hk hR rfl ⟨y18007, rfl, rfl⟩ dX12_window_57
    by_cases c18009 : z3.toInt = 2
    · refine g_tabIn (tgt := 58) (a := 2) hk dX12_window_14 c18009 (by decide) (by decide) rfl (by decide) ?_
      refine g_aload_n hk dX12_window_58 rfl ?_
      refine g_iload_n hk dX12_window_59 rfl ?_
      refine g_iload_n hk dX12_window_60 rfl ?_
      refine g_callV (n := 2) hk (j163_X12_mostOf l D zt r g I A L z1 z2 hIv (by omega) (by omega) (by omega) (by omega) (by omega)) (SP.same _) (fun _ h => h) (gi_V (List.mem_cons_of_mem _ (List.mem_append_left _ (List.mem_of_getElem? (i := 11) rfl))) (List.mem_cons_of_mem _ (List.mem_append_left _ (List.mem_of_getElem? (i := 12) rfl))) (List.mem_cons_of_mem _ (List.mem_append_left _ (List.mem_of_getElem? (i := 13) rfl))) (List.mem_cons_of_mem _ (List.mem_append_left _ (List.mem_of_getElem? (i := 3) rfl))) (gi_sub (fun w h => (List.mem_cons_of_mem _ (List.mem_append_right _ (List.mem_append_right _ (List.mem_append_right _ (List.mem_append_right _ (List.mem_append_left _ h))))))) zg_j163_X12_mostOf)) rfl rfl rfl (by decide +kernel) ⟨Nat.le_of_ble_eq_true rfl, Nat.le_of_ble_eq_true rfl⟩ 0 rfl rfl rfl rfl (Nat.le_of_ble_eq_true rfl) ⟨Nat.le_of_ble_eq_true rfl, Nat.le_of_ble_eq_true rfl⟩ dX12_window_61 (fun v ty' w' hp hk' => ?_)
      obtain ⟨y18073, rfl, rfl⟩ := hp
      show GW κ 4 0 0 (wM r g I A L) 64 [(0, .ref (r 0)), (1, .int z1), (2, .int z2), (3, .int z3)] [.int y18073]
      have b18074l := Int32.le_toInt y18073
      have b18074h := Int32.toInt_lt y18073
      exact g_iret hk hR rfl ⟨y18073, rfl, rfl⟩ dX12_window_64
    by_cases c18075 : z3.toInt = 3
    · refine g_tabIn (tgt := 65) (a := 3) hk dX12_window_14 c18075 (by decide) (by decide) rfl (by decide) ?_
      refine g_aload_n hk dX12_window_65 rfl ?_
      refine g_iload_n hk dX12_window_66 rfl ?_
      refine g_iload_n hk dX12_window_67 rfl ?_
      refine g_callV (n := 2) hk (j161_X12_sumOf l D zt r g I A L z1 z2 hIv (by omega) (by omega) (by omega) (by omega) (by omega)) (SP.same _) (fun _ h => h) (gi_V (List.mem_cons_of_mem _ (List.mem_append_left _ (List.mem_of_getElem? (i := 5) rfl))) (List.mem_cons_of_mem _ (List.mem_append_left _ (List.mem_of_getElem? (i := 6) rfl))) (List.mem_cons_of_mem _ (List.mem_append_left _ (List.mem_of_getElem? (i := 7) rfl))) (List.mem_cons_of_mem _ (List.mem_append_left _ (List.mem_of_getElem? (i := 3) rfl))) (gi_sub (fun w h => (List.mem_cons_of_mem _ (List.mem_append_right _ (List.mem_append_right _ (List.mem_append_left _ h))))) zg_j161_X12_sumOf)) rfl rfl rfl (by decide +kernel) ⟨Nat.le_of_ble_eq_true rfl, Nat.le_of_ble_eq_true rfl⟩ 0 rfl rfl rfl rfl (Nat.le_of_ble_eq_true rfl) ⟨Nat.le_of_ble_eq_true rfl, Nat.le_of_ble_eq_true rfl⟩ dX12_window_68 (fun v ty' w' hp hk' => ?_)
      obtain ⟨y18076, rfl, rfl⟩ := hp
      show GW κ 4 0 0 (wM r g I A L) 71 [(0, .ref (r 0)), (1, .int z1), (2, .int z2), (3, .int z3)] [.int y18076]
      refine g_iload_n hk dX12_window_71 rfl ?_
      refine g_callS (n := 2) hk (j155_X12_downBy l D zt r g I A L y18076 z2 hIv (by omega)) (SP.same _) (fun _ h => h) (gi_S (List.mem_cons_of_mem _ (List.mem_append_left _ (List.mem_of_getElem? (i := 14) rfl))) (List.mem_cons_of_mem _ (List.mem_append_left _ (List.mem_of_getElem? (i := 15) rfl))) (List.mem_cons_of_mem _ (List.mem_append_left _ (List.mem_of_getElem? (i := 3) rfl))) (gi_sub (fun w h => (List.mem_cons_of_mem _ (List.mem_append_right _ (List.mem_append_right _ (List.mem_append_right _ (List.mem_append_right _ (List.mem_append_right _ (List.mem_append_left _ h)))))))) zg_j155_X12_downBy)) rfl rfl rfl (by decide +kernel) ⟨Nat.le_of_ble_eq_true rfl, Nat.le_of_ble_eq_true rfl⟩ rfl rfl (Nat.le_of_ble_eq_true rfl) ⟨Nat.le_of_ble_eq_true rfl, Nat.le_of_ble_eq_true rfl⟩ dX12_window_72 (fun v ty' w' hp hk' => ?_)
      obtain ⟨y18077, rfl, rfl⟩ := hp
      show GW κ 4 0 0 (wM r g I A L) 75 [(0, .ref (r 0)), (1, .int z1), (2, .int z2), (3, .int z3)] [.int y18077]
      have b18078l := Int32.le_toInt y18077
      have b18078h := Int32.toInt_lt y18077
      exact g_iret hk hR rfl ⟨y18077, rfl, rfl⟩ dX12_window_75
    refine g_tabOut (tgt := 76) (a := z3.toInt) hk dX12_window_14 rfl (by omega) (by decide) ?_
    refine g_ldcw (v := (-1000000)) hk (List.mem_cons_of_mem _ (List.mem_append_left _ (List.mem_of_getElem? (i := 4) rfl))) dX12_window_76 ?_
    exact g_iret hk hR rfl ⟨(-1000000), rfl, rfl⟩ dX12_window_79
def wo_j166_X12_levelsFirst : List Cond := [Cond.fieldLink RX12 76 "WarpDeskModel" "firstAt" "[I", Cond.methodLink RX12 261 yX12_downBy, Cond.static yX12_downBy, Cond.initialized RX12, Cond.fieldLink RX12 73 "WarpDeskModel" "row" "[I"]
def wz_j166_X12_levelsFirst : List Cond := .code yX12_levelsFirst cX12_levelsFirst 8 none :: (wo_j166_X12_levelsFirst ++ (wsX120 ++ (wz_j155_X12_downBy ++ ([] : List Cond))))
theorem zg_j166_X12_levelsFirst : ∀ w ∈ wz_j166_X12_levelsFirst, goodWord w = true := zg_cons rfl (zg_app (by decide +kernel) (zg_app zgU_wsX120 (zg_app zg_j155_X12_downBy zg_nil)))
theorem zi_j166_X12_levelsFirst : ∀ w ∈ wz_j166_X12_levelsFirst, w ∈ lw_tbl := zi_cons zw_1742 (zi_app (zi_cons zw_1416 (zi_cons zw_1695 (zi_cons zw_1696 (zi_cons zw_115 (zi_cons zw_1414 zi_nil))))) (zi_app inX12 (zi_app zi_j155_X12_downBy zi_nil)))
set_option maxHeartbeats 4000000 in
set_option maxRecDepth 100000 in
theorem j166_X12_levelsFirst (l : Launch) (D : va_G) (zt : Nat × Nat × Nat × (Nat → Nat) × (Nat → Nat)) (r : Nat → Nat) (g : Nat → ClassId) (I : Nat → Int32) (A : Nat → Nat → Int32) (L : Nat → Nat → Int64) (z1 : Int32) (hIv : IvM I A) (hp0 : 1 ≤ z1.toInt) (hp1 : z1.toInt ≤ 16) : GM l D zt (tyM g) yX12_levelsFirst wz_j166_X12_levelsFirst ({ frames := 1, cells := 0, slots := 0, locals := 22 } : Room) [.ref (r 0), .int z1] (wM r g I A L) (fun v _ w' => ∃ (I' : Nat → Int32) (A' : Nat → Nat → Int32) (L' : Nat → Nat → Int64), Md [] I I' ∧ Md [19] A A' ∧ IvM I' A' ∧ v = none ∧ w' = wM r g I' A' L') 0 0 := by
  refine GM.of (cc := cX12_levelsFirst) (maxL := 8) (ret := none) (own := RX12) (lv := [(0, .ref (r 0)), (1, .int z1)]) (by decide) rfl rfl (Nat.le_of_ble_eq_true rfl) rfl (fun κ sz hk hR hN => ?_)
  have hin12 : ∀ w ∈ u_ws RX12 TX12 55, w ∈ wz_j166_X12_levelsFirst := fun w h => (List.mem_cons_of_mem _ (List.mem_append_right _ (List.mem_append_left _ h)))
  refine g_iconst (v := 0) hk dX12_levelsFirst_0 (by decide) ?_
  refine g_istore_n (lv' := [(2, .int 0), (0, .ref (r 0)), (1, .int z1)]) hk dX12_levelsFirst_1 (by decide) rfl ?_
  refine g_aload_n hk dX12_levelsFirst_2 rfl ?_
  refine gM_r0_38 hk hin12 (List.mem_cons_of_mem _ (List.mem_append_left _ (List.mem_of_getElem? (i := 0) rfl))) dX12_levelsFirst_3 ?_
  refine g_iconst (v := 0) hk dX12_levelsFirst_6 (by decide) ?_
  refine lM_19 (v := (A 19 0)) hk (vp_in_iff.mpr ⟨by decide, by decide⟩) rfl dX12_levelsFirst_7 ?_
  refine g_istore_n (lv' := [(3, .int (A 19 0)), (2, .int 0), (0, .ref (r 0)), (1, .int z1)]) hk dX12_levelsFirst_8 (by decide) rfl ?_
  refine g_aload_n hk dX12_levelsFirst_9 rfl ?_
  refine gM_r0_38 hk hin12 (List.mem_cons_of_mem _ (List.mem_append_left _ (List.mem_of_getElem? (i := 0) rfl))) dX12_levelsFirst_10 ?_
  refine g_iconst (v := 0) hk dX12_levelsFirst_13 (by decide) ?_
  refine lM_19 (v := (A 19 0)) hk (vp_in_iff.mpr ⟨by decide, by decide⟩) rfl dX12_levelsFirst_14 ?_
  refine g_istore (lv' := [(4, .int (A 19 0)), (3, .int (A 19 0)), (2, .int 0), (0, .ref (r 0)), (1, .int z1)]) hk dX12_levelsFirst_15 (by decide) rfl ?_
  refine g_aload_n hk dX12_levelsFirst_17 rfl ?_
  refine gM_r0_38 hk hin12 (List.mem_cons_of_mem _ (List.mem_append_left _ (List.mem_of_getElem? (i := 0) rfl))) dX12_levelsFirst_18 ?_
  refine g_iconst (v := 0) hk dX12_levelsFirst_21 (by decide) ?_
  refine lM_19 (v := (A 19 0)) hk (vp_in_iff.mpr ⟨by decide, by decide⟩) rfl dX12_levelsFirst_22 ?_
  refine g_istore (lv' := [(5, .int (A 19 0)), (4, .int (A 19 0)), (3, .int (A 19 0)), (2, .int 0), (0, .ref (r 0)), (1, .int z1)]) hk dX12_levelsFirst_23 (by decide) rfl ?_
  refine g_iconst (v := 0) hk dX12_levelsFirst_25 (by decide) ?_
  refine g_istore (lv' := [(6, .int 0), (5, .int (A 19 0)), (4, .int (A 19 0)), (3, .int (A 19 0)), (2, .int 0), (0, .ref (r 0)), (1, .int z1)]) hk dX12_levelsFirst_26 (by decide) rfl ?_
  have lp18699 : ∀ (n18700 : Nat) (x18118 : Int32) (x18120 : Int32) (x18121 : Int32) (x18122 : Int32), (0 ≤ x18118.toInt) → (x18118.toInt ≤ 16) → (17 - x18118.toInt < (n18700 : Int)) → (0 < n18700) → GW κ 8 0 0 (wM r g I A L) 28 [(6, .int x18118), (5, .int (A 19 0)), (4, .int x18120), (3, .int x18121), (2, .int x18122), (0, .ref (r 0)), (1, .int z1)] [] := by
    intro n18700
    induction n18700 with
    | zero =>
      intro x18118 x18120 x18121 x18122 h18697 h18698 m18701 m18701z
      exact absurd m18701z (Nat.lt_irrefl 0)
    | succ n18700 ih18702 =>
      intro x18118 x18120 x18121 x18122 h18697 h18698 m18701 m18701z
      refine g_iload hk dX12_levelsFirst_28 rfl ?_
      refine g_iload_n hk dX12_levelsFirst_30 rfl ?_
      refine g_icmp_ge (tgt := 90) (a := x18118.toInt) (b := z1.toInt) hk dX12_levelsFirst_31 (by decide) rfl rfl (fun c18703 => ?_) (fun c18703 => ?_)
      · skip
        refine g_iload_n hk dX12_levelsFirst_90 rfl ?_
        refine g_iload_n hk dX12_levelsFirst_91 rfl ?_
        refine g_callS (n := 2) hk (j155_X12_downBy l D zt r g I A L x18122 z1 hIv (by omega)) (SP.same _) (fun _ h => h) (gi_S (List.mem_cons_of_mem _ (List.mem_append_left _ (List.mem_of_getElem? (i := 1) rfl))) (List.mem_cons_of_mem _ (List.mem_append_left _ (List.mem_of_getElem? (i := 2) rfl))) (List.mem_cons_of_mem _ (List.mem_append_left _ (List.mem_of_getElem? (i := 3) rfl))) (gi_sub (fun w h => (List.mem_cons_of_mem _ (List.mem_append_right _ (List.mem_append_right _ (List.mem_append_left _ h))))) zg_j155_X12_downBy)) rfl rfl rfl (by decide +kernel) ⟨Nat.le_of_ble_eq_true rfl, Nat.le_of_ble_eq_true rfl⟩ rfl rfl (Nat.le_of_ble_eq_true rfl) ⟨Nat.le_of_ble_eq_true rfl, Nat.le_of_ble_eq_true rfl⟩ dX12_levelsFirst_92 (fun v ty' w' hp hk' => ?_)
        obtain ⟨y18704, rfl, rfl⟩ := hp
        show GW κ 8 0 0 (wM r g I A L) 95 [(6, .int x18118), (5, .int (A 19 0)), (4, .int x18120), (3, .int x18121), (2, .int x18122), (0, .ref (r 0)), (1, .int z1)] [.int y18704]
        refine g_istore (lv' := [(6, .int y18704), (5, .int (A 19 0)), (4, .int x18120), (3, .int x18121), (2, .int x18122), (0, .ref (r 0)), (1, .int z1)]) hk dX12_levelsFirst_95 (by decide) rfl ?_
        refine g_iconst (v := 0) hk dX12_levelsFirst_97 (by decide) ?_
        refine g_istore (lv' := [(7, .int 0), (6, .int y18704), (5, .int (A 19 0)), (4, .int x18120), (3, .int x18121), (2, .int x18122), (0, .ref (r 0)), (1, .int z1)]) hk dX12_levelsFirst_98 (by decide) rfl ?_
        have lp18814 : ∀ (n18815 : Nat) (x18705 : Int32) (I18713 : Nat → Int32) (A18713 : Nat → Nat → Int32) (L18713 : Nat → Nat → Int64), (Md [] I I18713) → (Md [19] A A18713) → (IvM I18713 A18713) → (0 ≤ x18705.toInt) → (x18705.toInt ≤ 16) → (17 - x18705.toInt < (n18815 : Int)) → (0 < n18815) → GW κ 8 0 0 (wM r g I18713 A18713 L18713) 100 [(7, .int x18705), (6, .int y18704), (5, .int (A 19 0)), (4, .int x18120), (3, .int x18121), (2, .int x18122), (0, .ref (r 0)), (1, .int z1)] [] := by
          intro n18815
          induction n18815 with
          | zero =>
            intro x18705 I18713 A18713 L18713 hI18713 hA18713 hV18713 h18812 h18813 m18816 m18816z
            exact absurd m18816z (Nat.lt_irrefl 0)
          | succ n18815 ih18817 =>
            intro x18705 I18713 A18713 L18713 hI18713 hA18713 hV18713 h18812 h18813 m18816 m18816z
            refine g_iload hk dX12_levelsFirst_100 rfl ?_
            refine g_iload_n hk dX12_levelsFirst_102 rfl ?_
            refine g_icmp_ge (tgt := 214) (a := x18705.toInt) (b := z1.toInt) hk dX12_levelsFirst_103 (by decide) rfl rfl (fun c18818 => ?_) (fun c18818 => ?_)
            · skip
              exact g_vret hk hR ⟨I18713, A18713, L18713, (show Md [] I I18713 from (Md.tr Md.rf hI18713 rfl)), (show Md [19] A A18713 from (Md.tr Md.rf hA18713 rfl)), hV18713, rfl, rfl⟩ dX12_levelsFirst_214
            · skip
              refine g_aload_n hk dX12_levelsFirst_106 rfl ?_
              refine gM_r0_36 hk hin12 (List.mem_cons_of_mem _ (List.mem_append_left _ (List.mem_of_getElem? (i := 4) rfl))) dX12_levelsFirst_107 ?_
              refine g_sipush (v := 162) hk dX12_levelsFirst_110 (by decide) ?_
              refine lM_18 (v := (A 18 162)) hk (vp_in_iff.mpr ⟨by decide, by decide⟩) (congrFun (hA18713 18 rfl) _) dX12_levelsFirst_113 ?_
              by_cases c18819 : (A 18 162).toInt = 0
              · refine g_tabIn (tgt := 140) (a := 0) hk dX12_levelsFirst_114 c18819 (by decide) (by decide) rfl (by decide) ?_
                refine g_goto (tgt := 208) hk dX12_levelsFirst_140 (by decide) ?_
                obtain ⟨y18820, ey18820⟩ : ∃ y : Int32, y = x18705 + Int32.ofInt 1 := ⟨_, rfl⟩
                have hy18820 : y18820.toInt = x18705.toInt + 1 := i32_add ey18820 rfl (by decide) (by omega) (by omega)
                refine g_iinc (v := y18820) (lv' := [(7, .int y18820), (6, .int y18704), (5, .int (A 19 0)), (4, .int x18120), (3, .int x18121), (2, .int x18122), (0, .ref (r 0)), (1, .int z1)]) hk 0 dX12_levelsFirst_208 rfl ey18820.symm (by decide) rfl ?_
                refine g_goto (tgt := 100) hk dX12_levelsFirst_211 (by decide) ?_
                exact g_lv (List.forall_mem_cons.mpr ⟨List.mem_of_getElem? (i := 0) rfl, (List.forall_mem_cons.mpr ⟨List.mem_of_getElem? (i := 1) rfl, (List.forall_mem_cons.mpr ⟨List.mem_of_getElem? (i := 2) rfl, (List.forall_mem_cons.mpr ⟨List.mem_of_getElem? (i := 3) rfl, (List.forall_mem_cons.mpr ⟨List.mem_of_getElem? (i := 4) rfl, (List.forall_mem_cons.mpr ⟨List.mem_of_getElem? (i := 5) rfl, (List.forall_mem_cons.mpr ⟨List.mem_of_getElem? (i := 6) rfl, (List.forall_mem_cons.mpr ⟨List.mem_of_getElem? (i := 7) rfl, (fun _ h => absurd h List.not_mem_nil)⟩)⟩)⟩)⟩)⟩)⟩)⟩)⟩) (ih18817 y18820 I18713 A18713 L18713 (show Md [] I I18713 from Md.tr hI18713 (show Md [] I18713 I18713 from Md.rf) rfl) (show Md [19] A A18713 from Md.tr hA18713 (show Md [19] A18713 A18713 from Md.rf) rfl) hV18713 (by omega) (by omega) (by omega) (by omega))
              by_cases c18821 : (A 18 162).toInt = 1
              · refine g_tabIn (tgt := 143) (a := 1) hk dX12_levelsFirst_114 c18821 (by decide) (by decide) rfl (by decide) ?_
                refine g_aload_n hk dX12_levelsFirst_143 rfl ?_
                refine gM_r0_38 hk hin12 (List.mem_cons_of_mem _ (List.mem_append_left _ (List.mem_of_getElem? (i := 0) rfl))) dX12_levelsFirst_144 ?_
                refine g_iload hk dX12_levelsFirst_147 rfl ?_
                refine g_dup2 hk dX12_levelsFirst_149 rfl rfl ?_
                refine lM_19 (v := (A18713 19 x18705.toNatClampNeg)) hk (vp_in_iff.mpr ⟨by omega, by omega⟩) rfl dX12_levelsFirst_150 ?_
                refine g_iload hk dX12_levelsFirst_151 rfl ?_
                have b18822l := Int32.le_toInt (A18713 19 x18705.toNatClampNeg)
                have b18822h := Int32.toInt_lt (A18713 19 x18705.toNatClampNeg)
                have b18823l := Int32.le_toInt y18704
                have b18823h := Int32.toInt_lt y18704
                refine g_isub hk dX12_levelsFirst_153 ?_
                refine g_topi (fun y18824 ey18824 => ?_)
                have hy18824 := i32_sub0 ey18824
                refine sM_19 (j := x18705.toNatClampNeg) hk (vp_in_iff.mpr ⟨by omega, by omega⟩) rfl dX12_levelsFirst_154 ?_
                refine g_goto (tgt := 208) hk dX12_levelsFirst_155 (by decide) ?_
                obtain ⟨y18825, ey18825⟩ : ∃ y : Int32, y = x18705 + Int32.ofInt 1 := ⟨_, rfl⟩
                have hy18825 : y18825.toInt = x18705.toInt + 1 := i32_add ey18825 rfl (by decide) (by omega) (by omega)
                refine g_iinc (v := y18825) (lv' := [(7, .int y18825), (6, .int y18704), (5, .int (A 19 0)), (4, .int x18120), (3, .int x18121), (2, .int x18122), (0, .ref (r 0)), (1, .int z1)]) hk 0 dX12_levelsFirst_208 rfl ey18825.symm (by decide) rfl ?_
                refine g_goto (tgt := 100) hk dX12_levelsFirst_211 (by decide) ?_
                exact g_lv (List.forall_mem_cons.mpr ⟨List.mem_of_getElem? (i := 0) rfl, (List.forall_mem_cons.mpr ⟨List.mem_of_getElem? (i := 1) rfl, (List.forall_mem_cons.mpr ⟨List.mem_of_getElem? (i := 2) rfl, (List.forall_mem_cons.mpr ⟨List.mem_of_getElem? (i := 3) rfl, (List.forall_mem_cons.mpr ⟨List.mem_of_getElem? (i := 4) rfl, (List.forall_mem_cons.mpr ⟨List.mem_of_getElem? (i := 5) rfl, (List.forall_mem_cons.mpr ⟨List.mem_of_getElem? (i := 6) rfl, (List.forall_mem_cons.mpr ⟨List.mem_of_getElem? (i := 7) rfl, (fun _ h => absurd h List.not_mem_nil)⟩)⟩)⟩)⟩)⟩)⟩)⟩)⟩) (ih18817 y18825 I18713 (up3 A18713 19 (x18705.toNatClampNeg) y18824) L18713 (show Md [] I I18713 from Md.tr hI18713 (show Md [] I18713 I18713 from Md.rf) rfl) (show Md [19] A (up3 A18713 19 (x18705.toNatClampNeg) y18824) from Md.tr hA18713 (show Md [19] A18713 (up3 A18713 19 (x18705.toNatClampNeg) y18824) from (Md.up3 Md.rf rfl)) rfl) ⟨(IvM_f1 (I := I18713) (A := A18713) hV18713), (IvM_f2 (I := I18713) (A := A18713) hV18713), (IvM_f3 (I := I18713) (A := A18713) hV18713), (IvM_f4 (I := I18713) (A := A18713) hV18713), (IvM_f6 (I := I18713) (A := A18713) hV18713), (IvM_f8 (I := I18713) (A := A18713) hV18713), (IvM_f15 (I := I18713) (A := A18713) hV18713), (IvM_f16 (I := I18713) (A := A18713) hV18713), (IvM_f17 (I := I18713) (A := A18713) hV18713), (IvM_f18 (I := I18713) (A := A18713) hV18713), (IvM_f22 (I := I18713) (A := A18713) hV18713), (IvM_f23 (I := I18713) (A := A18713) hV18713), (IvM_f24 (I := I18713) (A := A18713) hV18713), (IvM_a11 (I := I18713) (A := A18713) hV18713), (IvM_a26 (I := I18713) (A := A18713) hV18713), (IvM_s8_0 (I := I18713) (A := A18713) hV18713), (IvM_s8_1 (I := I18713) (A := A18713) hV18713), (IvM_s10_0 (I := I18713) (A := A18713) hV18713), (IvM_s10_1 (I := I18713) (A := A18713) hV18713), (IvM_s17_0 (I := I18713) (A := A18713) hV18713), (IvM_s17_164 (I := I18713) (A := A18713) hV18713), (IvM_lv (I := I18713) (A := A18713) hV18713), (IvM_sd (I := I18713) (A := A18713) hV18713), (IvM_nq (I := I18713) (A := A18713) hV18713), (IvM_hr (I := I18713) (A := A18713) hV18713), (IvM_hh (I := I18713) (A := A18713) hV18713), trivial⟩ (by omega) (by omega) (by omega) (by omega))
              by_cases c18826 : (A 18 162).toInt = 2
              · refine g_tabIn (tgt := 158) (a := 2) hk dX12_levelsFirst_114 c18826 (by decide) (by decide) rfl (by decide) ?_
                refine g_aload_n hk dX12_levelsFirst_158 rfl ?_
                refine gM_r0_38 hk hin12 (List.mem_cons_of_mem _ (List.mem_append_left _ (List.mem_of_getElem? (i := 0) rfl))) dX12_levelsFirst_159 ?_
                refine g_iload hk dX12_levelsFirst_162 rfl ?_
                refine g_dup2 hk dX12_levelsFirst_164 rfl rfl ?_
                refine lM_19 (v := (A18713 19 x18705.toNatClampNeg)) hk (vp_in_iff.mpr ⟨by omega, by omega⟩) rfl dX12_levelsFirst_165 ?_
                refine g_iload hk dX12_levelsFirst_166 rfl ?_
                have b18827l := Int32.le_toInt (A18713 19 x18705.toNatClampNeg)
                have b18827h := Int32.toInt_lt (A18713 19 x18705.toNatClampNeg)
                have b18828l := Int32.le_toInt (A 19 0)
                have b18828h := Int32.toInt_lt (A 19 0)
                refine g_isub hk dX12_levelsFirst_168 ?_
                refine g_topi (fun y18829 ey18829 => ?_)
                have hy18829 := i32_sub0 ey18829
                refine sM_19 (j := x18705.toNatClampNeg) hk (vp_in_iff.mpr ⟨by omega, by omega⟩) rfl dX12_levelsFirst_169 ?_
                refine g_goto (tgt := 208) hk dX12_levelsFirst_170 (by decide) ?_
                obtain ⟨y18830, ey18830⟩ : ∃ y : Int32, y = x18705 + Int32.ofInt 1 := ⟨_, rfl⟩
                have hy18830 : y18830.toInt = x18705.toInt + 1 := i32_add ey18830 rfl (by decide) (by omega) (by omega)
                refine g_iinc (v := y18830) (lv' := [(7, .int y18830), (6, .int y18704), (5, .int (A 19 0)), (4, .int x18120), (3, .int x18121), (2, .int x18122), (0, .ref (r 0)), (1, .int z1)]) hk 0 dX12_levelsFirst_208 rfl ey18830.symm (by decide) rfl ?_
                refine g_goto (tgt := 100) hk dX12_levelsFirst_211 (by decide) ?_
                exact g_lv (List.forall_mem_cons.mpr ⟨List.mem_of_getElem? (i := 0) rfl, (List.forall_mem_cons.mpr ⟨List.mem_of_getElem? (i := 1) rfl, (List.forall_mem_cons.mpr ⟨List.mem_of_getElem? (i := 2) rfl, (List.forall_mem_cons.mpr ⟨List.mem_of_getElem? (i := 3) rfl, (List.forall_mem_cons.mpr ⟨List.mem_of_getElem? (i := 4) rfl, (List.forall_mem_cons.mpr ⟨List.mem_of_getElem? (i := 5) rfl, (List.forall_mem_cons.mpr ⟨List.mem_of_getElem? (i := 6) rfl, (List.forall_mem_cons.mpr ⟨List.mem_of_getElem? (i := 7) rfl, (fun _ h => absurd h List.not_mem_nil)⟩)⟩)⟩)⟩)⟩)⟩)⟩)⟩) (ih18817 y18830 I18713 (up3 A18713 19 (x18705.toNatClampNeg) y18829) L18713 (show Md [] I I18713 from Md.tr hI18713 (show Md [] I18713 I18713 from Md.rf) rfl) (show Md [19] A (up3 A18713 19 (x18705.toNatClampNeg) y18829) from Md.tr hA18713 (show Md [19] A18713 (up3 A18713 19 (x18705.toNatClampNeg) y18829) from (Md.up3 Md.rf rfl)) rfl) ⟨(IvM_f1 (I := I18713) (A := A18713) hV18713), (IvM_f2 (I := I18713) (A := A18713) hV18713), (IvM_f3 (I := I18713) (A := A18713) hV18713), (IvM_f4 (I := I18713) (A := A18713) hV18713), (IvM_f6 (I := I18713) (A := A18713) hV18713), (IvM_f8 (I := I18713) (A := A18713) hV18713), (IvM_f15 (I := I18713) (A := A18713) hV18713), (IvM_f16 (I := I18713) (A := A18713) hV18713), (IvM_f17 (I := I18713) (A := A18713) hV18713), (IvM_f18 (I := I18713) (A := A18713) hV18713), (IvM_f22 (I := I18713) (A := A18713) hV18713), (IvM_f23 (I := I18713) (A := A18713) hV18713), (IvM_f24 (I := I18713) (A := A18713) hV18713), (IvM_a11 (I := I18713) (A := A18713) hV18713), (IvM_a26 (I := I18713) (A := A18713) hV18713), (IvM_s8_0 (I := I18713) (A := A18713) hV18713), (IvM_s8_1 (I := I18713) (A := A18713) hV18713), (IvM_s10_0 (I := I18713) (A := A18713) hV18713), (IvM_s10_1 (I := I18713) (A := A18713) hV18713), (IvM_s17_0 (I := I18713) (A := A18713) hV18713), (IvM_s17_164 (I := I18713) (A := A18713) hV18713), (IvM_lv (I := I18713) (A := A18713) hV18713), (IvM_sd (I := I18713) (A := A18713) hV18713), (IvM_nq (I := I18713) (A := A18713) hV18713), (IvM_hr (I := I18713) (A := A18713) hV18713), (IvM_hh (I := I18713) (A := A18713) hV18713), trivial⟩ (by omega) (by omega) (by omega) (by omega))
              refine g_tabOut (tgt := 173) (a := (A 18 162).toInt) hk dX12_levelsFirst_114 rfl (by omega) (by decide) ?_
              refine g_aload_n hk dX12_levelsFirst_173 rfl ?_
              refine gM_r0_38 hk hin12 (List.mem_cons_of_mem _ (List.mem_append_left _ (List.mem_of_getElem? (i := 0) rfl))) dX12_levelsFirst_174 ?_
              refine g_iload hk dX12_levelsFirst_177 rfl ?_
              refine g_iload hk dX12_levelsFirst_179 rfl ?_
              refine g_iload_n hk dX12_levelsFirst_181 rfl ?_
              have b18831l := Int32.le_toInt x18120
              have b18831h := Int32.toInt_lt x18120
              have b18832l := Int32.le_toInt x18121
              have b18832h := Int32.toInt_lt x18121
              refine g_icmp_ne (tgt := 189) (a := x18120.toInt) (b := x18121.toInt) hk dX12_levelsFirst_182 (by decide) rfl rfl (fun c18833 => ?_) (fun c18833 => ?_)
              · skip
                refine g_sipush (v := 1000) hk dX12_levelsFirst_189 (by decide) ?_
                refine g_aload_n hk dX12_levelsFirst_192 rfl ?_
                refine gM_r0_38 hk hin12 (List.mem_cons_of_mem _ (List.mem_append_left _ (List.mem_of_getElem? (i := 0) rfl))) dX12_levelsFirst_193 ?_
                refine g_iload hk dX12_levelsFirst_196 rfl ?_
                refine lM_19 (v := (A18713 19 x18705.toNatClampNeg)) hk (vp_in_iff.mpr ⟨by omega, by omega⟩) rfl dX12_levelsFirst_198 ?_
                refine g_iload_n hk dX12_levelsFirst_199 rfl ?_
                have b18834l := Int32.le_toInt (A18713 19 x18705.toNatClampNeg)
                have b18834h := Int32.toInt_lt (A18713 19 x18705.toNatClampNeg)
                refine g_isub hk dX12_levelsFirst_200 ?_
                refine g_topi (fun y18835 ey18835 => ?_)
                have hy18835 := i32_sub0 ey18835
                have b18836l := Int32.le_toInt y18835
                have b18836h := Int32.toInt_lt y18835
                refine g_imul hk dX12_levelsFirst_201 ?_
                refine g_topi (fun y18837 ey18837 => ?_)
                refine g_iload hk dX12_levelsFirst_202 rfl ?_
                refine g_iload_n hk dX12_levelsFirst_204 rfl ?_
                refine g_isub hk dX12_levelsFirst_205 ?_
                refine g_topi (fun y18838 ey18838 => ?_)
                have hy18838 := i32_sub0 ey18838
                have b18839l := Int32.le_toInt y18838
                have b18839h := Int32.toInt_lt y18838
                refine g_idiv hk dX12_levelsFirst_206 (i32_ne0 (by omega)) ?_
                refine g_topi (fun y18840 ey18840 => ?_)
                refine sM_19 (j := x18705.toNatClampNeg) hk (vp_in_iff.mpr ⟨by omega, by omega⟩) rfl dX12_levelsFirst_207 ?_
                obtain ⟨y18841, ey18841⟩ : ∃ y : Int32, y = x18705 + Int32.ofInt 1 := ⟨_, rfl⟩
                have hy18841 : y18841.toInt = x18705.toInt + 1 := i32_add ey18841 rfl (by decide) (by omega) (by omega)
                refine g_iinc (v := y18841) (lv' := [(7, .int y18841), (6, .int y18704), (5, .int (A 19 0)), (4, .int x18120), (3, .int x18121), (2, .int x18122), (0, .ref (r 0)), (1, .int z1)]) hk 0 dX12_levelsFirst_208 rfl ey18841.symm (by decide) rfl ?_
                refine g_goto (tgt := 100) hk dX12_levelsFirst_211 (by decide) ?_
                exact g_lv (List.forall_mem_cons.mpr ⟨List.mem_of_getElem? (i := 0) rfl, (List.forall_mem_cons.mpr ⟨List.mem_of_getElem? (i := 1) rfl, (List.forall_mem_cons.mpr ⟨List.mem_of_getElem? (i := 2) rfl, (List.forall_mem_cons.mpr ⟨List.mem_of_getElem? (i := 3) rfl, (List.forall_mem_cons.mpr ⟨List.mem_of_getElem? (i := 4) rfl, (List.forall_mem_cons.mpr ⟨List.mem_of_getElem? (i := 5) rfl, (List.forall_mem_cons.mpr ⟨List.mem_of_getElem? (i := 6) rfl, (List.forall_mem_cons.mpr ⟨List.mem_of_getElem? (i := 7) rfl, (fun _ h => absurd h List.not_mem_nil)⟩)⟩)⟩)⟩)⟩)⟩)⟩)⟩) (ih18817 y18841 I18713 (up3 A18713 19 (x18705.toNatClampNeg) y18840) L18713 (show Md [] I I18713 from Md.tr hI18713 (show Md [] I18713 I18713 from Md.rf) rfl) (show Md [19] A (up3 A18713 19 (x18705.toNatClampNeg) y18840) from Md.tr hA18713 (show Md [19] A18713 (up3 A18713 19 (x18705.toNatClampNeg) y18840) from (Md.up3 Md.rf rfl)) rfl) ⟨(IvM_f1 (I := I18713) (A := A18713) hV18713), (IvM_f2 (I := I18713) (A := A18713) hV18713), (IvM_f3 (I := I18713) (A := A18713) hV18713), (IvM_f4 (I := I18713) (A := A18713) hV18713), (IvM_f6 (I := I18713) (A := A18713) hV18713), (IvM_f8 (I := I18713) (A := A18713) hV18713), (IvM_f15 (I := I18713) (A := A18713) hV18713), (IvM_f16 (I := I18713) (A := A18713) hV18713), (IvM_f17 (I := I18713) (A := A18713) hV18713), (IvM_f18 (I := I18713) (A := A18713) hV18713), (IvM_f22 (I := I18713) (A := A18713) hV18713), (IvM_f23 (I := I18713) (A := A18713) hV18713), (IvM_f24 (I := I18713) (A := A18713) hV18713), (IvM_a11 (I := I18713) (A := A18713) hV18713), (IvM_a26 (I := I18713) (A := A18713) hV18713), (IvM_s8_0 (I := I18713) (A := A18713) hV18713), (IvM_s8_1 (I := I18713) (A := A18713) hV18713), (IvM_s10_0 (I := I18713) (A := A18713) hV18713), (IvM_s10_1 (I := I18713) (A := A18713) hV18713), (IvM_s17_0 (I := I18713) (A := A18713) hV18713), (IvM_s17_164 (I := I18713) (A := A18713) hV18713), (IvM_lv (I := I18713) (A := A18713) hV18713), (IvM_sd (I := I18713) (A := A18713) hV18713), (IvM_nq (I := I18713) (A := A18713) hV18713), (IvM_hr (I := I18713) (A := A18713) hV18713), (IvM_hh (I := I18713) (A := A18713) hV18713), trivial⟩ (by omega) (by omega) (by omega) (by omega))
              · skip
                refine g_iconst (v := 0) hk dX12_levelsFirst_185 (by decide) ?_
                refine g_goto (tgt := 207) hk dX12_levelsFirst_186 (by decide) ?_
                have k18842 : (0 : Int32).toInt = 0 := rfl
                refine sM_19 (j := x18705.toNatClampNeg) hk (vp_in_iff.mpr ⟨by omega, by omega⟩) rfl dX12_levelsFirst_207 ?_
                obtain ⟨y18843, ey18843⟩ : ∃ y : Int32, y = x18705 + Int32.ofInt 1 := ⟨_, rfl⟩
                have hy18843 : y18843.toInt = x18705.toInt + 1 := i32_add ey18843 rfl (by decide) (by omega) (by omega)
                refine g_iinc (v := y18843) (lv' := [(7, .int y18843), (6, .int y18704), (5, .int (A 19 0)), (4, .int x18120), (3, .int x18121), (2, .int x18122), (0, .ref (r 0)), (1, .int z1)]) hk 0 dX12_levelsFirst_208 rfl ey18843.symm (by decide) rfl ?_
                refine g_goto (tgt := 100) hk dX12_levelsFirst_211 (by decide) ?_
                exact g_lv (List.forall_mem_cons.mpr ⟨List.mem_of_getElem? (i := 0) rfl, (List.forall_mem_cons.mpr ⟨List.mem_of_getElem? (i := 1) rfl, (List.forall_mem_cons.mpr ⟨List.mem_of_getElem? (i := 2) rfl, (List.forall_mem_cons.mpr ⟨List.mem_of_getElem? (i := 3) rfl, (List.forall_mem_cons.mpr ⟨List.mem_of_getElem? (i := 4) rfl, (List.forall_mem_cons.mpr ⟨List.mem_of_getElem? (i := 5) rfl, (List.forall_mem_cons.mpr ⟨List.mem_of_getElem? (i := 6) rfl, (List.forall_mem_cons.mpr ⟨List.mem_of_getElem? (i := 7) rfl, (fun _ h => absurd h List.not_mem_nil)⟩)⟩)⟩)⟩)⟩)⟩)⟩)⟩) (ih18817 y18843 I18713 (up3 A18713 19 (x18705.toNatClampNeg) 0) L18713 (show Md [] I I18713 from Md.tr hI18713 (show Md [] I18713 I18713 from Md.rf) rfl) (show Md [19] A (up3 A18713 19 (x18705.toNatClampNeg) 0) from Md.tr hA18713 (show Md [19] A18713 (up3 A18713 19 (x18705.toNatClampNeg) 0) from (Md.up3 Md.rf rfl)) rfl) ⟨(IvM_f1 (I := I18713) (A := A18713) hV18713), (IvM_f2 (I := I18713) (A := A18713) hV18713), (IvM_f3 (I := I18713) (A := A18713) hV18713), (IvM_f4 (I := I18713) (A := A18713) hV18713), (IvM_f6 (I := I18713) (A := A18713) hV18713), (IvM_f8 (I := I18713) (A := A18713) hV18713), (IvM_f15 (I := I18713) (A := A18713) hV18713), (IvM_f16 (I := I18713) (A := A18713) hV18713), (IvM_f17 (I := I18713) (A := A18713) hV18713), (IvM_f18 (I := I18713) (A := A18713) hV18713), (IvM_f22 (I := I18713) (A := A18713) hV18713), (IvM_f23 (I := I18713) (A := A18713) hV18713), (IvM_f24 (I := I18713) (A := A18713) hV18713), (IvM_a11 (I := I18713) (A := A18713) hV18713), (IvM_a26 (I := I18713) (A := A18713) hV18713), (IvM_s8_0 (I := I18713) (A := A18713) hV18713), (IvM_s8_1 (I := I18713) (A := A18713) hV18713), (IvM_s10_0 (I := I18713) (A := A18713) hV18713), (IvM_s10_1 (I := I18713) (A := A18713) hV18713), (IvM_s17_0 (I := I18713) (A := A18713) hV18713), (IvM_s17_164 (I := I18713) (A := A18713) hV18713), (IvM_lv (I := I18713) (A := A18713) hV18713), (IvM_sd (I := I18713) (A := A18713) hV18713), (IvM_nq (I := I18713) (A := A18713) hV18713), (IvM_hr (I := I18713) (A := A18713) hV18713), (IvM_hh (I := I18713) (A := A18713) hV18713), trivial⟩ (by omega) (by omega) (by omega) (by omega))
        have k18844 : (0 : Int32).toInt = 0 := rfl
        obtain ⟨n18845, n18845a, n18845b⟩ : ∃ n : Nat, 17 - (0 : Int32).toInt < (n : Int) ∧ 0 < n := ⟨((17 - (0 : Int32).toInt : Int)).toNat + 1, by omega, by omega⟩
        exact lp18814 n18845 0 I A L Md.rf Md.rf hIv (by omega) (by omega) n18845a n18845b
      · skip
        refine g_iload_n hk dX12_levelsFirst_34 rfl ?_
        refine g_aload_n hk dX12_levelsFirst_35 rfl ?_
        refine gM_r0_38 hk hin12 (List.mem_cons_of_mem _ (List.mem_append_left _ (List.mem_of_getElem? (i := 0) rfl))) dX12_levelsFirst_36 ?_
        refine g_iload hk dX12_levelsFirst_39 rfl ?_
        refine lM_19 (v := (A 19 x18118.toNatClampNeg)) hk (vp_in_iff.mpr ⟨by omega, by omega⟩) rfl dX12_levelsFirst_41 ?_
        have b18846l := Int32.le_toInt x18122
        have b18846h := Int32.toInt_lt x18122
        have b18847l := Int32.le_toInt (A 19 x18118.toNatClampNeg)
        have b18847h := Int32.toInt_lt (A 19 x18118.toNatClampNeg)
        refine g_iadd hk dX12_levelsFirst_42 ?_
        refine g_topi (fun y18848 ey18848 => ?_)
        refine g_istore_n (lv' := [(2, .int y18848), (6, .int x18118), (5, .int (A 19 0)), (4, .int x18120), (3, .int x18121), (0, .ref (r 0)), (1, .int z1)]) hk dX12_levelsFirst_43 (by decide) rfl ?_
        refine g_aload_n hk dX12_levelsFirst_44 rfl ?_
        refine gM_r0_38 hk hin12 (List.mem_cons_of_mem _ (List.mem_append_left _ (List.mem_of_getElem? (i := 0) rfl))) dX12_levelsFirst_45 ?_
        refine g_iload hk dX12_levelsFirst_48 rfl ?_
        refine lM_19 (v := (A 19 x18118.toNatClampNeg)) hk (vp_in_iff.mpr ⟨by omega, by omega⟩) rfl dX12_levelsFirst_50 ?_
        refine g_iload_n hk dX12_levelsFirst_51 rfl ?_
        have b18849l := Int32.le_toInt x18121
        have b18849h := Int32.toInt_lt x18121
        refine g_icmp_ge (tgt := 63) (a := (A 19 x18118.toNatClampNeg).toInt) (b := x18121.toInt) hk dX12_levelsFirst_52 (by decide) rfl rfl (fun c18850 => ?_) (fun c18850 => ?_)
        · skip
          refine g_aload_n hk dX12_levelsFirst_63 rfl ?_
          refine gM_r0_38 hk hin12 (List.mem_cons_of_mem _ (List.mem_append_left _ (List.mem_of_getElem? (i := 0) rfl))) dX12_levelsFirst_64 ?_
          refine g_iload hk dX12_levelsFirst_67 rfl ?_
          refine lM_19 (v := (A 19 x18118.toNatClampNeg)) hk (vp_in_iff.mpr ⟨by omega, by omega⟩) rfl dX12_levelsFirst_69 ?_
          refine g_iload hk dX12_levelsFirst_70 rfl ?_
          have b18851l := Int32.le_toInt x18120
          have b18851h := Int32.toInt_lt x18120
          refine g_icmp_le (tgt := 84) (a := (A 19 x18118.toNatClampNeg).toInt) (b := x18120.toInt) hk dX12_levelsFirst_72 (by decide) rfl rfl (fun c18852 => ?_) (fun c18852 => ?_)
          · skip
            obtain ⟨y18853, ey18853⟩ : ∃ y : Int32, y = x18118 + Int32.ofInt 1 := ⟨_, rfl⟩
            have hy18853 : y18853.toInt = x18118.toInt + 1 := i32_add ey18853 rfl (by decide) (by omega) (by omega)
            refine g_iinc (v := y18853) (lv' := [(6, .int y18853), (2, .int y18848), (5, .int (A 19 0)), (4, .int x18120), (3, .int x18121), (0, .ref (r 0)), (1, .int z1)]) hk 1 dX12_levelsFirst_84 rfl ey18853.symm (by decide) rfl ?_
            refine g_goto (tgt := 28) hk dX12_levelsFirst_87 (by decide) ?_
            have b18854l := Int32.le_toInt y18848
            have b18854h := Int32.toInt_lt y18848
            exact g_lv (List.forall_mem_cons.mpr ⟨List.mem_of_getElem? (i := 0) rfl, (List.forall_mem_cons.mpr ⟨List.mem_of_getElem? (i := 2) rfl, (List.forall_mem_cons.mpr ⟨List.mem_of_getElem? (i := 3) rfl, (List.forall_mem_cons.mpr ⟨List.mem_of_getElem? (i := 4) rfl, (List.forall_mem_cons.mpr ⟨List.mem_of_getElem? (i := 1) rfl, (List.forall_mem_cons.mpr ⟨List.mem_of_getElem? (i := 5) rfl, (List.forall_mem_cons.mpr ⟨List.mem_of_getElem? (i := 6) rfl, (fun _ h => absurd h List.not_mem_nil)⟩)⟩)⟩)⟩)⟩)⟩)⟩) (ih18702 y18853 x18120 x18121 y18848 (by omega) (by omega) (by omega) (by omega))
          · skip
            refine g_aload_n hk dX12_levelsFirst_75 rfl ?_
            refine gM_r0_38 hk hin12 (List.mem_cons_of_mem _ (List.mem_append_left _ (List.mem_of_getElem? (i := 0) rfl))) dX12_levelsFirst_76 ?_
            refine g_iload hk dX12_levelsFirst_79 rfl ?_
            refine lM_19 (v := (A 19 x18118.toNatClampNeg)) hk (vp_in_iff.mpr ⟨by omega, by omega⟩) rfl dX12_levelsFirst_81 ?_
            refine g_istore (lv' := [(4, .int (A 19 x18118.toNatClampNeg)), (2, .int y18848), (6, .int x18118), (5, .int (A 19 0)), (3, .int x18121), (0, .ref (r 0)), (1, .int z1)]) hk dX12_levelsFirst_82 (by decide) rfl ?_
            obtain ⟨y18855, ey18855⟩ : ∃ y : Int32, y = x18118 + Int32.ofInt 1 := ⟨_, rfl⟩
            have hy18855 : y18855.toInt = x18118.toInt + 1 := i32_add ey18855 rfl (by decide) (by omega) (by omega)
            refine g_iinc (v := y18855) (lv' := [(6, .int y18855), (4, .int (A 19 x18118.toNatClampNeg)), (2, .int y18848), (5, .int (A 19 0)), (3, .int x18121), (0, .ref (r 0)), (1, .int z1)]) hk 2 dX12_levelsFirst_84 rfl ey18855.symm (by decide) rfl ?_
            refine g_goto (tgt := 28) hk dX12_levelsFirst_87 (by decide) ?_
            have b18856l := Int32.le_toInt y18848
            have b18856h := Int32.toInt_lt y18848
            exact g_lv (List.forall_mem_cons.mpr ⟨List.mem_of_getElem? (i := 0) rfl, (List.forall_mem_cons.mpr ⟨List.mem_of_getElem? (i := 3) rfl, (List.forall_mem_cons.mpr ⟨List.mem_of_getElem? (i := 1) rfl, (List.forall_mem_cons.mpr ⟨List.mem_of_getElem? (i := 4) rfl, (List.forall_mem_cons.mpr ⟨List.mem_of_getElem? (i := 2) rfl, (List.forall_mem_cons.mpr ⟨List.mem_of_getElem? (i := 5) rfl, (List.forall_mem_cons.mpr ⟨List.mem_of_getElem? (i := 6) rfl, (fun _ h => absurd h List.not_mem_nil)⟩)⟩)⟩)⟩)⟩)⟩)⟩) (ih18702 y18855 (A 19 x18118.toNatClampNeg) x18121 y18848 (by omega) (by omega) (by omega) (by omega))
        · skip
          refine g_aload_n hk dX12_levelsFirst_55 rfl ?_
          refine gM_r0_38 hk hin12 (List.mem_cons_of_mem _ (List.mem_append_left _ (List.mem_of_getElem? (i := 0) rfl))) dX12_levelsFirst_56 ?_
          refine g_iload hk dX12_levelsFirst_59 rfl ?_
          refine lM_19 (v := (A 19 x18118.toNatClampNeg)) hk (vp_in_iff.mpr ⟨by omega, by omega⟩) rfl dX12_levelsFirst_61 ?_
          refine g_istore_n (lv' := [(3, .int (A 19 x18118.toNatClampNeg)), (2, .int y18848), (6, .int x18118), (5, .int (A 19 0)), (4, .int x18120), (0, .ref (r 0)), (1, .int z1)]) hk dX12_levelsFirst_62 (by decide) rfl ?_
          refine g_aload_n hk dX12_levelsFirst_63 rfl ?_
          refine gM_r0_38 hk hin12 (List.mem_cons_of_mem _ (List.mem_append_left _ (List.mem_of_getElem? (i := 0) rfl))) dX12_levelsFirst_64 ?_
          refine g_iload hk dX12_levelsFirst_67 rfl ?_
          refine lM_19 (v := (A 19 x18118.toNatClampNeg)) hk (vp_in_iff.mpr ⟨by omega, by omega⟩) rfl dX12_levelsFirst_69 ?_
          refine g_iload hk dX12_levelsFirst_70 rfl ?_
          have b18857l := Int32.le_toInt x18120
          have b18857h := Int32.toInt_lt x18120
          refine g_icmp_le (tgt := 84) (a := (A 19 x18118.toNatClampNeg).toInt) (b := x18120.toInt) hk dX12_levelsFirst_72 (by decide) rfl rfl (fun c18858 => ?_) (fun c18858 => ?_)
          · skip
            obtain ⟨y18859, ey18859⟩ : ∃ y : Int32, y = x18118 + Int32.ofInt 1 := ⟨_, rfl⟩
            have hy18859 : y18859.toInt = x18118.toInt + 1 := i32_add ey18859 rfl (by decide) (by omega) (by omega)
            refine g_iinc (v := y18859) (lv' := [(6, .int y18859), (3, .int (A 19 x18118.toNatClampNeg)), (2, .int y18848), (5, .int (A 19 0)), (4, .int x18120), (0, .ref (r 0)), (1, .int z1)]) hk 2 dX12_levelsFirst_84 rfl ey18859.symm (by decide) rfl ?_
            refine g_goto (tgt := 28) hk dX12_levelsFirst_87 (by decide) ?_
            have b18860l := Int32.le_toInt y18848
            have b18860h := Int32.toInt_lt y18848
            exact g_lv (List.forall_mem_cons.mpr ⟨List.mem_of_getElem? (i := 0) rfl, (List.forall_mem_cons.mpr ⟨List.mem_of_getElem? (i := 3) rfl, (List.forall_mem_cons.mpr ⟨List.mem_of_getElem? (i := 4) rfl, (List.forall_mem_cons.mpr ⟨List.mem_of_getElem? (i := 1) rfl, (List.forall_mem_cons.mpr ⟨List.mem_of_getElem? (i := 2) rfl, (List.forall_mem_cons.mpr ⟨List.mem_of_getElem? (i := 5) rfl, (List.forall_mem_cons.mpr ⟨List.mem_of_getElem? (i := 6) rfl, (fun _ h => absurd h List.not_mem_nil)⟩)⟩)⟩)⟩)⟩)⟩)⟩) (ih18702 y18859 x18120 (A 19 x18118.toNatClampNeg) y18848 (by omega) (by omega) (by omega) (by omega))
          · skip
            refine g_aload_n hk dX12_levelsFirst_75 rfl ?_
            refine gM_r0_38 hk hin12 (List.mem_cons_of_mem _ (List.mem_append_left _ (List.mem_of_getElem? (i := 0) rfl))) dX12_levelsFirst_76 ?_
            refine g_iload hk dX12_levelsFirst_79 rfl ?_
            refine lM_19 (v := (A 19 x18118.toNatClampNeg)) hk (vp_in_iff.mpr ⟨by omega, by omega⟩) rfl dX12_levelsFirst_81 ?_
            refine g_istore (lv' := [(4, .int (A 19 x18118.toNatClampNeg)), (3, .int (A 19 x18118.toNatClampNeg)), (2, .int y18848), (6, .int x18118), (5, .int (A 19 0)), (0, .ref (r 0)), (1, .int z1)]) hk dX12_levelsFirst_82 (by decide) rfl ?_
            obtain ⟨y18861, ey18861⟩ : ∃ y : Int32, y = x18118 + Int32.ofInt 1 := ⟨_, rfl⟩
            have hy18861 : y18861.toInt = x18118.toInt + 1 := i32_add ey18861 rfl (by decide) (by omega) (by omega)
            refine g_iinc (v := y18861) (lv' := [(6, .int y18861), (4, .int (A 19 x18118.toNatClampNeg)), (3, .int (A 19 x18118.toNatClampNeg)), (2, .int y18848), (5, .int (A 19 0)), (0, .ref (r 0)), (1, .int z1)]) hk 3 dX12_levelsFirst_84 rfl ey18861.symm (by decide) rfl ?_
            refine g_goto (tgt := 28) hk dX12_levelsFirst_87 (by decide) ?_
            have b18862l := Int32.le_toInt y18848
            have b18862h := Int32.toInt_lt y18848
            exact g_lv (List.forall_mem_cons.mpr ⟨List.mem_of_getElem? (i := 0) rfl, (List.forall_mem_cons.mpr ⟨List.mem_of_getElem? (i := 4) rfl, (List.forall_mem_cons.mpr ⟨List.mem_of_getElem? (i := 1) rfl, (List.forall_mem_cons.mpr ⟨List.mem_of_getElem? (i := 2) rfl, (List.forall_mem_cons.mpr ⟨List.mem_of_getElem? (i := 3) rfl, (List.forall_mem_cons.mpr ⟨List.mem_of_getElem? (i := 5) rfl, (List.forall_mem_cons.mpr ⟨List.mem_of_getElem? (i := 6) rfl, (fun _ h => absurd h List.not_mem_nil)⟩)⟩)⟩)⟩)⟩)⟩)⟩) (ih18702 y18861 (A 19 x18118.toNatClampNeg) (A 19 x18118.toNatClampNeg) y18848 (by omega) (by omega) (by omega) (by omega))
  have k18863 : (0 : Int32).toInt = 0 := rfl
  have b18864l := Int32.le_toInt (A 19 0)
  have b18864h := Int32.toInt_lt (A 19 0)
  obtain ⟨n18865, n18865a, n18865b⟩ : ∃ n : Nat, 17 - (0 : Int32).toInt < (n : Int) ∧ 0 < n := ⟨((17 - (0 : Int32).toInt : Int)).toNat + 1, by omega, by omega⟩
  exact lp18699 n18865 0 (A 19 0) (A 19 0) 0 (by omega) (by omega) n18865a n18865b
def wo_j165_X12_laysWindow : List Cond := [Cond.fieldLink RX12 76 "WarpDeskModel" "firstAt" "[I", Cond.fieldLink RX12 73 "WarpDeskModel" "row" "[I", Cond.methodLink RX12 264 yX12_levelsFirst, Cond.instanceMethod yX12_levelsFirst, Cond.selects RX12 yX12_levelsFirst yX12_levelsFirst, Cond.initialized RX12]
def wz_j165_X12_laysWindow : List Cond := .code yX12_laysWindow cX12_laysWindow 4 none :: (wo_j165_X12_laysWindow ++ (wsX120 ++ (wz_j166_X12_levelsFirst ++ ([] : List Cond))))
theorem zg_j165_X12_laysWindow : ∀ w ∈ wz_j165_X12_laysWindow, goodWord w = true := zg_cons rfl (zg_app (by decide +kernel) (zg_app zgU_wsX120 (zg_app zg_j166_X12_levelsFirst zg_nil)))
theorem zi_j165_X12_laysWindow : ∀ w ∈ wz_j165_X12_laysWindow, w ∈ lw_tbl := zi_cons zw_1738 (zi_app (zi_cons zw_1416 (zi_cons zw_1414 (zi_cons zw_1739 (zi_cons zw_1741 (zi_cons zw_77 (zi_cons zw_115 zi_nil)))))) (zi_app inX12 (zi_app zi_j166_X12_levelsFirst zi_nil)))
set_option maxHeartbeats 4000000 in
set_option maxRecDepth 100000 in
theorem j165_X12_laysWindow (l : Launch) (D : va_G) (zt : Nat × Nat × Nat × (Nat → Nat) × (Nat → Nat)) (r : Nat → Nat) (g : Nat → ClassId) (I : Nat → Int32) (A : Nat → Nat → Int32) (L : Nat → Nat → Int64) (z1 : Int32) (z2 : Int32) (hIv : IvM I A) (hp0 : 0 ≤ z1.toInt) (hp1 : z1.toInt ≤ 159) (hp2 : 1 ≤ z2.toInt) (hp3 : z2.toInt ≤ 16) (hp4 : z1.toInt + z2.toInt ≤ 160) : GM l D zt (tyM g) yX12_laysWindow wz_j165_X12_laysWindow ({ frames := 2, cells := 0, slots := 0, locals := 49 } : Room) [.ref (r 0), .int z1, .int z2] (wM r g I A L) (fun v _ w' => ∃ (I' : Nat → Int32) (A' : Nat → Nat → Int32) (L' : Nat → Nat → Int64), Md [] I I' ∧ Md [19] A A' ∧ IvM I' A' ∧ v = none ∧ w' = wM r g I' A' L') 0 0 := by
  refine GM.of (cc := cX12_laysWindow) (maxL := 4) (ret := none) (own := RX12) (lv := [(0, .ref (r 0)), (1, .int z1), (2, .int z2)]) (by decide) rfl rfl (Nat.le_of_ble_eq_true rfl) rfl (fun κ sz hk hR hN => ?_)
  have hin12 : ∀ w ∈ u_ws RX12 TX12 55, w ∈ wz_j165_X12_laysWindow := fun w h => (List.mem_cons_of_mem _ (List.mem_append_right _ (List.mem_append_left _ h)))
  refine g_iconst (v := 0) hk dX12_laysWindow_0 (by decide) ?_
  refine g_istore_n (lv' := [(3, .int 0), (0, .ref (r 0)), (1, .int z1), (2, .int z2)]) hk dX12_laysWindow_1 (by decide) rfl ?_
  have lp18886 : ∀ (n18887 : Nat) (x18110 : Int32) (I18114 : Nat → Int32) (A18114 : Nat → Nat → Int32) (L18114 : Nat → Nat → Int64), (Md [] I I18114) → (Md [19] A A18114) → (IvM I18114 A18114) → (0 ≤ x18110.toInt) → (x18110.toInt ≤ 16) → (17 - x18110.toInt < (n18887 : Int)) → (0 < n18887) → GW κ 4 0 0 (wM r g I18114 A18114 L18114) 2 [(3, .int x18110), (0, .ref (r 0)), (1, .int z1), (2, .int z2)] [] := by
    intro n18887
    induction n18887 with
    | zero =>
      intro x18110 I18114 A18114 L18114 hI18114 hA18114 hV18114 h18884 h18885 m18888 m18888z
      exact absurd m18888z (Nat.lt_irrefl 0)
    | succ n18887 ih18889 =>
      intro x18110 I18114 A18114 L18114 hI18114 hA18114 hV18114 h18884 h18885 m18888 m18888z
      refine g_iload_n hk dX12_laysWindow_2 rfl ?_
      refine g_iload_n hk dX12_laysWindow_3 rfl ?_
      refine g_icmp_ge (tgt := 29) (a := x18110.toInt) (b := z2.toInt) hk dX12_laysWindow_4 (by decide) rfl rfl (fun c18890 => ?_) (fun c18890 => ?_)
      · skip
        refine g_aload_n hk dX12_laysWindow_29 rfl ?_
        refine g_iload_n hk dX12_laysWindow_30 rfl ?_
        refine g_callV (n := 1) hk (j166_X12_levelsFirst l D zt r g I18114 A18114 L18114 z2 hV18114 (by omega) (by omega)) (SP.same _) (fun _ h => h) (gi_V (List.mem_cons_of_mem _ (List.mem_append_left _ (List.mem_of_getElem? (i := 2) rfl))) (List.mem_cons_of_mem _ (List.mem_append_left _ (List.mem_of_getElem? (i := 3) rfl))) (List.mem_cons_of_mem _ (List.mem_append_left _ (List.mem_of_getElem? (i := 4) rfl))) (List.mem_cons_of_mem _ (List.mem_append_left _ (List.mem_of_getElem? (i := 5) rfl))) (gi_sub (fun w h => (List.mem_cons_of_mem _ (List.mem_append_right _ (List.mem_append_right _ (List.mem_append_left _ h))))) zg_j166_X12_levelsFirst)) rfl rfl rfl (by decide +kernel) ⟨Nat.le_of_ble_eq_true rfl, Nat.le_of_ble_eq_true rfl⟩ 0 rfl rfl rfl rfl (Nat.le_of_ble_eq_true rfl) ⟨Nat.le_of_ble_eq_true rfl, Nat.le_of_ble_eq_true rfl⟩ dX12_laysWindow_31 (fun v ty' w' hp hk' => ?_)
        obtain ⟨I18892, A18892, L18892, hI18892, hA18892, hV18892, rfl, rfl⟩ := hp
        show GW κ 4 0 0 (wM r g I18892 A18892 L18892) 34 [(3, .int x18110), (0, .ref (r 0)), (1, .int z1), (2, .int z2)] []
        exact g_vret hk hR ⟨I18892, A18892, L18892, (show Md [] I I18892 from (Md.tr (Md.tr Md.rf hI18114 rfl) hI18892 rfl)), (show Md [19] A A18892 from (Md.tr (Md.tr Md.rf hA18114 rfl) hA18892 rfl)), hV18892, rfl, rfl⟩ dX12_laysWindow_34
      · skip
        refine g_aload_n hk dX12_laysWindow_7 rfl ?_
        refine gM_r0_38 hk hin12 (List.mem_cons_of_mem _ (List.mem_append_left _ (List.mem_of_getElem? (i := 0) rfl))) dX12_laysWindow_8 ?_
        refine g_iload_n hk dX12_laysWindow_11 rfl ?_
        refine g_aload_n hk dX12_laysWindow_12 rfl ?_
        refine gM_r0_36 hk hin12 (List.mem_cons_of_mem _ (List.mem_append_left _ (List.mem_of_getElem? (i := 1) rfl))) dX12_laysWindow_13 ?_
        refine g_iconst (v := 1) hk dX12_laysWindow_16 (by decide) ?_
        refine g_iload_n hk dX12_laysWindow_17 rfl ?_
        refine g_iadd hk dX12_laysWindow_18 ?_
        refine g_topi (fun y18893 ey18893 => ?_)
        have hy18893 : y18893.toInt = 1 + z1.toInt := i32_add ey18893 rfl rfl (by omega) (by omega)
        refine g_iload_n hk dX12_laysWindow_19 rfl ?_
        refine g_iadd hk dX12_laysWindow_20 ?_
        refine g_topi (fun y18894 ey18894 => ?_)
        have hy18894 : y18894.toInt = y18893.toInt + x18110.toInt := i32_add ey18894 rfl rfl (by omega) (by omega)
        refine lM_18 (v := (A 18 y18894.toNatClampNeg)) hk (vp_in_iff.mpr ⟨by omega, by omega⟩) (congrFun (hA18114 18 rfl) _) dX12_laysWindow_21 ?_
        refine sM_19 (j := x18110.toNatClampNeg) hk (vp_in_iff.mpr ⟨by omega, by omega⟩) rfl dX12_laysWindow_22 ?_
        obtain ⟨y18895, ey18895⟩ : ∃ y : Int32, y = x18110 + Int32.ofInt 1 := ⟨_, rfl⟩
        have hy18895 : y18895.toInt = x18110.toInt + 1 := i32_add ey18895 rfl (by decide) (by omega) (by omega)
        refine g_iinc (v := y18895) (lv' := [(3, .int y18895), (0, .ref (r 0)), (1, .int z1), (2, .int z2)]) hk 0 dX12_laysWindow_23 rfl ey18895.symm (by decide) rfl ?_
        refine g_goto (tgt := 2) hk dX12_laysWindow_26 (by decide) ?_
        exact g_lv (List.forall_mem_cons.mpr ⟨List.mem_of_getElem? (i := 0) rfl, (List.forall_mem_cons.mpr ⟨List.mem_of_getElem? (i := 1) rfl, (List.forall_mem_cons.mpr ⟨List.mem_of_getElem? (i := 2) rfl, (List.forall_mem_cons.mpr ⟨List.mem_of_getElem? (i := 3) rfl, (fun _ h => absurd h List.not_mem_nil)⟩)⟩)⟩)⟩) (ih18889 y18895 I18114 (up3 A18114 19 (x18110.toNatClampNeg) (A 18 y18894.toNatClampNeg)) L18114 (show Md [] I I18114 from Md.tr hI18114 (show Md [] I18114 I18114 from Md.rf) rfl) (show Md [19] A (up3 A18114 19 (x18110.toNatClampNeg) (A 18 y18894.toNatClampNeg)) from Md.tr hA18114 (show Md [19] A18114 (up3 A18114 19 (x18110.toNatClampNeg) (A 18 y18894.toNatClampNeg)) from (Md.up3 Md.rf rfl)) rfl) ⟨(IvM_f1 (I := I18114) (A := A18114) hV18114), (IvM_f2 (I := I18114) (A := A18114) hV18114), (IvM_f3 (I := I18114) (A := A18114) hV18114), (IvM_f4 (I := I18114) (A := A18114) hV18114), (IvM_f6 (I := I18114) (A := A18114) hV18114), (IvM_f8 (I := I18114) (A := A18114) hV18114), (IvM_f15 (I := I18114) (A := A18114) hV18114), (IvM_f16 (I := I18114) (A := A18114) hV18114), (IvM_f17 (I := I18114) (A := A18114) hV18114), (IvM_f18 (I := I18114) (A := A18114) hV18114), (IvM_f22 (I := I18114) (A := A18114) hV18114), (IvM_f23 (I := I18114) (A := A18114) hV18114), (IvM_f24 (I := I18114) (A := A18114) hV18114), (IvM_a11 (I := I18114) (A := A18114) hV18114), (IvM_a26 (I := I18114) (A := A18114) hV18114), (IvM_s8_0 (I := I18114) (A := A18114) hV18114), (IvM_s8_1 (I := I18114) (A := A18114) hV18114), (IvM_s10_0 (I := I18114) (A := A18114) hV18114), (IvM_s10_1 (I := I18114) (A := A18114) hV18114), (IvM_s17_0 (I := I18114) (A := A18114) hV18114), (IvM_s17_164 (I := I18114) (A := A18114) hV18114), (IvM_lv (I := I18114) (A := A18114) hV18114), (IvM_sd (I := I18114) (A := A18114) hV18114), (IvM_nq (I := I18114) (A := A18114) hV18114), (IvM_hr (I := I18114) (A := A18114) hV18114), (IvM_hh (I := I18114) (A := A18114) hV18114), trivial⟩ (by omega) (by omega) (by omega) (by omega))
  have k18896 : (0 : Int32).toInt = 0 := rfl
  obtain ⟨n18897, n18897a, n18897b⟩ : ∃ n : Nat, 17 - (0 : Int32).toInt < (n : Int) ∧ 0 < n := ⟨((17 - (0 : Int32).toInt : Int)).toNat + 1, by omega, by omega⟩
  exact lp18886 n18897 0 I A L Md.rf Md.rf hIv (by omega) (by omega) n18897a n18897b
