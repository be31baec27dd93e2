def wo_k154_X4_append : List Cond := [Cond.fieldLink RX4 18 "WarpDesk$Queries" "size" "I", Cond.methodLink RX4 22 yX4_has, Cond.instanceMethod yX4_has, Cond.selects RX4 yX4_has yX4_has, Cond.initialized RX4, Cond.fieldLink RX4 15 "WarpDesk$Queries" "lengths" "[I", Cond.fieldLink RX4 9 "WarpDesk$Queries" "readings" "[I"]
def wz_k154_X4_append : List Cond := .code yX4_append cX4_append 3 none :: (wo_k154_X4_append ++ (wsX40 ++ (wz_k155_X4_has ++ ([] : List Cond))))
theorem zg_k154_X4_append : ∀ w ∈ wz_k154_X4_append, goodWord w = true := zg_cons rfl (zg_app (by decide +kernel) (zg_app zgU_wsX40 (zg_app zg_k155_X4_has zg_nil)))
theorem zi_k154_X4_append : ∀ w ∈ wz_k154_X4_append, w ∈ lw_tbl := zi_cons zw_745 (zi_app (zi_cons zw_219 (zi_cons zw_746 (zi_cons zw_747 (zi_cons zw_748 (zi_cons zw_108 (zi_cons zw_218 (zi_cons zw_217 zi_nil))))))) (zi_app inX4 (zi_app zi_k155_X4_has zi_nil)))
set_option maxHeartbeats 4000000 in
set_option maxRecDepth 100000 in
theorem k154_X4_append (l : Launch) (D : va_G) (zt : Nat × Nat × Nat × (Nat → Nat) × (Nat → Nat)) (q : Nat → Nat) (d : Nat → ClassId) (I : Nat → Int32) (A : Nat → Nat → Int32) (z1 : Int32) (hIv : IvX I A) : GM l D zt (tyX d) yX4_append wz_k154_X4_append ({ frames := 1, cells := 0, slots := 0, locals := 21 } : Room) [.ref (q 8), .int z1] (wX q d I A) (fun v _ w' => ∃ (I' : Nat → Int32) (A' : Nat → Nat → Int32), Md [] I I' ∧ Md [3, 4] A A' ∧ IvX I' A' ∧ v = none ∧ w' = wX q d I' A') 0 0 := by
  refine GM.of (cc := cX4_append) (maxL := 3) (ret := none) (own := RX4) (lv := [(0, .ref (q 8)), (1, .int z1)]) (by decide) rfl rfl (Nat.le_of_ble_eq_true rfl) rfl (fun κ sz hk hR hN => ?_)
  have hin4 : ∀ w ∈ u_ws RX4 TX4 3, w ∈ wz_k154_X4_append := fun w h => (List.mem_cons_of_mem _ (List.mem_append_right _ (List.mem_append_left _ h)))
  refine g_aload_n hk dX4_append_0 rfl ?_
  refine gX_i16 (v := (I 16)) hk hin4 (List.mem_cons_of_mem _ (List.mem_append_left _ (List.mem_of_getElem? (i := 0) rfl))) dX4_append_1 rfl ?_
  refine g_iconst (v := 1) hk dX4_append_4 (by decide) ?_
  have b942l := Int32.le_toInt (I 16)
  have b942h := Int32.toInt_lt (I 16)
  refine g_isub hk dX4_append_5 ?_
  refine g_topi (fun y943 ey943 => ?_)
  have hy943 := i32_sub0 ey943
  refine g_istore_n (lv' := [(2, .int y943), (0, .ref (q 8)), (1, .int z1)]) hk dX4_append_6 (by decide) rfl ?_
  refine g_aload_n hk dX4_append_7 rfl ?_
  refine g_iload_n hk dX4_append_8 rfl ?_
  refine g_callV (n := 1) hk (k155_X4_has l D zt q d I A y943 hIv) (SP.same _) (fun _ h => h) (gi_V (List.mem_cons_of_mem _ (List.mem_append_left _ (List.mem_of_getElem? (i := 1) rfl))) (List.mem_cons_of_mem _ (List.mem_append_left _ (List.mem_of_getElem? (i := 2) rfl))) (List.mem_cons_of_mem _ (List.mem_append_left _ (List.mem_of_getElem? (i := 3) rfl))) (List.mem_cons_of_mem _ (List.mem_append_left _ (List.mem_of_getElem? (i := 4) rfl))) (gi_sub (fun w h => (List.mem_cons_of_mem _ (List.mem_append_right _ (List.mem_append_right _ (List.mem_append_left _ h))))) zg_k155_X4_has)) rfl rfl rfl (by decide +kernel) ⟨Nat.le_of_ble_eq_true rfl, Nat.le_of_ble_eq_true rfl⟩ 8 rfl rfl rfl rfl (Nat.le_of_ble_eq_true rfl) ⟨Nat.le_of_ble_eq_true rfl, Nat.le_of_ble_eq_true rfl⟩ dX4_append_9 (fun v ty' w' hp hk' => ?_)
  rcases hp with ⟨rfl, rfl⟩ | ⟨c950, c951, c952, c953, rfl, rfl⟩
  · skip
    show GW κ 3 0 0 (wX q d I A) 12 [(2, .int y943), (0, .ref (q 8)), (1, .int z1)] [.int 0]
    refine g_if_eq (tgt := 53) (a := 0) hk dX4_append_12 (by decide) rfl (fun _ => ?_) (fun z9 => absurd (show (0 : Int) = (0 : Int) from by decide) z9)
    exact g_vret hk hR ⟨I, A, (show Md [] I I from Md.rf), (show Md [3, 4] A A from Md.rf), hIv, rfl, rfl⟩ dX4_append_53
  · skip
    show GW κ 3 0 0 (wX q d I A) 12 [(2, .int y943), (0, .ref (q 8)), (1, .int z1)] [.int 1]
    refine g_if_eq (tgt := 53) (a := 1) hk dX4_append_12 (by decide) rfl (fun z9 => absurd z9 (show ¬ ((1 : Int) = (0 : Int)) from by decide)) (fun _ => ?_)
    refine g_aload_n hk dX4_append_15 rfl ?_
    refine gX_r8_1 hk hin4 (List.mem_cons_of_mem _ (List.mem_append_left _ (List.mem_of_getElem? (i := 5) rfl))) dX4_append_16 ?_
    refine g_iload_n hk dX4_append_19 rfl ?_
    refine lX_4 (v := (A 4 y943.toNatClampNeg)) hk (vp_in_iff.mpr ⟨by omega, by omega⟩) rfl dX4_append_20 ?_
    have f955 := IvX_a4 hIv (y943.toNatClampNeg)
    refine g_bipush (v := 16) hk dX4_append_21 (by decide) ?_
    refine g_icmp_ge (tgt := 53) (a := (A 4 y943.toNatClampNeg).toInt) (b := 16) hk dX4_append_23 (by decide) rfl rfl (fun c956 => ?_) (fun c956 => ?_)
    · skip
      exact g_vret hk hR ⟨I, A, (show Md [] I I from Md.rf), (show Md [3, 4] A A from Md.rf), hIv, rfl, rfl⟩ dX4_append_53
    · skip
      refine g_aload_n hk dX4_append_26 rfl ?_
      refine gX_r8_0 hk hin4 (List.mem_cons_of_mem _ (List.mem_append_left _ (List.mem_of_getElem? (i := 6) rfl))) dX4_append_27 ?_
      refine g_iload_n hk dX4_append_30 rfl ?_
      refine g_bipush (v := 16) hk dX4_append_31 (by decide) ?_
      refine g_imul hk dX4_append_33 ?_
      refine g_topi (fun y957 ey957 => ?_)
      have hy957 : y957.toInt = y943.toInt * 16 := i32_mul ey957 rfl rfl (by omega) (by omega)
      refine g_aload_n hk dX4_append_34 rfl ?_
      refine gX_r8_1 hk hin4 (List.mem_cons_of_mem _ (List.mem_append_left _ (List.mem_of_getElem? (i := 5) rfl))) dX4_append_35 ?_
      refine g_iload_n hk dX4_append_38 rfl ?_
      refine lX_4 (v := (A 4 y943.toNatClampNeg)) hk (vp_in_iff.mpr ⟨by omega, by omega⟩) rfl dX4_append_39 ?_
      refine g_iadd hk dX4_append_40 ?_
      refine g_topi (fun y958 ey958 => ?_)
      have hy958 : y958.toInt = y957.toInt + (A 4 y943.toNatClampNeg).toInt := i32_add ey958 rfl rfl (by omega) (by omega)
      refine g_iload_n hk dX4_append_41 rfl ?_
      refine sX_3 (j := y958.toNatClampNeg) hk (vp_in_iff.mpr ⟨by omega, by omega⟩) rfl dX4_append_42 ?_
      refine g_aload_n hk dX4_append_43 rfl ?_
      refine gX_r8_1 hk hin4 (List.mem_cons_of_mem _ (List.mem_append_left _ (List.mem_of_getElem? (i := 5) rfl))) dX4_append_44 ?_
      refine g_iload_n hk dX4_append_47 rfl ?_
      refine g_dup2 hk dX4_append_48 rfl rfl ?_
      refine lX_4 (v := (A 4 y943.toNatClampNeg)) hk (vp_in_iff.mpr ⟨by omega, by omega⟩) rfl dX4_append_49 ?_
      refine g_iconst (v := 1) hk dX4_append_50 (by decide) ?_
      refine g_iadd hk dX4_append_51 ?_
      refine g_topi (fun y959 ey959 => ?_)
      have hy959 : y959.toInt = (A 4 y943.toNatClampNeg).toInt + 1 := i32_add ey959 rfl rfl (by omega) (by omega)
      refine sX_4 (j := y943.toNatClampNeg) hk (vp_in_iff.mpr ⟨by omega, by omega⟩) rfl dX4_append_52 ?_
      have hA960 : ∀ j, 0 ≤ ((up3 (up3 A 3 (y958.toNatClampNeg) z1) 4 (y943.toNatClampNeg) y959) 4 j).toInt ∧ ((up3 (up3 A 3 (y958.toNatClampNeg) z1) 4 (y943.toNatClampNeg) y959) 4 j).toInt ≤ 16 := ai_st ((IvX_a4 hIv)) ⟨by omega, by omega⟩
      exact g_vret hk hR ⟨I, (up3 (up3 A 3 (y958.toNatClampNeg) z1) 4 (y943.toNatClampNeg) y959), (show Md [] I I from Md.rf), (show Md [3, 4] A (up3 (up3 A 3 (y958.toNatClampNeg) z1) 4 (y943.toNatClampNeg) y959) from (Md.up3 (Md.up3 Md.rf rfl) rfl)), ⟨(IvX_f0 (I := I) (A := A) hIv), (IvX_f18 (I := I) (A := A) hIv), (IvX_f30 (I := I) (A := A) hIv), (IvX_f31 (I := I) (A := A) hIv), hA960, (IvX_a9 (I := I) (A := A) hIv), trivial⟩, rfl, rfl⟩ dX4_append_53
def wo_k156_X8_append : List Cond := [Cond.fieldLink RX8 22 "WarpDesk$Stand" "size" "I", Cond.fieldLink RX8 9 "WarpDesk$Stand" "places" "[I"]
def wz_k156_X8_append : List Cond := .code yX8_append cX8_append 2 none :: (wo_k156_X8_append ++ (wsX80 ++ ([] : List Cond)))
theorem zg_k156_X8_append : ∀ w ∈ wz_k156_X8_append, goodWord w = true := zg_cons rfl (zg_app (by decide +kernel) (zg_app zgU_wsX80 zg_nil))
theorem zi_k156_X8_append : ∀ w ∈ wz_k156_X8_append, w ∈ lw_tbl := zi_cons zw_741 (zi_app (zi_cons zw_195 (zi_cons zw_194 zi_nil)) (zi_app inX8 zi_nil))
set_option maxHeartbeats 4000000 in
set_option maxRecDepth 100000 in
theorem k156_X8_append (l : Launch) (D : va_G) (zt : Nat × Nat × Nat × (Nat → Nat) × (Nat → Nat)) (q : Nat → Nat) (d : Nat → ClassId) (I : Nat → Int32) (A : Nat → Nat → Int32) (z1 : Int32) (hIv : IvX I A) : GM l D zt (tyX d) yX8_append wz_k156_X8_append ({ frames := 0, cells := 0, slots := 0, locals := 0 } : Room) [.ref (q 4), .int z1] (wX q d I A) (fun v _ w' => ∃ (I' : Nat → Int32) (A' : Nat → Nat → Int32), Md [14] I I' ∧ Md [1] A A' ∧ IvX I' A' ∧ v = none ∧ w' = wX q d I' A') 0 0 := by
  refine GM.of (cc := cX8_append) (maxL := 2) (ret := none) (own := RX8) (lv := [(0, .ref (q 4)), (1, .int z1)]) (by decide) rfl rfl (Nat.le_of_ble_eq_true rfl) rfl (fun κ sz hk hR hN => ?_)
  have hin8 : ∀ w ∈ u_ws RX8 TX8 4, w ∈ wz_k156_X8_append := fun w h => (List.mem_cons_of_mem _ (List.mem_append_right _ (List.mem_append_left _ h)))
  refine g_aload_n hk dX8_append_0 rfl ?_
  refine gX_i14 (v := (I 14)) hk hin8 (List.mem_cons_of_mem _ (List.mem_append_left _ (List.mem_of_getElem? (i := 0) rfl))) dX8_append_1 rfl ?_
  have b965l := Int32.le_toInt (I 14)
  have b965h := Int32.toInt_lt (I 14)
  refine g_if_lt (tgt := 39) (a := (I 14).toInt) hk dX8_append_4 (by decide) rfl (fun c966 => ?_) (fun c966 => ?_)
  · skip
    exact g_vret hk hR ⟨I, A, (show Md [14] I I from Md.rf), (show Md [1] A A from Md.rf), hIv, rfl, rfl⟩ dX8_append_39
  · skip
    refine g_aload_n hk dX8_append_7 rfl ?_
    refine gX_i14 (v := (I 14)) hk hin8 (List.mem_cons_of_mem _ (List.mem_append_left _ (List.mem_of_getElem? (i := 0) rfl))) dX8_append_8 rfl ?_
    refine g_aload_n hk dX8_append_11 rfl ?_
    refine gX_r4_0 hk hin8 (List.mem_cons_of_mem _ (List.mem_append_left _ (List.mem_of_getElem? (i := 1) rfl))) dX8_append_12 ?_
    refine nX_1 hk dX8_append_15 ?_
    refine g_icmp_ge (tgt := 39) (a := (I 14).toInt) (b := 160) hk dX8_append_16 (by decide) rfl rfl (fun c967 => ?_) (fun c967 => ?_)
    · skip
      exact g_vret hk hR ⟨I, A, (show Md [14] I I from Md.rf), (show Md [1] A A from Md.rf), hIv, rfl, rfl⟩ dX8_append_39
    · skip
      refine g_aload_n hk dX8_append_19 rfl ?_
      refine gX_r4_0 hk hin8 (List.mem_cons_of_mem _ (List.mem_append_left _ (List.mem_of_getElem? (i := 1) rfl))) dX8_append_20 ?_
      refine g_aload_n hk dX8_append_23 rfl ?_
      refine gX_i14 (v := (I 14)) hk hin8 (List.mem_cons_of_mem _ (List.mem_append_left _ (List.mem_of_getElem? (i := 0) rfl))) dX8_append_24 rfl ?_
      refine g_iload_n hk dX8_append_27 rfl ?_
      refine sX_1 (j := (I 14).toNatClampNeg) hk (vp_in_iff.mpr ⟨by omega, by omega⟩) rfl dX8_append_28 ?_
      refine g_aload_n hk dX8_append_29 rfl ?_
      refine g_dup hk dX8_append_30 rfl ?_
      refine gX_i14 (v := (I 14)) hk hin8 (List.mem_cons_of_mem _ (List.mem_append_left _ (List.mem_of_getElem? (i := 0) rfl))) dX8_append_31 rfl ?_
      refine g_iconst (v := 1) hk dX8_append_34 (by decide) ?_
      refine g_iadd hk dX8_append_35 ?_
      refine g_topi (fun y968 ey968 => ?_)
      have hy968 : y968.toInt = (I 14).toInt + 1 := i32_add ey968 rfl rfl (by omega) (by omega)
      refine pX_i14 hk hin8 (List.mem_cons_of_mem _ (List.mem_append_left _ (List.mem_of_getElem? (i := 0) rfl))) dX8_append_36 ?_
      exact g_vret hk hR ⟨(upd I 14 y968), (up3 A 1 ((I 14).toNatClampNeg) z1), (show Md [14] I (upd I 14 y968) from (Md.up Md.rf rfl)), (show Md [1] A (up3 A 1 ((I 14).toNatClampNeg) z1) from (Md.up3 Md.rf rfl)), ⟨(IvX_f0 (I := I) (A := A) hIv), (IvX_f18 (I := I) (A := A) hIv), (IvX_f30 (I := I) (A := A) hIv), (IvX_f31 (I := I) (A := A) hIv), (IvX_a4 (I := I) (A := A) hIv), (IvX_a9 (I := I) (A := A) hIv), trivial⟩, rfl, rfl⟩ dX8_append_39
def wo_k153_X5_keepInRow : List Cond := [Cond.fieldLink RX5 75 "WarpDesk$Reader" "state" "I", Cond.fieldLink RX5 21 "WarpDesk$Reader" "queries" "LWarpDesk$Queries;", Cond.methodLink RX5 202 yX4_append, Cond.instanceMethod yX4_append, Cond.selects RX4 yX4_append yX4_append, Cond.initialized RX4, Cond.fieldLink RX5 32 "WarpDesk$Reader" "told" "I", Cond.fieldLink RX5 87 "WarpDesk$Reader" "isNegative" "Z", Cond.fieldLink RX5 12 "WarpDesk$Reader" "draft" "LWarpDesk$Stand;", Cond.methodLink RX5 199 yX8_append, Cond.instanceMethod yX8_append, Cond.selects RX8 yX8_append yX8_append, Cond.initialized RX8]
def wz_k153_X5_keepInRow : List Cond := .code yX5_keepInRow cX5_keepInRow 2 none :: (wo_k153_X5_keepInRow ++ (wsX50 ++ (wz_k154_X4_append ++ (wz_k156_X8_append ++ ([] : List Cond)))))
theorem zg_k153_X5_keepInRow : ∀ w ∈ wz_k153_X5_keepInRow, goodWord w = true := zg_cons rfl (zg_app (by decide +kernel) (zg_app zgU_wsX50 (zg_app zg_k154_X4_append (zg_app zg_k156_X8_append zg_nil))))
theorem zi_k153_X5_keepInRow : ∀ w ∈ wz_k153_X5_keepInRow, w ∈ lw_tbl := zi_cons zw_737 (zi_app (zi_cons zw_237 (zi_cons zw_233 (zi_cons zw_742 (zi_cons zw_743 (zi_cons zw_744 (zi_cons zw_108 (zi_cons zw_240 (zi_cons zw_239 (zi_cons zw_231 (zi_cons zw_738 (zi_cons zw_739 (zi_cons zw_740 (zi_cons zw_106 zi_nil))))))))))))) (zi_app inX5 (zi_app zi_k154_X4_append (zi_app zi_k156_X8_append zi_nil))))
set_option maxHeartbeats 4000000 in
set_option maxRecDepth 100000 in
theorem k153_X5_keepInRow (l : Launch) (D : va_G) (zt : Nat × Nat × Nat × (Nat → Nat) × (Nat → Nat)) (q : Nat → Nat) (d : Nat → ClassId) (I : Nat → Int32) (A : Nat → Nat → Int32) (z1 : Int32) (hIv : IvX I A) : GM l D zt (tyX d) yX5_keepInRow wz_k153_X5_keepInRow ({ frames := 2, cells := 0, slots := 0, locals := 43 } : Room) [.ref (q 3), .int z1] (wX q d I A) (fun v _ w' => ∃ (I' : Nat → Int32) (A' : Nat → Nat → Int32), Md [8, 9, 14] I I' ∧ Md [1, 3, 4] A A' ∧ IvX I' A' ∧ v = none ∧ w' = wX q d I' A') 0 0 := by
  refine GM.of (cc := cX5_keepInRow) (maxL := 2) (ret := none) (own := RX5) (lv := [(0, .ref (q 3)), (1, .int z1)]) (by decide) rfl rfl (Nat.le_of_ble_eq_true rfl) rfl (fun κ sz hk hR hN => ?_)
  have hin5 : ∀ w ∈ u_ws RX5 TX5 13, w ∈ wz_k153_X5_keepInRow := fun w h => (List.mem_cons_of_mem _ (List.mem_append_right _ (List.mem_append_left _ h)))
  refine g_aload_n hk dX5_keepInRow_0 rfl ?_
  refine gX_i6 (v := (I 6)) hk hin5 (List.mem_cons_of_mem _ (List.mem_append_left _ (List.mem_of_getElem? (i := 0) rfl))) dX5_keepInRow_1 rfl ?_
  refine g_iconst (v := 1) hk dX5_keepInRow_4 (by decide) ?_
  have b940l := Int32.le_toInt (I 6)
  have b940h := Int32.toInt_lt (I 6)
  refine g_icmp_ne (tgt := 19) (a := (I 6).toInt) (b := 1) hk dX5_keepInRow_5 (by decide) rfl rfl (fun c941 => ?_) (fun c941 => ?_)
  · skip
    refine g_aload_n hk dX5_keepInRow_19 rfl ?_
    refine gX_r3_2 hk hin5 (List.mem_cons_of_mem _ (List.mem_append_left _ (List.mem_of_getElem? (i := 1) rfl))) dX5_keepInRow_20 ?_
    refine g_iload_n hk dX5_keepInRow_23 rfl ?_
    refine g_callV (n := 1) hk (k154_X4_append l D zt q d I A z1 hIv) (SP.same _) (fun _ h => h) (gi_V (List.mem_cons_of_mem _ (List.mem_append_left _ (List.mem_of_getElem? (i := 2) rfl))) (List.mem_cons_of_mem _ (List.mem_append_left _ (List.mem_of_getElem? (i := 3) rfl))) (List.mem_cons_of_mem _ (List.mem_append_left _ (List.mem_of_getElem? (i := 4) rfl))) (List.mem_cons_of_mem _ (List.mem_append_left _ (List.mem_of_getElem? (i := 5) rfl))) (gi_sub (fun w h => (List.mem_cons_of_mem _ (List.mem_append_right _ (List.mem_append_right _ (List.mem_append_left _ h))))) zg_k154_X4_append)) rfl rfl rfl (by decide +kernel) ⟨Nat.le_of_ble_eq_true rfl, Nat.le_of_ble_eq_true rfl⟩ 8 rfl rfl rfl rfl (Nat.le_of_ble_eq_true rfl) ⟨Nat.le_of_ble_eq_true rfl, Nat.le_of_ble_eq_true rfl⟩ dX5_keepInRow_24 (fun v ty' w' hp hk' => ?_)
    obtain ⟨I962, A962, hI962, hA962, hV962, rfl, rfl⟩ := hp
    show GW κ 2 0 0 (wX q d I962 A962) 27 [(0, .ref (q 3)), (1, .int z1)] []
    refine g_aload_n hk dX5_keepInRow_27 rfl ?_
    refine g_dup hk dX5_keepInRow_28 rfl ?_
    refine gX_i9 (v := (I 9)) hk hin5 (List.mem_cons_of_mem _ (List.mem_append_left _ (List.mem_of_getElem? (i := 6) rfl))) dX5_keepInRow_29 (hI962 9 rfl) ?_
    refine g_iconst (v := 1) hk dX5_keepInRow_32 (by decide) ?_
    have b963l := Int32.le_toInt (I 9)
    have b963h := Int32.toInt_lt (I 9)
    refine g_iadd hk dX5_keepInRow_33 ?_
    refine g_topi (fun y964 ey964 => ?_)
    refine pX_i9 hk hin5 (List.mem_cons_of_mem _ (List.mem_append_left _ (List.mem_of_getElem? (i := 6) rfl))) dX5_keepInRow_34 ?_
    refine g_aload_n hk dX5_keepInRow_37 rfl ?_
    refine g_iconst (v := 0) hk dX5_keepInRow_38 (by decide) ?_
    refine pX_i8 hk hin5 (List.mem_cons_of_mem _ (List.mem_append_left _ (List.mem_of_getElem? (i := 7) rfl))) ⟨rfl, rfl⟩ dX5_keepInRow_39 ?_
    exact g_vret hk hR ⟨(upd (upd I962 9 y964) 8 0), A962, (show Md [8, 9, 14] I (upd (upd I962 9 y964) 8 0) from (Md.up (Md.up (Md.tr Md.rf hI962 rfl) rfl) rfl)), (show Md [1, 3, 4] A A962 from (Md.tr Md.rf hA962 rfl)), ⟨(IvX_f0 (I := I962) (A := A962) hV962), (IvX_f18 (I := I962) (A := A962) hV962), (IvX_f30 (I := I962) (A := A962) hV962), (IvX_f31 (I := I962) (A := A962) hV962), (IvX_a4 (I := I962) (A := A962) hV962), (IvX_a9 (I := I962) (A := A962) hV962), trivial⟩, rfl, rfl⟩ dX5_keepInRow_42
  · skip
    refine g_aload_n hk dX5_keepInRow_8 rfl ?_
    refine gX_r3_1 hk hin5 (List.mem_cons_of_mem _ (List.mem_append_left _ (List.mem_of_getElem? (i := 8) rfl))) dX5_keepInRow_9 ?_
    refine g_iload_n hk dX5_keepInRow_12 rfl ?_
    refine g_callV (n := 1) hk (k156_X8_append l D zt q d I A z1 hIv) (SP.same _) (fun _ h => h) (gi_V (List.mem_cons_of_mem _ (List.mem_append_left _ (List.mem_of_getElem? (i := 9) rfl))) (List.mem_cons_of_mem _ (List.mem_append_left _ (List.mem_of_getElem? (i := 10) rfl))) (List.mem_cons_of_mem _ (List.mem_append_left _ (List.mem_of_getElem? (i := 11) rfl))) (List.mem_cons_of_mem _ (List.mem_append_left _ (List.mem_of_getElem? (i := 12) rfl))) (gi_sub (fun w h => (List.mem_cons_of_mem _ (List.mem_append_right _ (List.mem_append_right _ (List.mem_append_right _ (List.mem_append_left _ h)))))) zg_k156_X8_append)) rfl rfl rfl (by decide +kernel) ⟨Nat.le_of_ble_eq_true rfl, Nat.le_of_ble_eq_true rfl⟩ 4 rfl rfl rfl rfl (Nat.le_of_ble_eq_true rfl) ⟨Nat.le_of_ble_eq_true rfl, Nat.le_of_ble_eq_true rfl⟩ dX5_keepInRow_13 (fun v ty' w' hp hk' => ?_)
    obtain ⟨I970, A970, hI970, hA970, hV970, rfl, rfl⟩ := hp
    show GW κ 2 0 0 (wX q d I970 A970) 16 [(0, .ref (q 3)), (1, .int z1)] []
    refine g_goto (tgt := 27) hk dX5_keepInRow_16 (by decide) ?_
    refine g_aload_n hk dX5_keepInRow_27 rfl ?_
    refine g_dup hk dX5_keepInRow_28 rfl ?_
    refine gX_i9 (v := (I 9)) hk hin5 (List.mem_cons_of_mem _ (List.mem_append_left _ (List.mem_of_getElem? (i := 6) rfl))) dX5_keepInRow_29 (hI970 9 rfl) ?_
    refine g_iconst (v := 1) hk dX5_keepInRow_32 (by decide) ?_
    have b971l := Int32.le_toInt (I 9)
    have b971h := Int32.toInt_lt (I 9)
    refine g_iadd hk dX5_keepInRow_33 ?_
    refine g_topi (fun y972 ey972 => ?_)
    refine pX_i9 hk hin5 (List.mem_cons_of_mem _ (List.mem_append_left _ (List.mem_of_getElem? (i := 6) rfl))) dX5_keepInRow_34 ?_
    refine g_aload_n hk dX5_keepInRow_37 rfl ?_
    refine g_iconst (v := 0) hk dX5_keepInRow_38 (by decide) ?_
    refine pX_i8 hk hin5 (List.mem_cons_of_mem _ (List.mem_append_left _ (List.mem_of_getElem? (i := 7) rfl))) ⟨rfl, rfl⟩ dX5_keepInRow_39 ?_
    exact g_vret hk hR ⟨(upd (upd I970 9 y972) 8 0), A970, (show Md [8, 9, 14] I (upd (upd I970 9 y972) 8 0) from (Md.up (Md.up (Md.tr Md.rf hI970 rfl) rfl) rfl)), (show Md [1, 3, 4] A A970 from (Md.tr Md.rf hA970 rfl)), ⟨(IvX_f0 (I := I970) (A := A970) hV970), (IvX_f18 (I := I970) (A := A970) hV970), (IvX_f30 (I := I970) (A := A970) hV970), (IvX_f31 (I := I970) (A := A970) hV970), (IvX_a4 (I := I970) (A := A970) hV970), (IvX_a9 (I := I970) (A := A970) hV970), trivial⟩, rfl, rfl⟩ dX5_keepInRow_42
def wo_k157_X5_mark : List Cond := [Cond.fieldLink RX5 78 "WarpDesk$Reader" "fault" "I", Cond.methodLink RX5 93 yX5_keepFault, Cond.instanceMethod yX5_keepFault, Cond.selects RX5 yX5_keepFault yX5_keepFault, Cond.initialized RX5]
def wz_k157_X5_mark : List Cond := .code yX5_mark cX5_mark 2 none :: (wo_k157_X5_mark ++ (wsX50 ++ (wz_k131_X5_keepFault ++ ([] : List Cond))))
theorem zg_k157_X5_mark : ∀ w ∈ wz_k157_X5_mark, goodWord w = true := zg_cons rfl (zg_app (by decide +kernel) (zg_app zgU_wsX50 (zg_app zg_k131_X5_keepFault zg_nil)))
theorem zi_k157_X5_mark : ∀ w ∈ wz_k157_X5_mark, w ∈ lw_tbl := zi_cons zw_712 (zi_app (zi_cons zw_242 (zi_cons zw_685 (zi_cons zw_687 (zi_cons zw_13 (zi_cons zw_105 zi_nil))))) (zi_app inX5 (zi_app zi_k131_X5_keepFault zi_nil)))
set_option maxHeartbeats 4000000 in
set_option maxRecDepth 100000 in
theorem k157_X5_mark (l : Launch) (D : va_G) (zt : Nat × Nat × Nat × (Nat → Nat) × (Nat → Nat)) (q : Nat → Nat) (d : Nat → ClassId) (I : Nat → Int32) (A : Nat → Nat → Int32) (z1 : Int32) (hIv : IvX I A) : GM l D zt (tyX d) yX5_mark wz_k157_X5_mark ({ frames := 1, cells := 0, slots := 0, locals := 21 } : Room) [.ref (q 3), .int z1] (wX q d I A) (fun v _ w' => ∃ (I' : Nat → Int32) (A' : Nat → Nat → Int32), Md [11, 12, 13] I I' ∧ Md [] A A' ∧ IvX I' A' ∧ v = none ∧ w' = wX q d I' A') 0 0 := by
  refine GM.of (cc := cX5_mark) (maxL := 2) (ret := none) (own := RX5) (lv := [(0, .ref (q 3)), (1, .int z1)]) (by decide) rfl rfl (Nat.le_of_ble_eq_true rfl) rfl (fun κ sz hk hR hN => ?_)
  have hin5 : ∀ w ∈ u_ws RX5 TX5 13, w ∈ wz_k157_X5_mark := fun w h => (List.mem_cons_of_mem _ (List.mem_append_right _ (List.mem_append_left _ h)))
  refine g_aload_n hk dX5_mark_0 rfl ?_
  refine gX_i11 (v := (I 11)) hk hin5 (List.mem_cons_of_mem _ (List.mem_append_left _ (List.mem_of_getElem? (i := 0) rfl))) dX5_mark_1 rfl ?_
  have b985l := Int32.le_toInt (I 11)
  have b985h := Int32.toInt_lt (I 11)
  refine g_if_ne (tgt := 12) (a := (I 11).toInt) hk dX5_mark_4 (by decide) rfl (fun c986 => ?_) (fun c986 => ?_)
  · skip
    exact g_vret hk hR ⟨I, A, (show Md [11, 12, 13] I I from Md.rf), (show Md [] A A from Md.rf), hIv, rfl, rfl⟩ dX5_mark_12
  · skip
    refine g_aload_n hk dX5_mark_7 rfl ?_
    refine g_iload_n hk dX5_mark_8 rfl ?_
    refine g_callV (n := 1) hk (k131_X5_keepFault l D zt q d I A z1 hIv) (SP.same _) (fun _ h => h) (gi_V (List.mem_cons_of_mem _ (List.mem_append_left _ (List.mem_of_getElem? (i := 1) rfl))) (List.mem_cons_of_mem _ (List.mem_append_left _ (List.mem_of_getElem? (i := 2) rfl))) (List.mem_cons_of_mem _ (List.mem_append_left _ (List.mem_of_getElem? (i := 3) rfl))) (List.mem_cons_of_mem _ (List.mem_append_left _ (List.mem_of_getElem? (i := 4) rfl))) (gi_sub (fun w h => (List.mem_cons_of_mem _ (List.mem_append_right _ (List.mem_append_right _ (List.mem_append_left _ h))))) zg_k131_X5_keepFault)) rfl rfl rfl (by decide +kernel) ⟨Nat.le_of_ble_eq_true rfl, Nat.le_of_ble_eq_true rfl⟩ 3 rfl rfl rfl rfl (Nat.le_of_ble_eq_true rfl) ⟨Nat.le_of_ble_eq_true rfl, Nat.le_of_ble_eq_true rfl⟩ dX5_mark_9 (fun v ty' w' hp hk' => ?_)
    obtain ⟨I988, A988, hI988, hA988, hV988, rfl, rfl⟩ := hp
    show GW κ 2 0 0 (wX q d I988 A988) 12 [(0, .ref (q 3)), (1, .int z1)] []
    exact g_vret hk hR ⟨I988, A988, (show Md [11, 12, 13] I I988 from (Md.tr Md.rf hI988 rfl)), (show Md [] A A988 from (Md.tr Md.rf hA988 rfl)), hV988, rfl, rfl⟩ dX5_mark_12
def wo_k152_X5_acceptInRow : List Cond := [Cond.fieldLink RX5 42 "WarpDesk$Reader" "tape" "LWarpDesk$Tape;", Cond.fieldLink RX5 53 "WarpDesk$Tape" "kind" "I", Cond.methodLink RX5 196 yX5_keepInRow, Cond.instanceMethod yX5_keepInRow, Cond.selects RX5 yX5_keepInRow yX5_keepInRow, Cond.initialized RX5, Cond.fieldLink RX5 190 "WarpDesk$Tape" "value" "I", Cond.fieldLink RX5 87 "WarpDesk$Reader" "isNegative" "Z", Cond.methodLink RX5 181 yX5_mark, Cond.instanceMethod yX5_mark, Cond.selects RX5 yX5_mark yX5_mark, Cond.fieldLink RX5 75 "WarpDesk$Reader" "state" "I", Cond.fieldLink RX5 32 "WarpDesk$Reader" "told" "I"]
def wz_k152_X5_acceptInRow : List Cond := .code yX5_acceptInRow cX5_acceptInRow 1 none :: (wo_k152_X5_acceptInRow ++ (wsX50 ++ (wsX100 ++ (wz_k153_X5_keepInRow ++ (wz_k157_X5_mark ++ ([] : List Cond))))))
theorem zg_k152_X5_acceptInRow : ∀ w ∈ wz_k152_X5_acceptInRow, goodWord w = true := zg_cons rfl (zg_app (by decide +kernel) (zg_app zgU_wsX50 (zg_app zgU_wsX100 (zg_app zg_k153_X5_keepInRow (zg_app zg_k157_X5_mark zg_nil)))))
theorem zi_k152_X5_acceptInRow : ∀ w ∈ wz_k152_X5_acceptInRow, w ∈ lw_tbl := zi_cons zw_733 (zi_app (zi_cons zw_230 (zi_cons zw_138 (zi_cons zw_734 (zi_cons zw_736 (zi_cons zw_21 (zi_cons zw_105 (zi_cons zw_143 (zi_cons zw_239 (zi_cons zw_709 (zi_cons zw_711 (zi_cons zw_18 (zi_cons zw_237 (zi_cons zw_240 zi_nil))))))))))))) (zi_app inX5 (zi_app inX10 (zi_app zi_k153_X5_keepInRow (zi_app zi_k157_X5_mark zi_nil)))))
set_option maxHeartbeats 4000000 in
set_option maxRecDepth 100000 in
theorem k152_X5_acceptInRow (l : Launch) (D : va_G) (zt : Nat × Nat × Nat × (Nat → Nat) × (Nat → Nat)) (q : Nat → Nat) (d : Nat → ClassId) (I : Nat → Int32) (A : Nat → Nat → Int32) (hIv : IvX I A) : GM l D zt (tyX d) yX5_acceptInRow wz_k152_X5_acceptInRow ({ frames := 3, cells := 0, slots := 0, locals := 64 } : Room) [.ref (q 3)] (wX q d I A) (fun v _ w' => ∃ (I' : Nat → Int32) (A' : Nat → Nat → Int32), Md [6, 8, 9, 11, 12, 13, 14] I I' ∧ Md [1, 3, 4] A A' ∧ IvX I' A' ∧ v = none ∧ w' = wX q d I' A') 0 0 := by
  refine GM.of (cc := cX5_acceptInRow) (maxL := 1) (ret := none) (own := RX5) (lv := [(0, .ref (q 3))]) (by decide) rfl rfl (Nat.le_of_ble_eq_true rfl) rfl (fun κ sz hk hR hN => ?_)
  have hin5 : ∀ w ∈ u_ws RX5 TX5 13, w ∈ wz_k152_X5_acceptInRow := fun w h => (List.mem_cons_of_mem _ (List.mem_append_right _ (List.mem_append_left _ h)))
  have hin10 : ∀ w ∈ u_ws RX10 TX10 7, w ∈ wz_k152_X5_acceptInRow := fun w h => (List.mem_cons_of_mem _ (List.mem_append_right _ (List.mem_append_right _ (List.mem_append_left _ h))))
  refine g_aload_n hk dX5_acceptInRow_0 rfl ?_
  refine gX_r3_0 hk hin5 (List.mem_cons_of_mem _ (List.mem_append_left _ (List.mem_of_getElem? (i := 0) rfl))) dX5_acceptInRow_1 ?_
  refine gX_i1 (v := (I 1)) hk hin10 (List.mem_cons_of_mem _ (List.mem_append_left _ (List.mem_of_getElem? (i := 1) rfl))) dX5_acceptInRow_4 rfl ?_
  refine g_iconst (v := 3) hk dX5_acceptInRow_7 (by decide) ?_
  have b936l := Int32.le_toInt (I 1)
  have b936h := Int32.toInt_lt (I 1)
  refine g_icmp_ne (tgt := 47) (a := (I 1).toInt) (b := 3) hk dX5_acceptInRow_8 (by decide) rfl rfl (fun c937 => ?_) (fun c937 => ?_)
  · skip
    refine g_aload_n hk dX5_acceptInRow_47 rfl ?_
    refine gX_r3_0 hk hin5 (List.mem_cons_of_mem _ (List.mem_append_left _ (List.mem_of_getElem? (i := 0) rfl))) dX5_acceptInRow_48 ?_
    refine gX_i1 (v := (I 1)) hk hin10 (List.mem_cons_of_mem _ (List.mem_append_left _ (List.mem_of_getElem? (i := 1) rfl))) dX5_acceptInRow_51 rfl ?_
    refine g_iconst (v := 4) hk dX5_acceptInRow_54 (by decide) ?_
    refine g_icmp_ne (tgt := 66) (a := (I 1).toInt) (b := 4) hk dX5_acceptInRow_55 (by decide) rfl rfl (fun c938 => ?_) (fun c938 => ?_)
    · skip
      refine g_aload_n hk dX5_acceptInRow_66 rfl ?_
      refine gX_r3_0 hk hin5 (List.mem_cons_of_mem _ (List.mem_append_left _ (List.mem_of_getElem? (i := 0) rfl))) dX5_acceptInRow_67 ?_
      refine gX_i1 (v := (I 1)) hk hin10 (List.mem_cons_of_mem _ (List.mem_append_left _ (List.mem_of_getElem? (i := 1) rfl))) dX5_acceptInRow_70 rfl ?_
      refine g_iconst (v := 2) hk dX5_acceptInRow_73 (by decide) ?_
      refine g_icmp_ne (tgt := 127) (a := (I 1).toInt) (b := 2) hk dX5_acceptInRow_74 (by decide) rfl rfl (fun c939 => ?_) (fun c939 => ?_)
      · skip
        refine g_aload_n hk dX5_acceptInRow_127 rfl ?_
        refine g_sipush (v := (-1000)) hk dX5_acceptInRow_128 (by decide) ?_
        have k973 : ((-1000) : Int32).toInt = (-1000) := rfl
        refine g_callV (n := 1) hk (k153_X5_keepInRow l D zt q d I A (-1000) hIv) (SP.same _) (fun _ h => h) (gi_V (List.mem_cons_of_mem _ (List.mem_append_left _ (List.mem_of_getElem? (i := 2) rfl))) (List.mem_cons_of_mem _ (List.mem_append_left _ (List.mem_of_getElem? (i := 3) rfl))) (List.mem_cons_of_mem _ (List.mem_append_left _ (List.mem_of_getElem? (i := 4) rfl))) (List.mem_cons_of_mem _ (List.mem_append_left _ (List.mem_of_getElem? (i := 5) rfl))) (gi_sub (fun w h => (List.mem_cons_of_mem _ (List.mem_append_right _ (List.mem_append_right _ (List.mem_append_right _ (List.mem_append_left _ h)))))) zg_k153_X5_keepInRow)) rfl rfl rfl (by decide +kernel) ⟨Nat.le_of_ble_eq_true rfl, Nat.le_of_ble_eq_true rfl⟩ 3 rfl rfl rfl rfl (Nat.le_of_ble_eq_true rfl) ⟨Nat.le_of_ble_eq_true rfl, Nat.le_of_ble_eq_true rfl⟩ dX5_acceptInRow_131 (fun v ty' w' hp hk' => ?_)
        obtain ⟨I975, A975, hI975, hA975, hV975, rfl, rfl⟩ := hp
        show GW κ 1 0 0 (wX q d I975 A975) 134 [(0, .ref (q 3))] []
        exact g_vret hk hR ⟨I975, A975, (show Md [6, 8, 9, 11, 12, 13, 14] I I975 from (Md.tr Md.rf hI975 rfl)), (show Md [1, 3, 4] A A975 from (Md.tr Md.rf hA975 rfl)), hV975, rfl, rfl⟩ dX5_acceptInRow_134
      · skip
        refine g_aload_n hk dX5_acceptInRow_77 rfl ?_
        refine gX_r3_0 hk hin5 (List.mem_cons_of_mem _ (List.mem_append_left _ (List.mem_of_getElem? (i := 0) rfl))) dX5_acceptInRow_78 ?_
        refine gX_i3 (v := (I 3)) hk hin10 (List.mem_cons_of_mem _ (List.mem_append_left _ (List.mem_of_getElem? (i := 6) rfl))) dX5_acceptInRow_81 rfl ?_
        refine g_sipush (v := 999) hk dX5_acceptInRow_84 (by decide) ?_
        have b976l := Int32.le_toInt (I 3)
        have b976h := Int32.toInt_lt (I 3)
        refine g_icmp_le (tgt := 95) (a := (I 3).toInt) (b := 999) hk dX5_acceptInRow_87 (by decide) rfl rfl (fun c977 => ?_) (fun c977 => ?_)
        · skip
          refine g_aload_n hk dX5_acceptInRow_95 rfl ?_
          refine g_aload_n hk dX5_acceptInRow_96 rfl ?_
          refine gX_i8 (v := (I 8)) hk hin5 (List.mem_cons_of_mem _ (List.mem_append_left _ (List.mem_of_getElem? (i := 7) rfl))) dX5_acceptInRow_97 rfl ?_
          have b978l := Int32.le_toInt (I 8)
          have b978h := Int32.toInt_lt (I 8)
          refine g_if_eq (tgt := 114) (a := (I 8).toInt) hk dX5_acceptInRow_100 (by decide) rfl (fun c979 => ?_) (fun c979 => ?_)
          · skip
            refine g_aload_n hk dX5_acceptInRow_114 rfl ?_
            refine gX_r3_0 hk hin5 (List.mem_cons_of_mem _ (List.mem_append_left _ (List.mem_of_getElem? (i := 0) rfl))) dX5_acceptInRow_115 ?_
            refine gX_i3 (v := (I 3)) hk hin10 (List.mem_cons_of_mem _ (List.mem_append_left _ (List.mem_of_getElem? (i := 6) rfl))) dX5_acceptInRow_118 rfl ?_
            refine g_callV (n := 1) hk (k153_X5_keepInRow l D zt q d I A (I 3) hIv) (SP.same _) (fun _ h => h) (gi_V (List.mem_cons_of_mem _ (List.mem_append_left _ (List.mem_of_getElem? (i := 2) rfl))) (List.mem_cons_of_mem _ (List.mem_append_left _ (List.mem_of_getElem? (i := 3) rfl))) (List.mem_cons_of_mem _ (List.mem_append_left _ (List.mem_of_getElem? (i := 4) rfl))) (List.mem_cons_of_mem _ (List.mem_append_left _ (List.mem_of_getElem? (i := 5) rfl))) (gi_sub (fun w h => (List.mem_cons_of_mem _ (List.mem_append_right _ (List.mem_append_right _ (List.mem_append_right _ (List.mem_append_left _ h)))))) zg_k153_X5_keepInRow)) rfl rfl rfl (by decide +kernel) ⟨Nat.le_of_ble_eq_true rfl, Nat.le_of_ble_eq_true rfl⟩ 3 rfl rfl rfl rfl (Nat.le_of_ble_eq_true rfl) ⟨Nat.le_of_ble_eq_true rfl, Nat.le_of_ble_eq_true rfl⟩ dX5_acceptInRow_121 (fun v ty' w' hp hk' => ?_)
            obtain ⟨I981, A981, hI981, hA981, hV981, rfl, rfl⟩ := hp
            show GW κ 1 0 0 (wX q d I981 A981) 124 [(0, .ref (q 3))] []
            refine g_goto (tgt := 134) hk dX5_acceptInRow_124 (by decide) ?_
            exact g_vret hk hR ⟨I981, A981, (show Md [6, 8, 9, 11, 12, 13, 14] I I981 from (Md.tr Md.rf hI981 rfl)), (show Md [1, 3, 4] A A981 from (Md.tr Md.rf hA981 rfl)), hV981, rfl, rfl⟩ dX5_acceptInRow_134
          · skip
            refine g_aload_n hk dX5_acceptInRow_103 rfl ?_
            refine gX_r3_0 hk hin5 (List.mem_cons_of_mem _ (List.mem_append_left _ (List.mem_of_getElem? (i := 0) rfl))) dX5_acceptInRow_104 ?_
            refine gX_i3 (v := (I 3)) hk hin10 (List.mem_cons_of_mem _ (List.mem_append_left _ (List.mem_of_getElem? (i := 6) rfl))) dX5_acceptInRow_107 rfl ?_
            refine g_ineg hk dX5_acceptInRow_110 ?_
            refine g_topi (fun y982 ey982 => ?_)
            refine g_goto (tgt := 121) hk dX5_acceptInRow_111 (by decide) ?_
            refine g_callV (n := 1) hk (k153_X5_keepInRow l D zt q d I A y982 hIv) (SP.same _) (fun _ h => h) (gi_V (List.mem_cons_of_mem _ (List.mem_append_left _ (List.mem_of_getElem? (i := 2) rfl))) (List.mem_cons_of_mem _ (List.mem_append_left _ (List.mem_of_getElem? (i := 3) rfl))) (List.mem_cons_of_mem _ (List.mem_append_left _ (List.mem_of_getElem? (i := 4) rfl))) (List.mem_cons_of_mem _ (List.mem_append_left _ (List.mem_of_getElem? (i := 5) rfl))) (gi_sub (fun w h => (List.mem_cons_of_mem _ (List.mem_append_right _ (List.mem_append_right _ (List.mem_append_right _ (List.mem_append_left _ h)))))) zg_k153_X5_keepInRow)) rfl rfl rfl (by decide +kernel) ⟨Nat.le_of_ble_eq_true rfl, Nat.le_of_ble_eq_true rfl⟩ 3 rfl rfl rfl rfl (Nat.le_of_ble_eq_true rfl) ⟨Nat.le_of_ble_eq_true rfl, Nat.le_of_ble_eq_true rfl⟩ dX5_acceptInRow_121 (fun v ty' w' hp hk' => ?_)
            obtain ⟨I984, A984, hI984, hA984, hV984, rfl, rfl⟩ := hp
            show GW κ 1 0 0 (wX q d I984 A984) 124 [(0, .ref (q 3))] []
            refine g_goto (tgt := 134) hk dX5_acceptInRow_124 (by decide) ?_
            exact g_vret hk hR ⟨I984, A984, (show Md [6, 8, 9, 11, 12, 13, 14] I I984 from (Md.tr Md.rf hI984 rfl)), (show Md [1, 3, 4] A A984 from (Md.tr Md.rf hA984 rfl)), hV984, rfl, rfl⟩ dX5_acceptInRow_134
        · skip
          refine g_aload_n hk dX5_acceptInRow_90 rfl ?_
          refine g_iconst (v := 5) hk dX5_acceptInRow_91 (by decide) ?_
          have k989 : (5 : Int32).toInt = 5 := rfl
          refine g_callV (n := 1) hk (k157_X5_mark l D zt q d I A 5 hIv) (SP.same _) (fun _ h => h) (gi_V (List.mem_cons_of_mem _ (List.mem_append_left _ (List.mem_of_getElem? (i := 8) rfl))) (List.mem_cons_of_mem _ (List.mem_append_left _ (List.mem_of_getElem? (i := 9) rfl))) (List.mem_cons_of_mem _ (List.mem_append_left _ (List.mem_of_getElem? (i := 10) rfl))) (List.mem_cons_of_mem _ (List.mem_append_left _ (List.mem_of_getElem? (i := 5) rfl))) (gi_sub (fun w h => (List.mem_cons_of_mem _ (List.mem_append_right _ (List.mem_append_right _ (List.mem_append_right _ (List.mem_append_right _ (List.mem_append_left _ h))))))) zg_k157_X5_mark)) rfl rfl rfl (by decide +kernel) ⟨Nat.le_of_ble_eq_true rfl, Nat.le_of_ble_eq_true rfl⟩ 3 rfl rfl rfl rfl (Nat.le_of_ble_eq_true rfl) ⟨Nat.le_of_ble_eq_true rfl, Nat.le_of_ble_eq_true rfl⟩ dX5_acceptInRow_92 (fun v ty' w' hp hk' => ?_)
          obtain ⟨I991, A991, hI991, hA991, hV991, rfl, rfl⟩ := hp
          show GW κ 1 0 0 (wX q d I991 A991) 95 [(0, .ref (q 3))] []
          refine g_aload_n hk dX5_acceptInRow_95 rfl ?_
          refine g_aload_n hk dX5_acceptInRow_96 rfl ?_
          refine gX_i8 (v := (I 8)) hk hin5 (List.mem_cons_of_mem _ (List.mem_append_left _ (List.mem_of_getElem? (i := 7) rfl))) dX5_acceptInRow_97 (hI991 8 rfl) ?_
          have b992l := Int32.le_toInt (I 8)
          have b992h := Int32.toInt_lt (I 8)
          refine g_if_eq (tgt := 114) (a := (I 8).toInt) hk dX5_acceptInRow_100 (by decide) rfl (fun c993 => ?_) (fun c993 => ?_)
          · skip
            refine g_aload_n hk dX5_acceptInRow_114 rfl ?_
            refine gX_r3_0 hk hin5 (List.mem_cons_of_mem _ (List.mem_append_left _ (List.mem_of_getElem? (i := 0) rfl))) dX5_acceptInRow_115 ?_
            refine gX_i3 (v := (I 3)) hk hin10 (List.mem_cons_of_mem _ (List.mem_append_left _ (List.mem_of_getElem? (i := 6) rfl))) dX5_acceptInRow_118 (hI991 3 rfl) ?_
            refine g_callV (n := 1) hk (k153_X5_keepInRow l D zt q d I991 A991 (I 3) hV991) (SP.same _) (fun _ h => h) (gi_V (List.mem_cons_of_mem _ (List.mem_append_left _ (List.mem_of_getElem? (i := 2) rfl))) (List.mem_cons_of_mem _ (List.mem_append_left _ (List.mem_of_getElem? (i := 3) rfl))) (List.mem_cons_of_mem _ (List.mem_append_left _ (List.mem_of_getElem? (i := 4) rfl))) (List.mem_cons_of_mem _ (List.mem_append_left _ (List.mem_of_getElem? (i := 5) rfl))) (gi_sub (fun w h => (List.mem_cons_of_mem _ (List.mem_append_right _ (List.mem_append_right _ (List.mem_append_right _ (List.mem_append_left _ h)))))) zg_k153_X5_keepInRow)) rfl rfl rfl (by decide +kernel) ⟨Nat.le_of_ble_eq_true rfl, Nat.le_of_ble_eq_true rfl⟩ 3 rfl rfl rfl rfl (Nat.le_of_ble_eq_true rfl) ⟨Nat.le_of_ble_eq_true rfl, Nat.le_of_ble_eq_true rfl⟩ dX5_acceptInRow_121 (fun v ty' w' hp hk' => ?_)
            obtain ⟨I995, A995, hI995, hA995, hV995, rfl, rfl⟩ := hp
            show GW κ 1 0 0 (wX q d I995 A995) 124 [(0, .ref (q 3))] []
            refine g_goto (tgt := 134) hk dX5_acceptInRow_124 (by decide) ?_
            exact g_vret hk hR ⟨I995, A995, (show Md [6, 8, 9, 11, 12, 13, 14] I I995 from (Md.tr (Md.tr Md.rf hI991 rfl) hI995 rfl)), (show Md [1, 3, 4] A A995 from (Md.tr (Md.tr Md.rf hA991 rfl) hA995 rfl)), hV995, rfl, rfl⟩ dX5_acceptInRow_134
          · skip
            refine g_aload_n hk dX5_acceptInRow_103 rfl ?_
            refine gX_r3_0 hk hin5 (List.mem_cons_of_mem _ (List.mem_append_left _ (List.mem_of_getElem? (i := 0) rfl))) dX5_acceptInRow_104 ?_
            refine gX_i3 (v := (I 3)) hk hin10 (List.mem_cons_of_mem _ (List.mem_append_left _ (List.mem_of_getElem? (i := 6) rfl))) dX5_acceptInRow_107 (hI991 3 rfl) ?_
            refine g_ineg hk dX5_acceptInRow_110 ?_
            refine g_topi (fun y996 ey996 => ?_)
            refine g_goto (tgt := 121) hk dX5_acceptInRow_111 (by decide) ?_
            refine g_callV (n := 1) hk (k153_X5_keepInRow l D zt q d I991 A991 y996 hV991) (SP.same _) (fun _ h => h) (gi_V (List.mem_cons_of_mem _ (List.mem_append_left _ (List.mem_of_getElem? (i := 2) rfl))) (List.mem_cons_of_mem _ (List.mem_append_left _ (List.mem_of_getElem? (i := 3) rfl))) (List.mem_cons_of_mem _ (List.mem_append_left _ (List.mem_of_getElem? (i := 4) rfl))) (List.mem_cons_of_mem _ (List.mem_append_left _ (List.mem_of_getElem? (i := 5) rfl))) (gi_sub (fun w h => (List.mem_cons_of_mem _ (List.mem_append_right _ (List.mem_append_right _ (List.mem_append_right _ (List.mem_append_left _ h)))))) zg_k153_X5_keepInRow)) rfl rfl rfl (by decide +kernel) ⟨Nat.le_of_ble_eq_true rfl, Nat.le_of_ble_eq_true rfl⟩ 3 rfl rfl rfl rfl (Nat.le_of_ble_eq_true rfl) ⟨Nat.le_of_ble_eq_true rfl, Nat.le_of_ble_eq_true rfl⟩ dX5_acceptInRow_121 (fun v ty' w' hp hk' => ?_)
            obtain ⟨I998, A998, hI998, hA998, hV998, rfl, rfl⟩ := hp
            show GW κ 1 0 0 (wX q d I998 A998) 124 [(0, .ref (q 3))] []
            refine g_goto (tgt := 134) hk dX5_acceptInRow_124 (by decide) ?_
            exact g_vret hk hR ⟨I998, A998, (show Md [6, 8, 9, 11, 12, 13, 14] I I998 from (Md.tr (Md.tr Md.rf hI991 rfl) hI998 rfl)), (show Md [1, 3, 4] A A998 from (Md.tr (Md.tr Md.rf hA991 rfl) hA998 rfl)), hV998, rfl, rfl⟩ dX5_acceptInRow_134
    · skip
      refine g_aload_n hk dX5_acceptInRow_58 rfl ?_
      refine g_iconst (v := 1) hk dX5_acceptInRow_59 (by decide) ?_
      refine pX_i8 hk hin5 (List.mem_cons_of_mem _ (List.mem_append_left _ (List.mem_of_getElem? (i := 7) rfl))) ⟨rfl, rfl⟩ dX5_acceptInRow_60 ?_
      refine g_goto (tgt := 134) hk dX5_acceptInRow_63 (by decide) ?_
      exact g_vret hk hR ⟨(upd I 8 1), A, (show Md [6, 8, 9, 11, 12, 13, 14] I (upd I 8 1) from (Md.up Md.rf rfl)), (show Md [1, 3, 4] A A from Md.rf), ⟨(IvX_f0 (I := I) (A := A) hIv), (IvX_f18 (I := I) (A := A) hIv), (IvX_f30 (I := I) (A := A) hIv), (IvX_f31 (I := I) (A := A) hIv), (IvX_a4 (I := I) (A := A) hIv), (IvX_a9 (I := I) (A := A) hIv), trivial⟩, rfl, rfl⟩ dX5_acceptInRow_134
  · skip
    refine g_aload_n hk dX5_acceptInRow_11 rfl ?_
    refine gX_i6 (v := (I 6)) hk hin5 (List.mem_cons_of_mem _ (List.mem_append_left _ (List.mem_of_getElem? (i := 11) rfl))) dX5_acceptInRow_12 rfl ?_
    refine g_iconst (v := 3) hk dX5_acceptInRow_15 (by decide) ?_
    have b999l := Int32.le_toInt (I 6)
    have b999h := Int32.toInt_lt (I 6)
    refine g_icmp_ne (tgt := 33) (a := (I 6).toInt) (b := 3) hk dX5_acceptInRow_16 (by decide) rfl rfl (fun c1000 => ?_) (fun c1000 => ?_)
    · skip
      refine g_aload_n hk dX5_acceptInRow_33 rfl ?_
      refine g_iconst (v := 0) hk dX5_acceptInRow_34 (by decide) ?_
      refine pX_i6 hk hin5 (List.mem_cons_of_mem _ (List.mem_append_left _ (List.mem_of_getElem? (i := 11) rfl))) dX5_acceptInRow_35 ?_
      refine g_aload_n hk dX5_acceptInRow_38 rfl ?_
      refine g_bipush (v := (-2)) hk dX5_acceptInRow_39 (by decide) ?_
      refine pX_i9 hk hin5 (List.mem_cons_of_mem _ (List.mem_append_left _ (List.mem_of_getElem? (i := 12) rfl))) dX5_acceptInRow_41 ?_
      refine g_goto (tgt := 134) hk dX5_acceptInRow_44 (by decide) ?_
      exact g_vret hk hR ⟨(upd (upd I 6 0) 9 (-2)), A, (show Md [6, 8, 9, 11, 12, 13, 14] I (upd (upd I 6 0) 9 (-2)) from (Md.up (Md.up Md.rf rfl) rfl)), (show Md [1, 3, 4] A A from Md.rf), ⟨(IvX_f0 (I := I) (A := A) hIv), (IvX_f18 (I := I) (A := A) hIv), (IvX_f30 (I := I) (A := A) hIv), (IvX_f31 (I := I) (A := A) hIv), (IvX_a4 (I := I) (A := A) hIv), (IvX_a9 (I := I) (A := A) hIv), trivial⟩, rfl, rfl⟩ dX5_acceptInRow_134
    · skip
      refine g_aload_n hk dX5_acceptInRow_19 rfl ?_
      refine gX_i9 (v := (I 9)) hk hin5 (List.mem_cons_of_mem _ (List.mem_append_left _ (List.mem_of_getElem? (i := 12) rfl))) dX5_acceptInRow_20 rfl ?_
      refine g_iconst (v := 2) hk dX5_acceptInRow_23 (by decide) ?_
      have b1001l := Int32.le_toInt (I 9)
      have b1001h := Int32.toInt_lt (I 9)
      refine g_icmp_ge (tgt := 33) (a := (I 9).toInt) (b := 2) hk dX5_acceptInRow_24 (by decide) rfl rfl (fun c1002 => ?_) (fun c1002 => ?_)
      · skip
        refine g_aload_n hk dX5_acceptInRow_33 rfl ?_
        refine g_iconst (v := 0) hk dX5_acceptInRow_34 (by decide) ?_
        refine pX_i6 hk hin5 (List.mem_cons_of_mem _ (List.mem_append_left _ (List.mem_of_getElem? (i := 11) rfl))) dX5_acceptInRow_35 ?_
        refine g_aload_n hk dX5_acceptInRow_38 rfl ?_
        refine g_bipush (v := (-2)) hk dX5_acceptInRow_39 (by decide) ?_
        refine pX_i9 hk hin5 (List.mem_cons_of_mem _ (List.mem_append_left _ (List.mem_of_getElem? (i := 12) rfl))) dX5_acceptInRow_41 ?_
        refine g_goto (tgt := 134) hk dX5_acceptInRow_44 (by decide) ?_
        exact g_vret hk hR ⟨(upd (upd I 6 0) 9 (-2)), A, (show Md [6, 8, 9, 11, 12, 13, 14] I (upd (upd I 6 0) 9 (-2)) from (Md.up (Md.up Md.rf rfl) rfl)), (show Md [1, 3, 4] A A from Md.rf), ⟨(IvX_f0 (I := I) (A := A) hIv), (IvX_f18 (I := I) (A := A) hIv), (IvX_f30 (I := I) (A := A) hIv), (IvX_f31 (I := I) (A := A) hIv), (IvX_a4 (I := I) (A := A) hIv), (IvX_a9 (I := I) (A := A) hIv), trivial⟩, rfl, rfl⟩ dX5_acceptInRow_134
      · skip
        refine g_aload_n hk dX5_acceptInRow_27 rfl ?_
        refine g_bipush (v := 6) hk dX5_acceptInRow_28 (by decide) ?_
        have k1003 : (6 : Int32).toInt = 6 := rfl
        refine g_callV (n := 1) hk (k157_X5_mark l D zt q d I A 6 hIv) (SP.same _) (fun _ h => h) (gi_V (List.mem_cons_of_mem _ (List.mem_append_left _ (List.mem_of_getElem? (i := 8) rfl))) (List.mem_cons_of_mem _ (List.mem_append_left _ (List.mem_of_getElem? (i := 9) rfl))) (List.mem_cons_of_mem _ (List.mem_append_left _ (List.mem_of_getElem? (i := 10) rfl))) (List.mem_cons_of_mem _ (List.mem_append_left _ (List.mem_of_getElem? (i := 5) rfl))) (gi_sub (fun w h => (List.mem_cons_of_mem _ (List.mem_append_right _ (List.mem_append_right _ (List.mem_append_right _ (List.mem_append_right _ (List.mem_append_left _ h))))))) zg_k157_X5_mark)) rfl rfl rfl (by decide +kernel) ⟨Nat.le_of_ble_eq_true rfl, Nat.le_of_ble_eq_true rfl⟩ 3 rfl rfl rfl rfl (Nat.le_of_ble_eq_true rfl) ⟨Nat.le_of_ble_eq_true rfl, Nat.le_of_ble_eq_true rfl⟩ dX5_acceptInRow_30 (fun v ty' w' hp hk' => ?_)
        obtain ⟨I1005, A1005, hI1005, hA1005, hV1005, rfl, rfl⟩ := hp
        show GW κ 1 0 0 (wX q d I1005 A1005) 33 [(0, .ref (q 3))] []
        refine g_aload_n hk dX5_acceptInRow_33 rfl ?_
        refine g_iconst (v := 0) hk dX5_acceptInRow_34 (by decide) ?_
        refine pX_i6 hk hin5 (List.mem_cons_of_mem _ (List.mem_append_left _ (List.mem_of_getElem? (i := 11) rfl))) dX5_acceptInRow_35 ?_
        refine g_aload_n hk dX5_acceptInRow_38 rfl ?_
        refine g_bipush (v := (-2)) hk dX5_acceptInRow_39 (by decide) ?_
        refine pX_i9 hk hin5 (List.mem_cons_of_mem _ (List.mem_append_left _ (List.mem_of_getElem? (i := 12) rfl))) dX5_acceptInRow_41 ?_
        refine g_goto (tgt := 134) hk dX5_acceptInRow_44 (by decide) ?_
        exact g_vret hk hR ⟨(upd (upd I1005 6 0) 9 (-2)), A1005, (show Md [6, 8, 9, 11, 12, 13, 14] I (upd (upd I1005 6 0) 9 (-2)) from (Md.up (Md.up (Md.tr Md.rf hI1005 rfl) rfl) rfl)), (show Md [1, 3, 4] A A1005 from (Md.tr Md.rf hA1005 rfl)), ⟨(IvX_f0 (I := I1005) (A := A1005) hV1005), (IvX_f18 (I := I1005) (A := A1005) hV1005), (IvX_f30 (I := I1005) (A := A1005) hV1005), (IvX_f31 (I := I1005) (A := A1005) hV1005), (IvX_a4 (I := I1005) (A := A1005) hV1005), (IvX_a9 (I := I1005) (A := A1005) hV1005), trivial⟩, rfl, rfl⟩ dX5_acceptInRow_134
def wo_k159_X4_open : List Cond := [Cond.fieldLink RX4 18 "WarpDesk$Queries" "size" "I", Cond.fieldLink RX4 15 "WarpDesk$Queries" "lengths" "[I"]
def wz_k159_X4_open : List Cond := .code yX4_open cX4_open 1 none :: (wo_k159_X4_open ++ (wsX40 ++ ([] : List Cond)))
theorem zg_k159_X4_open : ∀ w ∈ wz_k159_X4_open, goodWord w = true := zg_cons rfl (zg_app (by decide +kernel) (zg_app zgU_wsX40 zg_nil))
theorem zi_k159_X4_open : ∀ w ∈ wz_k159_X4_open, w ∈ lw_tbl := zi_cons zw_717 (zi_app (zi_cons zw_219 (zi_cons zw_218 zi_nil)) (zi_app inX4 zi_nil))
set_option maxHeartbeats 4000000 in
set_option maxRecDepth 100000 in
theorem k159_X4_open (l : Launch) (D : va_G) (zt : Nat × Nat × Nat × (Nat → Nat) × (Nat → Nat)) (q : Nat → Nat) (d : Nat → ClassId) (I : Nat → Int32) (A : Nat → Nat → Int32) (hIv : IvX I A) : GM l D zt (tyX d) yX4_open wz_k159_X4_open ({ frames := 0, cells := 0, slots := 0, locals := 0 } : Room) [.ref (q 8)] (wX q d I A) (fun v _ w' => ∃ (I' : Nat → Int32) (A' : Nat → Nat → Int32), Md [16] I I' ∧ Md [4] A A' ∧ IvX I' A' ∧ v = none ∧ w' = wX q d I' A') 0 0 := by
  refine GM.of (cc := cX4_open) (maxL := 1) (ret := none) (own := RX4) (lv := [(0, .ref (q 8))]) (by decide) rfl rfl (Nat.le_of_ble_eq_true rfl) rfl (fun κ sz hk hR hN => ?_)
  have hin4 : ∀ w ∈ u_ws RX4 TX4 3, w ∈ wz_k159_X4_open := fun w h => (List.mem_cons_of_mem _ (List.mem_append_right _ (List.mem_append_left _ h)))
  refine g_aload_n hk dX4_open_0 rfl ?_
  refine gX_i16 (v := (I 16)) hk hin4 (List.mem_cons_of_mem _ (List.mem_append_left _ (List.mem_of_getElem? (i := 0) rfl))) dX4_open_1 rfl ?_
  have b1017l := Int32.le_toInt (I 16)
  have b1017h := Int32.toInt_lt (I 16)
  refine g_if_lt (tgt := 35) (a := (I 16).toInt) hk dX4_open_4 (by decide) rfl (fun c1018 => ?_) (fun c1018 => ?_)
  · skip
    exact g_vret hk hR ⟨I, A, (show Md [16] I I from Md.rf), (show Md [4] A A from Md.rf), hIv, rfl, rfl⟩ dX4_open_35
  · skip
    refine g_aload_n hk dX4_open_7 rfl ?_
    refine gX_i16 (v := (I 16)) hk hin4 (List.mem_cons_of_mem _ (List.mem_append_left _ (List.mem_of_getElem? (i := 0) rfl))) dX4_open_8 rfl ?_
    refine g_iconst (v := 5) hk dX4_open_11 (by decide) ?_
    refine g_icmp_ge (tgt := 35) (a := (I 16).toInt) (b := 5) hk dX4_open_12 (by decide) rfl rfl (fun c1019 => ?_) (fun c1019 => ?_)
    · skip
      exact g_vret hk hR ⟨I, A, (show Md [16] I I from Md.rf), (show Md [4] A A from Md.rf), hIv, rfl, rfl⟩ dX4_open_35
    · skip
      refine g_aload_n hk dX4_open_15 rfl ?_
      refine gX_r8_1 hk hin4 (List.mem_cons_of_mem _ (List.mem_append_left _ (List.mem_of_getElem? (i := 1) rfl))) dX4_open_16 ?_
      refine g_aload_n hk dX4_open_19 rfl ?_
      refine gX_i16 (v := (I 16)) hk hin4 (List.mem_cons_of_mem _ (List.mem_append_left _ (List.mem_of_getElem? (i := 0) rfl))) dX4_open_20 rfl ?_
      refine g_iconst (v := 0) hk dX4_open_23 (by decide) ?_
      have k1020 : (0 : Int32).toInt = 0 := rfl
      refine sX_4 (j := (I 16).toNatClampNeg) hk (vp_in_iff.mpr ⟨by omega, by omega⟩) rfl dX4_open_24 ?_
      have hA1021 : ∀ j, 0 ≤ ((up3 A 4 ((I 16).toNatClampNeg) 0) 4 j).toInt ∧ ((up3 A 4 ((I 16).toNatClampNeg) 0) 4 j).toInt ≤ 16 := ai_st ((IvX_a4 hIv)) ⟨by omega, by omega⟩
      refine g_aload_n hk dX4_open_25 rfl ?_
      refine g_dup hk dX4_open_26 rfl ?_
      refine gX_i16 (v := (I 16)) hk hin4 (List.mem_cons_of_mem _ (List.mem_append_left _ (List.mem_of_getElem? (i := 0) rfl))) dX4_open_27 rfl ?_
      refine g_iconst (v := 1) hk dX4_open_30 (by decide) ?_
      refine g_iadd hk dX4_open_31 ?_
      refine g_topi (fun y1022 ey1022 => ?_)
      have hy1022 : y1022.toInt = (I 16).toInt + 1 := i32_add ey1022 rfl rfl (by omega) (by omega)
      refine pX_i16 hk hin4 (List.mem_cons_of_mem _ (List.mem_append_left _ (List.mem_of_getElem? (i := 0) rfl))) dX4_open_32 ?_
      exact g_vret hk hR ⟨(upd I 16 y1022), (up3 A 4 ((I 16).toNatClampNeg) 0), (show Md [16] I (upd I 16 y1022) from (Md.up Md.rf rfl)), (show Md [4] A (up3 A 4 ((I 16).toNatClampNeg) 0) from (Md.up3 Md.rf rfl)), ⟨(IvX_f0 (I := I) (A := A) hIv), (IvX_f18 (I := I) (A := A) hIv), (IvX_f30 (I := I) (A := A) hIv), (IvX_f31 (I := I) (A := A) hIv), hA1021, (IvX_a9 (I := I) (A := A) hIv), trivial⟩, rfl, rfl⟩ dX4_open_35
def wo_k160_X10_isSameAsAt : List Cond := [Cond.methodLink RX10 57 yX10_lengthAtHand, Cond.instanceMethod yX10_lengthAtHand, Cond.selects RX10 yX10_lengthAtHand yX10_lengthAtHand, Cond.initialized RX10, Cond.fieldLink RX10 32 "WarpDesk$Tape" "start" "I", Cond.methodLink RX10 38 yX10_byteAt, Cond.instanceMethod yX10_byteAt, Cond.selects RX10 yX10_byteAt yX10_byteAt]
def wz_k160_X10_isSameAsAt : List Cond := .code yX10_isSameAsAt cX10_isSameAsAt 4 (some .boolean) :: (wo_k160_X10_isSameAsAt ++ (wsX100 ++ (wz_k135_X10_lengthAtHand ++ (wz_k125_X10_byteAt ++ ([] : List Cond)))))
theorem zg_k160_X10_isSameAsAt : ∀ w ∈ wz_k160_X10_isSameAsAt, goodWord w = true := zg_cons rfl (zg_app (by decide +kernel) (zg_app zgU_wsX100 (zg_app zg_k135_X10_lengthAtHand (zg_app zg_k125_X10_byteAt zg_nil))))
theorem zi_k160_X10_isSameAsAt : ∀ w ∈ wz_k160_X10_isSameAsAt, w ∈ lw_tbl := zi_cons zw_708 (zi_app (zi_cons zw_597 (zi_cons zw_598 (zi_cons zw_599 (zi_cons zw_104 (zi_cons zw_140 (zi_cons zw_566 (zi_cons zw_568 (zi_cons zw_2 zi_nil)))))))) (zi_app inX10 (zi_app zi_k135_X10_lengthAtHand (zi_app zi_k125_X10_byteAt zi_nil))))
set_option maxHeartbeats 4000000 in
set_option maxRecDepth 100000 in
theorem k160_X10_isSameAsAt (l : Launch) (D : va_G) (zt : Nat × Nat × Nat × (Nat → Nat) × (Nat → Nat)) (q : Nat → Nat) (d : Nat → ClassId) (I : Nat → Int32) (A : Nat → Nat → Int32) (z1 : Int32) (z2 : Int32) (hIv : IvX I A) : GM l D zt (tyX d) yX10_isSameAsAt wz_k160_X10_isSameAsAt ({ frames := 1, cells := 0, slots := 0, locals := 21 } : Room) [.ref (q 1), .int z1, .int z2] (wX q d I A) (fun v _ w' => (v = some (.int 0) ∧ w' = wX q d I A) ∨ (v = some (.int 1) ∧ w' = wX q d I A)) 0 0 := by
  refine GM.of (cc := cX10_isSameAsAt) (maxL := 4) (ret := (some .boolean)) (own := RX10) (lv := [(0, .ref (q 1)), (1, .int z1), (2, .int z2)]) (by decide) rfl rfl (Nat.le_of_ble_eq_true rfl) rfl (fun κ sz hk hR hN => ?_)
  have hin10 : ∀ w ∈ u_ws RX10 TX10 7, w ∈ wz_k160_X10_isSameAsAt := fun w h => (List.mem_cons_of_mem _ (List.mem_append_right _ (List.mem_append_left _ h)))
  refine g_iload_n hk dX10_isSameAsAt_0 rfl ?_
  refine g_aload_n hk dX10_isSameAsAt_1 rfl ?_
  refine g_callV (n := 0) hk (k135_X10_lengthAtHand l D zt q d I A  hIv) (SP.same _) (fun _ h => h) (gi_V (List.mem_cons_of_mem _ (List.mem_append_left _ (List.mem_of_getElem? (i := 0) rfl))) (List.mem_cons_of_mem _ (List.mem_append_left _ (List.mem_of_getElem? (i := 1) rfl))) (List.mem_cons_of_mem _ (List.mem_append_left _ (List.mem_of_getElem? (i := 2) rfl))) (List.mem_cons_of_mem _ (List.mem_append_left _ (List.mem_of_getElem? (i := 3) rfl))) (gi_sub (fun w h => (List.mem_cons_of_mem _ (List.mem_append_right _ (List.mem_append_right _ (List.mem_append_left _ h))))) zg_k135_X10_lengthAtHand)) rfl rfl rfl (by decide +kernel) ⟨Nat.le_of_ble_eq_true rfl, Nat.le_of_ble_eq_true rfl⟩ 1 rfl rfl rfl rfl (Nat.le_of_ble_eq_true rfl) ⟨Nat.le_of_ble_eq_true rfl, Nat.le_of_ble_eq_true rfl⟩ dX10_isSameAsAt_2 (fun v ty' w' hp hk' => ?_)
  obtain ⟨y1025, rfl, rfl⟩ := hp
  show GW κ 4 0 0 (wX q d I A) 5 [(0, .ref (q 1)), (1, .int z1), (2, .int z2)] [.int y1025, .int z2]
  have b1026l := Int32.le_toInt z2
  have b1026h := Int32.toInt_lt z2
  have b1027l := Int32.le_toInt y1025
  have b1027h := Int32.toInt_lt y1025
  refine g_icmp_eq (tgt := 10) (a := z2.toInt) (b := y1025.toInt) hk dX10_isSameAsAt_5 (by decide) rfl rfl (fun c1028 => ?_) (fun c1028 => ?_)
  · skip
    refine g_iconst (v := 0) hk dX10_isSameAsAt_10 (by decide) ?_
    refine g_istore_n (lv' := [(3, .int 0), (0, .ref (q 1)), (1, .int z1), (2, .int z2)]) hk dX10_isSameAsAt_11 (by decide) rfl ?_
    have lp1068 : ∀ (n1069 : Nat) (x1029 : Int32), (0 ≤ x1029.toInt) → (z2.toInt + 1 - x1029.toInt < (n1069 : Int)) → (0 < n1069) → GW κ 4 0 0 (wX q d I A) 12 [(3, .int x1029), (0, .ref (q 1)), (1, .int z1), (2, .int z2)] [] := by
      intro n1069
      induction n1069 with
      | zero =>
        intro x1029 h1067 m1070 m1070z
        exact absurd m1070z (Nat.lt_irrefl 0)
      | succ n1069 ih =>
        intro x1029 h1067 m1070 m1070z
        refine g_iload_n hk dX10_isSameAsAt_12 rfl ?_
        refine g_iload_n hk dX10_isSameAsAt_13 rfl ?_
        have b1071l := Int32.le_toInt x1029
        have b1071h := Int32.toInt_lt x1029
        refine g_icmp_ge (tgt := 45) (a := x1029.toInt) (b := z2.toInt) hk dX10_isSameAsAt_14 (by decide) rfl rfl (fun c1072 => ?_) (fun c1072 => ?_)
        · skip
          refine g_iconst (v := 1) hk dX10_isSameAsAt_45 (by decide) ?_
          exact g_iret hk hR rfl (Or.inr (⟨rfl, rfl⟩)) dX10_isSameAsAt_46
        · skip
          refine g_aload_n hk dX10_isSameAsAt_17 rfl ?_
          refine g_aload_n hk dX10_isSameAsAt_18 rfl ?_
          refine gX_i2 (v := (I 2)) hk hin10 (List.mem_cons_of_mem _ (List.mem_append_left _ (List.mem_of_getElem? (i := 4) rfl))) dX10_isSameAsAt_19 rfl ?_
          refine g_iload_n hk dX10_isSameAsAt_22 rfl ?_
          have b1073l := Int32.le_toInt (I 2)
          have b1073h := Int32.toInt_lt (I 2)
          refine g_iadd hk dX10_isSameAsAt_23 ?_
          refine g_topi (fun y1074 ey1074 => ?_)
          refine g_callV (n := 1) hk (k125_X10_byteAt l D zt q d I A y1074 hIv) (SP.same _) (fun _ h => h) (gi_V (List.mem_cons_of_mem _ (List.mem_append_left _ (List.mem_of_getElem? (i := 5) rfl))) (List.mem_cons_of_mem _ (List.mem_append_left _ (List.mem_of_getElem? (i := 6) rfl))) (List.mem_cons_of_mem _ (List.mem_append_left _ (List.mem_of_getElem? (i := 7) rfl))) (List.mem_cons_of_mem _ (List.mem_append_left _ (List.mem_of_getElem? (i := 3) rfl))) (gi_sub (fun w h => (List.mem_cons_of_mem _ (List.mem_append_right _ (List.mem_append_right _ (List.mem_append_right _ (List.mem_append_left _ h)))))) zg_k125_X10_byteAt)) rfl rfl rfl (by decide +kernel) ⟨Nat.le_of_ble_eq_true rfl, Nat.le_of_ble_eq_true rfl⟩ 1 rfl rfl rfl rfl (Nat.le_of_ble_eq_true rfl) ⟨Nat.le_of_ble_eq_true rfl, Nat.le_of_ble_eq_true rfl⟩ dX10_isSameAsAt_24 (fun v ty' w' hp hk' => ?_)
          obtain ⟨y1075, rfl, rfl⟩ := hp
          show GW κ 4 0 0 (wX q d I A) 27 [(3, .int x1029), (0, .ref (q 1)), (1, .int z1), (2, .int z2)] [.int y1075]
          refine g_aload_n hk dX10_isSameAsAt_27 rfl ?_
          refine g_iload_n hk dX10_isSameAsAt_28 rfl ?_
          refine g_iload_n hk dX10_isSameAsAt_29 rfl ?_
          have b1076l := Int32.le_toInt z1
          have b1076h := Int32.toInt_lt z1
          refine g_iadd hk dX10_isSameAsAt_30 ?_
          refine g_topi (fun y1077 ey1077 => ?_)
          refine g_callV (n := 1) hk (k125_X10_byteAt l D zt q d I A y1077 hIv) (SP.same _) (fun _ h => h) (gi_V (List.mem_cons_of_mem _ (List.mem_append_left _ (List.mem_of_getElem? (i := 5) rfl))) (List.mem_cons_of_mem _ (List.mem_append_left _ (List.mem_of_getElem? (i := 6) rfl))) (List.mem_cons_of_mem _ (List.mem_append_left _ (List.mem_of_getElem? (i := 7) rfl))) (List.mem_cons_of_mem _ (List.mem_append_left _ (List.mem_of_getElem? (i := 3) rfl))) (gi_sub (fun w h => (List.mem_cons_of_mem _ (List.mem_append_right _ (List.mem_append_right _ (List.mem_append_right _ (List.mem_append_left _ h)))))) zg_k125_X10_byteAt)) rfl rfl rfl (by decide +kernel) ⟨Nat.le_of_ble_eq_true rfl, Nat.le_of_ble_eq_true rfl⟩ 1 rfl rfl rfl rfl (Nat.le_of_ble_eq_true rfl) ⟨Nat.le_of_ble_eq_true rfl, Nat.le_of_ble_eq_true rfl⟩ dX10_isSameAsAt_31 (fun v ty' w' hp hk' => ?_)
          obtain ⟨y1078, rfl, rfl⟩ := hp
          show GW κ 4 0 0 (wX q d I A) 34 [(3, .int x1029), (0, .ref (q 1)), (1, .int z1), (2, .int z2)] [.int y1078, .int y1075]
          have b1079l := Int32.le_toInt y1075
          have b1079h := Int32.toInt_lt y1075
          have b1080l := Int32.le_toInt y1078
          have b1080h := Int32.toInt_lt y1078
          refine g_icmp_eq (tgt := 39) (a := y1075.toInt) (b := y1078.toInt) hk dX10_isSameAsAt_34 (by decide) rfl rfl (fun c1081 => ?_) (fun c1081 => ?_)
          · skip
            obtain ⟨y1082, ey1082⟩ : ∃ y : Int32, y = x1029 + Int32.ofInt 1 := ⟨_, rfl⟩
            have hy1082 : y1082.toInt = x1029.toInt + 1 := i32_add ey1082 rfl (by decide) (by omega) (by omega)
            refine g_iinc (v := y1082) (lv' := [(3, .int y1082), (0, .ref (q 1)), (1, .int z1), (2, .int z2)]) hk 0 dX10_isSameAsAt_39 rfl ey1082.symm (by decide) rfl ?_
            refine g_goto (tgt := 12) hk dX10_isSameAsAt_42 (by decide) ?_
            exact g_lv (List.forall_mem_cons.mpr ⟨List.mem_of_getElem? (i := 0) rfl, (List.forall_mem_cons.mpr ⟨List.mem_of_getElem? (i := 1) rfl, (List.forall_mem_cons.mpr ⟨List.mem_of_getElem? (i := 2) rfl, (List.forall_mem_cons.mpr ⟨List.mem_of_getElem? (i := 3) rfl, (fun _ h => absurd h List.not_mem_nil)⟩)⟩)⟩)⟩) (ih y1082 (by omega) (by omega) (by omega))
          · skip
            refine g_iconst (v := 0) hk dX10_isSameAsAt_37 (by decide) ?_
            exact g_iret hk hR rfl (Or.inl ⟨rfl, rfl⟩) dX10_isSameAsAt_38
    have k1084 : (0 : Int32).toInt = 0 := rfl
    obtain ⟨n1083, n1083a, n1083b⟩ : ∃ n : Nat, z2.toInt + 1 - 0 < (n : Int) ∧ 0 < n := ⟨((z2.toInt + 1 - 0 : Int)).toNat + 1, by omega, by omega⟩
    exact lp1068 n1083 0 (by omega) n1083a n1083b
  · skip
    refine g_iconst (v := 0) hk dX10_isSameAsAt_8 (by decide) ?_
    exact g_iret hk hR rfl (Or.inl ⟨rfl, rfl⟩) dX10_isSameAsAt_9
def wo_k158_X5_acceptName : List Cond := [Cond.fieldLink RX5 21 "WarpDesk$Reader" "queries" "LWarpDesk$Queries;", Cond.fieldLink RX5 84 "WarpDesk$Queries" "size" "I", Cond.fieldLink RX5 75 "WarpDesk$Reader" "state" "I", Cond.fieldLink RX5 25 "WarpDesk$Reader" "nameStarts" "[I", Cond.fieldLink RX5 42 "WarpDesk$Reader" "tape" "LWarpDesk$Tape;", Cond.fieldLink RX5 96 "WarpDesk$Tape" "start" "I", Cond.fieldLink RX5 29 "WarpDesk$Reader" "nameLengths" "[I", Cond.methodLink RX5 184 yX10_lengthAtHand, Cond.instanceMethod yX10_lengthAtHand, Cond.selects RX10 yX10_lengthAtHand yX10_lengthAtHand, Cond.initialized RX10, Cond.methodLink RX5 187 yX4_open, Cond.instanceMethod yX4_open, Cond.selects RX4 yX4_open yX4_open, Cond.initialized RX4, Cond.methodLink RX5 177 yX10_isSameAsAt, Cond.instanceMethod yX10_isSameAsAt, Cond.selects RX10 yX10_isSameAsAt yX10_isSameAsAt, Cond.methodLink RX5 181 yX5_mark, Cond.instanceMethod yX5_mark, Cond.selects RX5 yX5_mark yX5_mark, Cond.initialized RX5]
def wz_k158_X5_acceptName : List Cond := .code yX5_acceptName cX5_acceptName 3 none :: (wo_k158_X5_acceptName ++ (wsX40 ++ (wsX50 ++ (wsX100 ++ (wz_k135_X10_lengthAtHand ++ (wz_k159_X4_open ++ (wz_k160_X10_isSameAsAt ++ (wz_k157_X5_mark ++ ([] : List Cond)))))))))
theorem zg_k158_X5_acceptName : ∀ w ∈ wz_k158_X5_acceptName, goodWord w = true := zg_cons rfl (zg_app (by decide +kernel) (zg_app zgU_wsX40 (zg_app zgU_wsX50 (zg_app zgU_wsX100 (zg_app zg_k135_X10_lengthAtHand (zg_app zg_k159_X4_open (zg_app zg_k160_X10_isSameAsAt (zg_app zg_k157_X5_mark zg_nil))))))))
theorem zi_k158_X5_acceptName : ∀ w ∈ wz_k158_X5_acceptName, w ∈ lw_tbl := zi_cons zw_704 (zi_app (zi_cons zw_233 (zi_cons zw_220 (zi_cons zw_237 (zi_cons zw_235 (zi_cons zw_230 (zi_cons zw_141 (zi_cons zw_236 (zi_cons zw_713 (zi_cons zw_598 (zi_cons zw_599 (zi_cons zw_104 (zi_cons zw_714 (zi_cons zw_715 (zi_cons zw_716 (zi_cons zw_108 (zi_cons zw_705 (zi_cons zw_706 (zi_cons zw_707 (zi_cons zw_709 (zi_cons zw_711 (zi_cons zw_18 (zi_cons zw_105 zi_nil)))))))))))))))))))))) (zi_app inX4 (zi_app inX5 (zi_app inX10 (zi_app zi_k135_X10_lengthAtHand (zi_app zi_k159_X4_open (zi_app zi_k160_X10_isSameAsAt (zi_app zi_k157_X5_mark zi_nil))))))))
set_option maxHeartbeats 4000000 in
set_option maxRecDepth 100000 in
theorem k158_X5_acceptName (l : Launch) (D : va_G) (zt : Nat × Nat × Nat × (Nat → Nat) × (Nat → Nat)) (q : Nat → Nat) (d : Nat → ClassId) (I : Nat → Int32) (A : Nat → Nat → Int32) (hIv : IvX I A) : GM l D zt (tyX d) yX5_acceptName wz_k158_X5_acceptName ({ frames := 2, cells := 0, slots := 0, locals := 44 } : Room) [.ref (q 3)] (wX q d I A) (fun v _ w' => ∃ (I' : Nat → Int32) (A' : Nat → Nat → Int32), Md [6, 11, 12, 13, 16] I I' ∧ Md [4, 5, 6] A A' ∧ IvX I' A' ∧ v = none ∧ w' = wX q d I' A') 0 0 := by
  refine GM.of (cc := cX5_acceptName) (maxL := 3) (ret := none) (own := RX5) (lv := [(0, .ref (q 3))]) (by decide) rfl rfl (Nat.le_of_ble_eq_true rfl) rfl (fun κ sz hk hR hN => ?_)
  have hin4 : ∀ w ∈ u_ws RX4 TX4 3, w ∈ wz_k158_X5_acceptName := fun w h => (List.mem_cons_of_mem _ (List.mem_append_right _ (List.mem_append_left _ h)))
  have hin5 : ∀ w ∈ u_ws RX5 TX5 13, w ∈ wz_k158_X5_acceptName := fun w h => (List.mem_cons_of_mem _ (List.mem_append_right _ (List.mem_append_right _ (List.mem_append_left _ h))))
  have hin10 : ∀ w ∈ u_ws RX10 TX10 7, w ∈ wz_k158_X5_acceptName := fun w h => (List.mem_cons_of_mem _ (List.mem_append_right _ (List.mem_append_right _ (List.mem_append_right _ (List.mem_append_left _ h)))))
  refine g_aload_n hk dX5_acceptName_0 rfl ?_
  refine gX_r3_2 hk hin5 (List.mem_cons_of_mem _ (List.mem_append_left _ (List.mem_of_getElem? (i := 0) rfl))) dX5_acceptName_1 ?_
  refine gX_i16 (v := (I 16)) hk hin4 (List.mem_cons_of_mem _ (List.mem_append_left _ (List.mem_of_getElem? (i := 1) rfl))) dX5_acceptName_4 rfl ?_
  refine g_istore_n (lv' := [(1, .int (I 16)), (0, .ref (q 3))]) hk dX5_acceptName_7 (by decide) rfl ?_
  refine g_iconst (v := 0) hk dX5_acceptName_8 (by decide) ?_
  refine g_istore_n (lv' := [(2, .int 0), (1, .int (I 16)), (0, .ref (q 3))]) hk dX5_acceptName_9 (by decide) rfl ?_
  have lp1144 : ∀ (n1145 : Nat) (x1009 : Int32) (I1012 : Nat → Int32) (A1012 : Nat → Nat → Int32), (Md [11, 12, 13] I I1012) → (Md [] A A1012) → (IvX I1012 A1012) → (0 ≤ x1009.toInt) → (x1009.toInt ≤ 5) → ((I 16).toInt + 1 - x1009.toInt < (n1145 : Int)) → (0 < n1145) → GW κ 3 0 0 (wX q d I1012 A1012) 10 [(2, .int x1009), (1, .int (I 16)), (0, .ref (q 3))] [] := by
    intro n1145
    induction n1145 with
    | zero =>
      intro x1009 I1012 A1012 hI1012 hA1012 hV1012 h1142 h1143 m1146 m1146z
      exact absurd m1146z (Nat.lt_irrefl 0)
    | succ n1145 ih =>
      intro x1009 I1012 A1012 hI1012 hA1012 hV1012 h1142 h1143 m1146 m1146z
      refine g_iload_n hk dX5_acceptName_10 rfl ?_
      refine g_iload_n hk dX5_acceptName_11 rfl ?_
      have b1147l := Int32.le_toInt (I 16)
      have b1147h := Int32.toInt_lt (I 16)
      refine g_icmp_ge (tgt := 53) (a := x1009.toInt) (b := (I 16).toInt) hk dX5_acceptName_12 (by decide) rfl rfl (fun c1148 => ?_) (fun c1148 => ?_)
      · skip
        refine g_iload_n hk dX5_acceptName_53 rfl ?_
        refine g_if_lt (tgt := 95) (a := (I 16).toInt) hk dX5_acceptName_54 (by decide) rfl (fun c1149 => ?_) (fun c1149 => ?_)
        · skip
          refine g_aload_n hk dX5_acceptName_95 rfl ?_
          refine g_iconst (v := 3) hk dX5_acceptName_96 (by decide) ?_
          refine pX_i6 hk hin5 (List.mem_cons_of_mem _ (List.mem_append_left _ (List.mem_of_getElem? (i := 2) rfl))) dX5_acceptName_97 ?_
          exact g_vret hk hR ⟨(upd I1012 6 3), A1012, (show Md [6, 11, 12, 13, 16] I (upd I1012 6 3) from (Md.up (Md.tr Md.rf hI1012 rfl) rfl)), (show Md [4, 5, 6] A A1012 from (Md.tr Md.rf hA1012 rfl)), ⟨(IvX_f0 (I := I1012) (A := A1012) hV1012), (IvX_f18 (I := I1012) (A := A1012) hV1012), (IvX_f30 (I := I1012) (A := A1012) hV1012), (IvX_f31 (I := I1012) (A := A1012) hV1012), (IvX_a4 (I := I1012) (A := A1012) hV1012), (IvX_a9 (I := I1012) (A := A1012) hV1012), trivial⟩, rfl, rfl⟩ dX5_acceptName_100
        · skip
          refine g_iload_n hk dX5_acceptName_57 rfl ?_
          refine g_iconst (v := 5) hk dX5_acceptName_58 (by decide) ?_
          refine g_icmp_ge (tgt := 95) (a := (I 16).toInt) (b := 5) hk dX5_acceptName_59 (by decide) rfl rfl (fun c1150 => ?_) (fun c1150 => ?_)
          · skip
            refine g_aload_n hk dX5_acceptName_95 rfl ?_
            refine g_iconst (v := 3) hk dX5_acceptName_96 (by decide) ?_
            refine pX_i6 hk hin5 (List.mem_cons_of_mem _ (List.mem_append_left _ (List.mem_of_getElem? (i := 2) rfl))) dX5_acceptName_97 ?_
            exact g_vret hk hR ⟨(upd I1012 6 3), A1012, (show Md [6, 11, 12, 13, 16] I (upd I1012 6 3) from (Md.up (Md.tr Md.rf hI1012 rfl) rfl)), (show Md [4, 5, 6] A A1012 from (Md.tr Md.rf hA1012 rfl)), ⟨(IvX_f0 (I := I1012) (A := A1012) hV1012), (IvX_f18 (I := I1012) (A := A1012) hV1012), (IvX_f30 (I := I1012) (A := A1012) hV1012), (IvX_f31 (I := I1012) (A := A1012) hV1012), (IvX_a4 (I := I1012) (A := A1012) hV1012), (IvX_a9 (I := I1012) (A := A1012) hV1012), trivial⟩, rfl, rfl⟩ dX5_acceptName_100
          · skip
            refine g_aload_n hk dX5_acceptName_62 rfl ?_
            refine gX_r3_3 hk hin5 (List.mem_cons_of_mem _ (List.mem_append_left _ (List.mem_of_getElem? (i := 3) rfl))) dX5_acceptName_63 ?_
            refine g_iload_n hk dX5_acceptName_66 rfl ?_
            refine g_aload_n hk dX5_acceptName_67 rfl ?_
            refine gX_r3_0 hk hin5 (List.mem_cons_of_mem _ (List.mem_append_left _ (List.mem_of_getElem? (i := 4) rfl))) dX5_acceptName_68 ?_
            refine gX_i2 (v := (I 2)) hk hin10 (List.mem_cons_of_mem _ (List.mem_append_left _ (List.mem_of_getElem? (i := 5) rfl))) dX5_acceptName_71 (hI1012 2 rfl) ?_
            refine sX_5 (j := (I 16).toNatClampNeg) hk (vp_in_iff.mpr ⟨by omega, by omega⟩) rfl dX5_acceptName_74 ?_
            refine g_aload_n hk dX5_acceptName_75 rfl ?_
            refine gX_r3_4 hk hin5 (List.mem_cons_of_mem _ (List.mem_append_left _ (List.mem_of_getElem? (i := 6) rfl))) dX5_acceptName_76 ?_
            refine g_iload_n hk dX5_acceptName_79 rfl ?_
            refine g_aload_n hk dX5_acceptName_80 rfl ?_
            refine gX_r3_0 hk hin5 (List.mem_cons_of_mem _ (List.mem_append_left _ (List.mem_of_getElem? (i := 4) rfl))) dX5_acceptName_81 ?_
            refine g_callV (n := 0) hk (k135_X10_lengthAtHand l D zt q d I1012 (up3 A1012 5 ((I 16).toNatClampNeg) (I 2))  ⟨(IvX_f0 (I := I1012) (A := A1012) hV1012), (IvX_f18 (I := I1012) (A := A1012) hV1012), (IvX_f30 (I := I1012) (A := A1012) hV1012), (IvX_f31 (I := I1012) (A := A1012) hV1012), (IvX_a4 (I := I1012) (A := A1012) hV1012), (IvX_a9 (I := I1012) (A := A1012) hV1012), trivial⟩) (SP.same _) (fun _ h => h) (gi_V (List.mem_cons_of_mem _ (List.mem_append_left _ (List.mem_of_getElem? (i := 7) rfl))) (List.mem_cons_of_mem _ (List.mem_append_left _ (List.mem_of_getElem? (i := 8) rfl))) (List.mem_cons_of_mem _ (List.mem_append_left _ (List.mem_of_getElem? (i := 9) rfl))) (List.mem_cons_of_mem _ (List.mem_append_left _ (List.mem_of_getElem? (i := 10) rfl))) (gi_sub (fun w h => (List.mem_cons_of_mem _ (List.mem_append_right _ (List.mem_append_right _ (List.mem_append_right _ (List.mem_append_right _ (List.mem_append_left _ h))))))) zg_k135_X10_lengthAtHand)) rfl rfl rfl (by decide +kernel) ⟨Nat.le_of_ble_eq_true rfl, Nat.le_of_ble_eq_true rfl⟩ 1 rfl rfl rfl rfl (Nat.le_of_ble_eq_true rfl) ⟨Nat.le_of_ble_eq_true rfl, Nat.le_of_ble_eq_true rfl⟩ dX5_acceptName_84 (fun v ty' w' hp hk' => ?_)
            obtain ⟨y1151, rfl, rfl⟩ := hp
            show GW κ 3 0 0 (wX q d I1012 (up3 A1012 5 ((I 16).toNatClampNeg) (I 2))) 87 [(2, .int x1009), (1, .int (I 16)), (0, .ref (q 3))] [.int y1151, .int (I 16), .ref (q 12)]
            refine sX_6 (j := (I 16).toNatClampNeg) hk (vp_in_iff.mpr ⟨by omega, by omega⟩) rfl dX5_acceptName_87 ?_
            refine g_aload_n hk dX5_acceptName_88 rfl ?_
            refine gX_r3_2 hk hin5 (List.mem_cons_of_mem _ (List.mem_append_left _ (List.mem_of_getElem? (i := 0) rfl))) dX5_acceptName_89 ?_
            refine g_callV (n := 0) hk (k159_X4_open l D zt q d I1012 (up3 (up3 A1012 5 ((I 16).toNatClampNeg) (I 2)) 6 ((I 16).toNatClampNeg) y1151)  ⟨(IvX_f0 (I := I1012) (A := A1012) hV1012), (IvX_f18 (I := I1012) (A := A1012) hV1012), (IvX_f30 (I := I1012) (A := A1012) hV1012), (IvX_f31 (I := I1012) (A := A1012) hV1012), (IvX_a4 (I := I1012) (A := A1012) hV1012), (IvX_a9 (I := I1012) (A := A1012) hV1012), trivial⟩) (SP.same _) (fun _ h => h) (gi_V (List.mem_cons_of_mem _ (List.mem_append_left _ (List.mem_of_getElem? (i := 11) rfl))) (List.mem_cons_of_mem _ (List.mem_append_left _ (List.mem_of_getElem? (i := 12) rfl))) (List.mem_cons_of_mem _ (List.mem_append_left _ (List.mem_of_getElem? (i := 13) rfl))) (List.mem_cons_of_mem _ (List.mem_append_left _ (List.mem_of_getElem? (i := 14) rfl))) (gi_sub (fun w h => (List.mem_cons_of_mem _ (List.mem_append_right _ (List.mem_append_right _ (List.mem_append_right _ (List.mem_append_right _ (List.mem_append_right _ (List.mem_append_left _ h)))))))) zg_k159_X4_open)) rfl rfl rfl (by decide +kernel) ⟨Nat.le_of_ble_eq_true rfl, Nat.le_of_ble_eq_true rfl⟩ 8 rfl rfl rfl rfl (Nat.le_of_ble_eq_true rfl) ⟨Nat.le_of_ble_eq_true rfl, Nat.le_of_ble_eq_true rfl⟩ dX5_acceptName_92 (fun v ty' w' hp hk' => ?_)
            obtain ⟨I1153, A1153, hI1153, hA1153, hV1153, rfl, rfl⟩ := hp
            show GW κ 3 0 0 (wX q d I1153 A1153) 95 [(2, .int x1009), (1, .int (I 16)), (0, .ref (q 3))] []
            refine g_aload_n hk dX5_acceptName_95 rfl ?_
            refine g_iconst (v := 3) hk dX5_acceptName_96 (by decide) ?_
            refine pX_i6 hk hin5 (List.mem_cons_of_mem _ (List.mem_append_left _ (List.mem_of_getElem? (i := 2) rfl))) dX5_acceptName_97 ?_
            exact g_vret hk hR ⟨(upd I1153 6 3), A1153, (show Md [6, 11, 12, 13, 16] I (upd I1153 6 3) from (Md.up (Md.tr (Md.tr Md.rf hI1012 rfl) hI1153 rfl) rfl)), (show Md [4, 5, 6] A A1153 from (Md.tr (Md.up3 (Md.up3 (Md.tr Md.rf hA1012 rfl) rfl) rfl) hA1153 rfl)), ⟨(IvX_f0 (I := I1153) (A := A1153) hV1153), (IvX_f18 (I := I1153) (A := A1153) hV1153), (IvX_f30 (I := I1153) (A := A1153) hV1153), (IvX_f31 (I := I1153) (A := A1153) hV1153), (IvX_a4 (I := I1153) (A := A1153) hV1153), (IvX_a9 (I := I1153) (A := A1153) hV1153), trivial⟩, rfl, rfl⟩ dX5_acceptName_100
      · skip
        refine g_iload_n hk dX5_acceptName_15 rfl ?_
        refine g_iconst (v := 5) hk dX5_acceptName_16 (by decide) ?_
        refine g_icmp_ge (tgt := 53) (a := x1009.toInt) (b := 5) hk dX5_acceptName_17 (by decide) rfl rfl (fun c1154 => ?_) (fun c1154 => ?_)
        · skip
          refine g_iload_n hk dX5_acceptName_53 rfl ?_
          refine g_if_lt (tgt := 95) (a := (I 16).toInt) hk dX5_acceptName_54 (by decide) rfl (fun z9 => absurd z9 (show ¬ ((I 16).toInt < 0) from by omega)) (fun _ => ?_)
          refine g_iload_n hk dX5_acceptName_57 rfl ?_
          refine g_iconst (v := 5) hk dX5_acceptName_58 (by decide) ?_
          refine g_icmp_ge (tgt := 95) (a := (I 16).toInt) (b := 5) hk dX5_acceptName_59 (by decide) rfl rfl (fun c1155 => ?_) (fun c1155 => ?_)
          · skip
            refine g_aload_n hk dX5_acceptName_95 rfl ?_
            refine g_iconst (v := 3) hk dX5_acceptName_96 (by decide) ?_
            refine pX_i6 hk hin5 (List.mem_cons_of_mem _ (List.mem_append_left _ (List.mem_of_getElem? (i := 2) rfl))) dX5_acceptName_97 ?_
            exact g_vret hk hR ⟨(upd I1012 6 3), A1012, (show Md [6, 11, 12, 13, 16] I (upd I1012 6 3) from (Md.up (Md.tr Md.rf hI1012 rfl) rfl)), (show Md [4, 5, 6] A A1012 from (Md.tr Md.rf hA1012 rfl)), ⟨(IvX_f0 (I := I1012) (A := A1012) hV1012), (IvX_f18 (I := I1012) (A := A1012) hV1012), (IvX_f30 (I := I1012) (A := A1012) hV1012), (IvX_f31 (I := I1012) (A := A1012) hV1012), (IvX_a4 (I := I1012) (A := A1012) hV1012), (IvX_a9 (I := I1012) (A := A1012) hV1012), trivial⟩, rfl, rfl⟩ dX5_acceptName_100
          · skip
            refine g_aload_n hk dX5_acceptName_62 rfl ?_
            refine gX_r3_3 hk hin5 (List.mem_cons_of_mem _ (List.mem_append_left _ (List.mem_of_getElem? (i := 3) rfl))) dX5_acceptName_63 ?_
            refine g_iload_n hk dX5_acceptName_66 rfl ?_
            refine g_aload_n hk dX5_acceptName_67 rfl ?_
            refine gX_r3_0 hk hin5 (List.mem_cons_of_mem _ (List.mem_append_left _ (List.mem_of_getElem? (i := 4) rfl))) dX5_acceptName_68 ?_
            refine gX_i2 (v := (I 2)) hk hin10 (List.mem_cons_of_mem _ (List.mem_append_left _ (List.mem_of_getElem? (i := 5) rfl))) dX5_acceptName_71 (hI1012 2 rfl) ?_
            refine sX_5 (j := (I 16).toNatClampNeg) hk (vp_in_iff.mpr ⟨by omega, by omega⟩) rfl dX5_acceptName_74 ?_
            refine g_aload_n hk dX5_acceptName_75 rfl ?_
            refine gX_r3_4 hk hin5 (List.mem_cons_of_mem _ (List.mem_append_left _ (List.mem_of_getElem? (i := 6) rfl))) dX5_acceptName_76 ?_
            refine g_iload_n hk dX5_acceptName_79 rfl ?_
            refine g_aload_n hk dX5_acceptName_80 rfl ?_
            refine gX_r3_0 hk hin5 (List.mem_cons_of_mem _ (List.mem_append_left _ (List.mem_of_getElem? (i := 4) rfl))) dX5_acceptName_81 ?_
            refine g_callV (n := 0) hk (k135_X10_lengthAtHand l D zt q d I1012 (up3 A1012 5 ((I 16).toNatClampNeg) (I 2))  ⟨(IvX_f0 (I := I1012) (A := A1012) hV1012), (IvX_f18 (I := I1012) (A := A1012) hV1012), (IvX_f30 (I := I1012) (A := A1012) hV1012), (IvX_f31 (I := I1012) (A := A1012) hV1012), (IvX_a4 (I := I1012) (A := A1012) hV1012), (IvX_a9 (I := I1012) (A := A1012) hV1012), trivial⟩) (SP.same _) (fun _ h => h) (gi_V (List.mem_cons_of_mem _ (List.mem_append_left _ (List.mem_of_getElem? (i := 7) rfl))) (List.mem_cons_of_mem _ (List.mem_append_left _ (List.mem_of_getElem? (i := 8) rfl))) (List.mem_cons_of_mem _ (List.mem_append_left _ (List.mem_of_getElem? (i := 9) rfl))) (List.mem_cons_of_mem _ (List.mem_append_left _ (List.mem_of_getElem? (i := 10) rfl))) (gi_sub (fun w h => (List.mem_cons_of_mem _ (List.mem_append_right _ (List.mem_append_right _ (List.mem_append_right _ (List.mem_append_right _ (List.mem_append_left _ h))))))) zg_k135_X10_lengthAtHand)) rfl rfl rfl (by decide +kernel) ⟨Nat.le_of_ble_eq_true rfl, Nat.le_of_ble_eq_true rfl⟩ 1 rfl rfl rfl rfl (Nat.le_of_ble_eq_true rfl) ⟨Nat.le_of_ble_eq_true rfl, Nat.le_of_ble_eq_true rfl⟩ dX5_acceptName_84 (fun v ty' w' hp hk' => ?_)
            obtain ⟨y1156, rfl, rfl⟩ := hp
            show GW κ 3 0 0 (wX q d I1012 (up3 A1012 5 ((I 16).toNatClampNeg) (I 2))) 87 [(2, .int x1009), (1, .int (I 16)), (0, .ref (q 3))] [.int y1156, .int (I 16), .ref (q 12)]
            refine sX_6 (j := (I 16).toNatClampNeg) hk (vp_in_iff.mpr ⟨by omega, by omega⟩) rfl dX5_acceptName_87 ?_
            refine g_aload_n hk dX5_acceptName_88 rfl ?_
            refine gX_r3_2 hk hin5 (List.mem_cons_of_mem _ (List.mem_append_left _ (List.mem_of_getElem? (i := 0) rfl))) dX5_acceptName_89 ?_
            refine g_callV (n := 0) hk (k159_X4_open l D zt q d I1012 (up3 (up3 A1012 5 ((I 16).toNatClampNeg) (I 2)) 6 ((I 16).toNatClampNeg) y1156)  ⟨(IvX_f0 (I := I1012) (A := A1012) hV1012), (IvX_f18 (I := I1012) (A := A1012) hV1012), (IvX_f30 (I := I1012) (A := A1012) hV1012), (IvX_f31 (I := I1012) (A := A1012) hV1012), (IvX_a4 (I := I1012) (A := A1012) hV1012), (IvX_a9 (I := I1012) (A := A1012) hV1012), trivial⟩) (SP.same _) (fun _ h => h) (gi_V (List.mem_cons_of_mem _ (List.mem_append_left _ (List.mem_of_getElem? (i := 11) rfl))) (List.mem_cons_of_mem _ (List.mem_append_left _ (List.mem_of_getElem? (i := 12) rfl))) (List.mem_cons_of_mem _ (List.mem_append_left _ (List.mem_of_getElem? (i := 13) rfl))) (List.mem_cons_of_mem _ (List.mem_append_left _ (List.mem_of_getElem? (i := 14) rfl))) (gi_sub (fun w h => (List.mem_cons_of_mem _ (List.mem_append_right _ (List.mem_append_right _ (List.mem_append_right _ (List.mem_append_right _ (List.mem_append_right _ (List.mem_append_left _ h)))))))) zg_k159_X4_open)) rfl rfl rfl (by decide +kernel) ⟨Nat.le_of_ble_eq_true rfl, Nat.le_of_ble_eq_true rfl⟩ 8 rfl rfl rfl rfl (Nat.le_of_ble_eq_true rfl) ⟨Nat.le_of_ble_eq_true rfl, Nat.le_of_ble_eq_true rfl⟩ dX5_acceptName_92 (fun v ty' w' hp hk' => ?_)
            obtain ⟨I1158, A1158, hI1158, hA1158, hV1158, rfl, rfl⟩ := hp
            show GW κ 3 0 0 (wX q d I1158 A1158) 95 [(2, .int x1009), (1, .int (I 16)), (0, .ref (q 3))] []
            refine g_aload_n hk dX5_acceptName_95 rfl ?_
            refine g_iconst (v := 3) hk dX5_acceptName_96 (by decide) ?_
            refine pX_i6 hk hin5 (List.mem_cons_of_mem _ (List.mem_append_left _ (List.mem_of_getElem? (i := 2) rfl))) dX5_acceptName_97 ?_
            exact g_vret hk hR ⟨(upd I1158 6 3), A1158, (show Md [6, 11, 12, 13, 16] I (upd I1158 6 3) from (Md.up (Md.tr (Md.tr Md.rf hI1012 rfl) hI1158 rfl) rfl)), (show Md [4, 5, 6] A A1158 from (Md.tr (Md.up3 (Md.up3 (Md.tr Md.rf hA1012 rfl) rfl) rfl) hA1158 rfl)), ⟨(IvX_f0 (I := I1158) (A := A1158) hV1158), (IvX_f18 (I := I1158) (A := A1158) hV1158), (IvX_f30 (I := I1158) (A := A1158) hV1158), (IvX_f31 (I := I1158) (A := A1158) hV1158), (IvX_a4 (I := I1158) (A := A1158) hV1158), (IvX_a9 (I := I1158) (A := A1158) hV1158), trivial⟩, rfl, rfl⟩ dX5_acceptName_100
        · skip
          refine g_aload_n hk dX5_acceptName_20 rfl ?_
          refine gX_r3_0 hk hin5 (List.mem_cons_of_mem _ (List.mem_append_left _ (List.mem_of_getElem? (i := 4) rfl))) dX5_acceptName_21 ?_
          refine g_aload_n hk dX5_acceptName_24 rfl ?_
          refine gX_r3_3 hk hin5 (List.mem_cons_of_mem _ (List.mem_append_left _ (List.mem_of_getElem? (i := 3) rfl))) dX5_acceptName_25 ?_
          refine g_iload_n hk dX5_acceptName_28 rfl ?_
          refine lX_5 (v := (A 5 x1009.toNatClampNeg)) hk (vp_in_iff.mpr ⟨by omega, by omega⟩) (congrFun (hA1012 5 rfl) _) dX5_acceptName_29 ?_
          refine g_aload_n hk dX5_acceptName_30 rfl ?_
          refine gX_r3_4 hk hin5 (List.mem_cons_of_mem _ (List.mem_append_left _ (List.mem_of_getElem? (i := 6) rfl))) dX5_acceptName_31 ?_
          refine g_iload_n hk dX5_acceptName_34 rfl ?_
          refine lX_6 (v := (A 6 x1009.toNatClampNeg)) hk (vp_in_iff.mpr ⟨by omega, by omega⟩) (congrFun (hA1012 6 rfl) _) dX5_acceptName_35 ?_
          refine g_callV (n := 2) hk (k160_X10_isSameAsAt l D zt q d I1012 A1012 (A 5 x1009.toNatClampNeg) (A 6 x1009.toNatClampNeg) hV1012) (SP.same _) (fun _ h => h) (gi_V (List.mem_cons_of_mem _ (List.mem_append_left _ (List.mem_of_getElem? (i := 15) rfl))) (List.mem_cons_of_mem _ (List.mem_append_left _ (List.mem_of_getElem? (i := 16) rfl))) (List.mem_cons_of_mem _ (List.mem_append_left _ (List.mem_of_getElem? (i := 17) rfl))) (List.mem_cons_of_mem _ (List.mem_append_left _ (List.mem_of_getElem? (i := 10) rfl))) (gi_sub (fun w h => (List.mem_cons_of_mem _ (List.mem_append_right _ (List.mem_append_right _ (List.mem_append_right _ (List.mem_append_right _ (List.mem_append_right _ (List.mem_append_right _ (List.mem_append_left _ h))))))))) zg_k160_X10_isSameAsAt)) rfl rfl rfl (by decide +kernel) ⟨Nat.le_of_ble_eq_true rfl, Nat.le_of_ble_eq_true rfl⟩ 1 rfl rfl rfl rfl (Nat.le_of_ble_eq_true rfl) ⟨Nat.le_of_ble_eq_true rfl, Nat.le_of_ble_eq_true rfl⟩ dX5_acceptName_36 (fun v ty' w' hp hk' => ?_)
          rcases hp with ⟨rfl, rfl⟩ | ⟨rfl, rfl⟩
          · skip
            show GW κ 3 0 0 (wX q d I1012 A1012) 39 [(2, .int x1009), (1, .int (I 16)), (0, .ref (q 3))] [.int 0]
            refine g_if_eq (tgt := 47) (a := 0) hk dX5_acceptName_39 (by decide) rfl (fun _ => ?_) (fun z9 => absurd (show (0 : Int) = (0 : Int) from by decide) z9)
            obtain ⟨y1161, ey1161⟩ : ∃ y : Int32, y = x1009 + Int32.ofInt 1 := ⟨_, rfl⟩
            have hy1161 : y1161.toInt = x1009.toInt + 1 := i32_add ey1161 rfl (by decide) (by omega) (by omega)
            refine g_iinc (v := y1161) (lv' := [(2, .int y1161), (1, .int (I 16)), (0, .ref (q 3))]) hk 0 dX5_acceptName_47 rfl ey1161.symm (by decide) rfl ?_
            refine g_goto (tgt := 10) hk dX5_acceptName_50 (by decide) ?_
            exact g_lv (List.forall_mem_cons.mpr ⟨List.mem_of_getElem? (i := 0) rfl, (List.forall_mem_cons.mpr ⟨List.mem_of_getElem? (i := 1) rfl, (List.forall_mem_cons.mpr ⟨List.mem_of_getElem? (i := 2) rfl, (fun _ h => absurd h List.not_mem_nil)⟩)⟩)⟩) (ih y1161 I1012 A1012 (show Md [11, 12, 13] I I1012 from Md.tr hI1012 (show Md [11, 12, 13] I1012 I1012 from Md.rf) rfl) (show Md [] A A1012 from Md.tr hA1012 (show Md [] A1012 A1012 from Md.rf) rfl) hV1012 (by omega) (by omega) (by omega) (by omega))
          · skip
            show GW κ 3 0 0 (wX q d I1012 A1012) 39 [(2, .int x1009), (1, .int (I 16)), (0, .ref (q 3))] [.int 1]
            refine g_if_eq (tgt := 47) (a := 1) hk dX5_acceptName_39 (by decide) rfl (fun z9 => absurd z9 (show ¬ ((1 : Int) = (0 : Int)) from by decide)) (fun _ => ?_)
            refine g_aload_n hk dX5_acceptName_42 rfl ?_
            refine g_iconst (v := 3) hk dX5_acceptName_43 (by decide) ?_
            have k1162 : (3 : Int32).toInt = 3 := rfl
            refine g_callV (n := 1) hk (k157_X5_mark l D zt q d I1012 A1012 3 hV1012) (SP.same _) (fun _ h => h) (gi_V (List.mem_cons_of_mem _ (List.mem_append_left _ (List.mem_of_getElem? (i := 18) rfl))) (List.mem_cons_of_mem _ (List.mem_append_left _ (List.mem_of_getElem? (i := 19) rfl))) (List.mem_cons_of_mem _ (List.mem_append_left _ (List.mem_of_getElem? (i := 20) rfl))) (List.mem_cons_of_mem _ (List.mem_append_left _ (List.mem_of_getElem? (i := 21) rfl))) (gi_sub (fun w h => (List.mem_cons_of_mem _ (List.mem_append_right _ (List.mem_append_right _ (List.mem_append_right _ (List.mem_append_right _ (List.mem_append_right _ (List.mem_append_right _ (List.mem_append_right _ (List.mem_append_left _ h)))))))))) zg_k157_X5_mark)) rfl rfl rfl (by decide +kernel) ⟨Nat.le_of_ble_eq_true rfl, Nat.le_of_ble_eq_true rfl⟩ 3 rfl rfl rfl rfl (Nat.le_of_ble_eq_true rfl) ⟨Nat.le_of_ble_eq_true rfl, Nat.le_of_ble_eq_true rfl⟩ dX5_acceptName_44 (fun v ty' w' hp hk' => ?_)
            obtain ⟨I1164, A1164, hI1164, hA1164, hV1164, rfl, rfl⟩ := hp
            show GW κ 3 0 0 (wX q d I1164 A1164) 47 [(2, .int x1009), (1, .int (I 16)), (0, .ref (q 3))] []
            obtain ⟨y1165, ey1165⟩ : ∃ y : Int32, y = x1009 + Int32.ofInt 1 := ⟨_, rfl⟩
            have hy1165 : y1165.toInt = x1009.toInt + 1 := i32_add ey1165 rfl (by decide) (by omega) (by omega)
            refine g_iinc (v := y1165) (lv' := [(2, .int y1165), (1, .int (I 16)), (0, .ref (q 3))]) hk 0 dX5_acceptName_47 rfl ey1165.symm (by decide) rfl ?_
            refine g_goto (tgt := 10) hk dX5_acceptName_50 (by decide) ?_
            exact g_lv (List.forall_mem_cons.mpr ⟨List.mem_of_getElem? (i := 0) rfl, (List.forall_mem_cons.mpr ⟨List.mem_of_getElem? (i := 1) rfl, (List.forall_mem_cons.mpr ⟨List.mem_of_getElem? (i := 2) rfl, (fun _ h => absurd h List.not_mem_nil)⟩)⟩)⟩) (ih y1165 I1164 A1164 (show Md [11, 12, 13] I I1164 from Md.tr hI1012 (show Md [11, 12, 13] I1012 I1164 from (Md.tr Md.rf hI1164 rfl)) rfl) (show Md [] A A1164 from Md.tr hA1012 (show Md [] A1012 A1164 from (Md.tr Md.rf hA1164 rfl)) rfl) hV1164 (by omega) (by omega) (by omega) (by omega))
  have k1167 : (0 : Int32).toInt = 0 := rfl
  obtain ⟨n1166, n1166a, n1166b⟩ : ∃ n : Nat, (I 16).toInt + 1 - 0 < (n : Int) ∧ 0 < n := ⟨(((I 16).toInt + 1 - 0 : Int)).toNat + 1, by omega, by omega⟩
  exact lp1144 n1166 0 I A Md.rf Md.rf hIv (by omega) (by omega) n1166a n1166b
def wo_k162_X7_allows : List Cond := [Cond.fieldLink RX7 23 "WarpDesk$Settings" "LOWEST" "[I", Cond.fieldLink RX7 26 "WarpDesk$Settings" "HIGHEST" "[I"]
def wz_k162_X7_allows : List Cond := .code yX7_allows cX7_allows 2 (some .boolean) :: (wo_k162_X7_allows ++ ([] : List Cond))
theorem zg_k162_X7_allows : ∀ w ∈ wz_k162_X7_allows, goodWord w = true := zg_cons rfl (zg_app (by decide +kernel) zg_nil)
theorem zi_k162_X7_allows : ∀ w ∈ wz_k162_X7_allows, w ∈ lw_tbl := zi_cons zw_724 (zi_app (zi_cons zw_725 (zi_cons zw_727 zi_nil)) zi_nil)
set_option maxHeartbeats 4000000 in
set_option maxRecDepth 100000 in
theorem k162_X7_allows (l : Launch) (D : va_G) (zt : Nat × Nat × Nat × (Nat → Nat) × (Nat → Nat)) (q : Nat → Nat) (d : Nat → ClassId) (I : Nat → Int32) (A : Nat → Nat → Int32) (z0 : Int32) (z1 : Int32) (hIv : IvX I A) : GM l D zt (tyX d) yX7_allows wz_k162_X7_allows ({ frames := 0, cells := 0, slots := 0, locals := 0 } : Room) [.int z0, .int z1] (wX q d I A) (fun v _ w' => (v = some (.int 0) ∧ w' = wX q d I A) ∨ ((¬ (z0.toInt < 0)) ∧ (¬ (4 ≤ z0.toInt)) ∧ (0 ≤ z0.toInt) ∧ (z0.toInt ≤ 3) ∧ (0 ≤ z1.toInt) ∧ (z1.toInt ≤ 99) ∧ v = some (.int 1) ∧ w' = wX q d I A)) 0 0 := by
  refine GM.of (cc := cX7_allows) (maxL := 2) (ret := (some .boolean)) (own := RX7) (lv := [(0, .int z0), (1, .int z1)]) (by decide) rfl rfl (Nat.le_of_ble_eq_true rfl) rfl (fun κ sz hk hR hN => ?_)
  refine g_iload_n hk dX7_allows_0 rfl ?_
  have b1174l := Int32.le_toInt z0
  have b1174h := Int32.toInt_lt z0
  refine g_if_lt (tgt := 42) (a := z0.toInt) hk dX7_allows_1 (by decide) rfl (fun c1175 => ?_) (fun c1175 => ?_)
  · skip
    refine g_iconst (v := 0) hk dX7_allows_42 (by decide) ?_
    exact g_iret hk hR rfl (Or.inl ⟨rfl, rfl⟩) dX7_allows_43
  · skip
    refine g_iload_n hk dX7_allows_4 rfl ?_
    refine g_getsL hk (List.mem_cons_of_mem _ (List.mem_append_left _ (List.mem_of_getElem? (i := 0) rfl))) dX7_allows_5 ?_
    refine g_lenL hk dX7_allows_8 ?_
    refine g_icmp_ge (tgt := 42) (a := z0.toInt) (b := 4) hk dX7_allows_9 (by decide) rfl rfl (fun c1176 => ?_) (fun c1176 => ?_)
    · skip
      refine g_iconst (v := 0) hk dX7_allows_42 (by decide) ?_
      exact g_iret hk hR rfl (Or.inl ⟨rfl, rfl⟩) dX7_allows_43
    · skip
      refine g_iload_n hk dX7_allows_12 rfl ?_
      refine g_getsH hk (List.mem_cons_of_mem _ (List.mem_append_left _ (List.mem_of_getElem? (i := 1) rfl))) dX7_allows_13 ?_
      refine g_lenH hk dX7_allows_16 ?_
      refine g_icmp_ge (tgt := 42) (a := z0.toInt) (b := 4) hk dX7_allows_17 (by decide) rfl rfl (fun z9 => absurd z9 (show ¬ (4 ≤ z0.toInt) from by omega)) (fun _ => ?_)
      refine g_iload_n hk dX7_allows_20 rfl ?_
      refine g_getsL hk (List.mem_cons_of_mem _ (List.mem_append_left _ (List.mem_of_getElem? (i := 0) rfl))) dX7_allows_21 ?_
      refine g_iload_n hk dX7_allows_24 rfl ?_
      by_cases c1177 : z0.toInt = 0
      · have ec1177 : z0 = 0 := Int32.toInt_inj.mp c1177
        rw [ec1177]
        show GW κ 2 0 0 (wX q d I A) 25 [(0, .int 0), (1, .int z1)] [.int 0, .ref zt.1, .int z1]
        refine g_sL (v := .int 0) hk (vp_in_iff.mpr ⟨by decide, by decide⟩) rfl dX7_allows_25 ?_
        have b1178l := Int32.le_toInt z1
        have b1178h := Int32.toInt_lt z1
        refine g_icmp_lt (tgt := 42) (a := z1.toInt) (b := 0) hk dX7_allows_26 (by decide) rfl rfl (fun c1179 => ?_) (fun c1179 => ?_)
        · skip
          refine g_iconst (v := 0) hk dX7_allows_42 (by decide) ?_
          exact g_iret hk hR rfl (Or.inl ⟨rfl, rfl⟩) dX7_allows_43
        · skip
          refine g_iload_n hk dX7_allows_29 rfl ?_
          refine g_getsH hk (List.mem_cons_of_mem _ (List.mem_append_left _ (List.mem_of_getElem? (i := 1) rfl))) dX7_allows_30 ?_
          refine g_iload_n hk dX7_allows_33 rfl ?_
          refine g_sH (v := .int 15) hk (vp_in_iff.mpr ⟨by decide, by decide⟩) rfl dX7_allows_34 ?_
          refine g_icmp_gt (tgt := 42) (a := z1.toInt) (b := 15) hk dX7_allows_35 (by decide) rfl rfl (fun c1180 => ?_) (fun c1180 => ?_)
          · skip
            refine g_iconst (v := 0) hk dX7_allows_42 (by decide) ?_
            exact g_iret hk hR rfl (Or.inl ⟨rfl, rfl⟩) dX7_allows_43
          · skip
            refine g_iconst (v := 1) hk dX7_allows_38 (by decide) ?_
            refine g_goto (tgt := 43) hk dX7_allows_39 (by decide) ?_
            exact g_iret hk hR rfl (Or.inr (⟨c1175, c1176, (by omega), (by omega), (by omega), (by omega), rfl, rfl⟩)) dX7_allows_43
      by_cases c1181 : z0.toInt = 1
      · have ec1181 : z0 = 1 := Int32.toInt_inj.mp c1181
        rw [ec1181]
        show GW κ 2 0 0 (wX q d I A) 25 [(0, .int 1), (1, .int z1)] [.int 1, .ref zt.1, .int z1]
        refine g_sL (v := .int 0) hk (vp_in_iff.mpr ⟨by decide, by decide⟩) rfl dX7_allows_25 ?_
        have b1182l := Int32.le_toInt z1
        have b1182h := Int32.toInt_lt z1
        refine g_icmp_lt (tgt := 42) (a := z1.toInt) (b := 0) hk dX7_allows_26 (by decide) rfl rfl (fun c1183 => ?_) (fun c1183 => ?_)
        · skip
          refine g_iconst (v := 0) hk dX7_allows_42 (by decide) ?_
          exact g_iret hk hR rfl (Or.inl ⟨rfl, rfl⟩) dX7_allows_43
        · skip
          refine g_iload_n hk dX7_allows_29 rfl ?_
          refine g_getsH hk (List.mem_cons_of_mem _ (List.mem_append_left _ (List.mem_of_getElem? (i := 1) rfl))) dX7_allows_30 ?_
          refine g_iload_n hk dX7_allows_33 rfl ?_
          refine g_sH (v := .int 3) hk (vp_in_iff.mpr ⟨by decide, by decide⟩) rfl dX7_allows_34 ?_
          refine g_icmp_gt (tgt := 42) (a := z1.toInt) (b := 3) hk dX7_allows_35 (by decide) rfl rfl (fun c1184 => ?_) (fun c1184 => ?_)
          · skip
            refine g_iconst (v := 0) hk dX7_allows_42 (by decide) ?_
            exact g_iret hk hR rfl (Or.inl ⟨rfl, rfl⟩) dX7_allows_43
          · skip
            refine g_iconst (v := 1) hk dX7_allows_38 (by decide) ?_
            refine g_goto (tgt := 43) hk dX7_allows_39 (by decide) ?_
            exact g_iret hk hR rfl (Or.inr (⟨c1175, c1176, (by omega), (by omega), (by omega), (by omega), rfl, rfl⟩)) dX7_allows_43
      by_cases c1185 : z0.toInt = 2
      · have ec1185 : z0 = 2 := Int32.toInt_inj.mp c1185
        rw [ec1185]
        show GW κ 2 0 0 (wX q d I A) 25 [(0, .int 2), (1, .int z1)] [.int 2, .ref zt.1, .int z1]
        refine g_sL (v := .int 0) hk (vp_in_iff.mpr ⟨by decide, by decide⟩) rfl dX7_allows_25 ?_
        have b1186l := Int32.le_toInt z1
        have b1186h := Int32.toInt_lt z1
        refine g_icmp_lt (tgt := 42) (a := z1.toInt) (b := 0) hk dX7_allows_26 (by decide) rfl rfl (fun c1187 => ?_) (fun c1187 => ?_)
        · skip
          refine g_iconst (v := 0) hk dX7_allows_42 (by decide) ?_
          exact g_iret hk hR rfl (Or.inl ⟨rfl, rfl⟩) dX7_allows_43
        · skip
          refine g_iload_n hk dX7_allows_29 rfl ?_
          refine g_getsH hk (List.mem_cons_of_mem _ (List.mem_append_left _ (List.mem_of_getElem? (i := 1) rfl))) dX7_allows_30 ?_
          refine g_iload_n hk dX7_allows_33 rfl ?_
          refine g_sH (v := .int 1) hk (vp_in_iff.mpr ⟨by decide, by decide⟩) rfl dX7_allows_34 ?_
          refine g_icmp_gt (tgt := 42) (a := z1.toInt) (b := 1) hk dX7_allows_35 (by decide) rfl rfl (fun c1188 => ?_) (fun c1188 => ?_)
          · skip
            refine g_iconst (v := 0) hk dX7_allows_42 (by decide) ?_
            exact g_iret hk hR rfl (Or.inl ⟨rfl, rfl⟩) dX7_allows_43
          · skip
            refine g_iconst (v := 1) hk dX7_allows_38 (by decide) ?_
            refine g_goto (tgt := 43) hk dX7_allows_39 (by decide) ?_
            exact g_iret hk hR rfl (Or.inr (⟨c1175, c1176, (by omega), (by omega), (by omega), (by omega), rfl, rfl⟩)) dX7_allows_43
      by_cases c1189 : z0.toInt = 3
      · have ec1189 : z0 = 3 := Int32.toInt_inj.mp c1189
        rw [ec1189]
        show GW κ 2 0 0 (wX q d I A) 25 [(0, .int 3), (1, .int z1)] [.int 3, .ref zt.1, .int z1]
        refine g_sL (v := .int 1) hk (vp_in_iff.mpr ⟨by decide, by decide⟩) rfl dX7_allows_25 ?_
        have b1190l := Int32.le_toInt z1
        have b1190h := Int32.toInt_lt z1
        refine g_icmp_lt (tgt := 42) (a := z1.toInt) (b := 1) hk dX7_allows_26 (by decide) rfl rfl (fun c1191 => ?_) (fun c1191 => ?_)
        · skip
          refine g_iconst (v := 0) hk dX7_allows_42 (by decide) ?_
          exact g_iret hk hR rfl (Or.inl ⟨rfl, rfl⟩) dX7_allows_43
        · skip
          refine g_iload_n hk dX7_allows_29 rfl ?_
          refine g_getsH hk (List.mem_cons_of_mem _ (List.mem_append_left _ (List.mem_of_getElem? (i := 1) rfl))) dX7_allows_30 ?_
          refine g_iload_n hk dX7_allows_33 rfl ?_
          refine g_sH (v := .int 99) hk (vp_in_iff.mpr ⟨by decide, by decide⟩) rfl dX7_allows_34 ?_
          refine g_icmp_gt (tgt := 42) (a := z1.toInt) (b := 99) hk dX7_allows_35 (by decide) rfl rfl (fun c1192 => ?_) (fun c1192 => ?_)
          · skip
            refine g_iconst (v := 0) hk dX7_allows_42 (by decide) ?_
            exact g_iret hk hR rfl (Or.inl ⟨rfl, rfl⟩) dX7_allows_43
          · skip
            refine g_iconst (v := 1) hk dX7_allows_38 (by decide) ?_
            refine g_goto (tgt := 43) hk dX7_allows_39 (by decide) ?_
            exact g_iret hk hR rfl (Or.inr (⟨c1175, c1176, (by omega), (by omega), (by omega), (by omega), rfl, rfl⟩)) dX7_allows_43
      exfalso; omega
def wo_k161_X5_acceptNumber : List Cond := [Cond.fieldLink RX5 141 "WarpDesk$Reader" "tell" "I", Cond.fieldLink RX5 42 "WarpDesk$Reader" "tape" "LWarpDesk$Tape;", Cond.fieldLink RX5 190 "WarpDesk$Tape" "value" "I", Cond.methodLink RX5 193 yX7_allows, Cond.static yX7_allows, Cond.initialized RX7, Cond.methodLink RX5 181 yX5_mark, Cond.instanceMethod yX5_mark, Cond.selects RX5 yX5_mark yX5_mark, Cond.initialized RX5, Cond.fieldLink RX5 12 "WarpDesk$Reader" "draft" "LWarpDesk$Stand;", Cond.fieldLink RX5 137 "WarpDesk$Stand" "settings" "LWarpDesk$Settings;", Cond.methodLink RX5 144 yX7_put, Cond.instanceMethod yX7_put, Cond.selects RX7 yX7_put yX7_put, Cond.fieldLink RX5 75 "WarpDesk$Reader" "state" "I"]
def wz_k161_X5_acceptNumber : List Cond := .code yX5_acceptNumber cX5_acceptNumber 1 none :: (wo_k161_X5_acceptNumber ++ (wsX50 ++ (wsX80 ++ (wsX100 ++ (wz_k162_X7_allows ++ (wz_k157_X5_mark ++ (wz_k121_X7_put ++ ([] : List Cond))))))))
theorem zg_k161_X5_acceptNumber : ∀ w ∈ wz_k161_X5_acceptNumber, goodWord w = true := zg_cons rfl (zg_app (by decide +kernel) (zg_app zgU_wsX50 (zg_app zgU_wsX80 (zg_app zgU_wsX100 (zg_app zg_k162_X7_allows (zg_app zg_k157_X5_mark (zg_app zg_k121_X7_put zg_nil)))))))
theorem zi_k161_X5_acceptNumber : ∀ w ∈ wz_k161_X5_acceptNumber, w ∈ lw_tbl := zi_cons zw_721 (zi_app (zi_cons zw_238 (zi_cons zw_230 (zi_cons zw_143 (zi_cons zw_722 (zi_cons zw_723 (zi_cons zw_107 (zi_cons zw_709 (zi_cons zw_711 (zi_cons zw_18 (zi_cons zw_105 (zi_cons zw_231 (zi_cons zw_199 (zi_cons zw_729 (zi_cons zw_551 (zi_cons zw_552 (zi_cons zw_237 zi_nil)))))))))))))))) (zi_app inX5 (zi_app inX8 (zi_app inX10 (zi_app zi_k162_X7_allows (zi_app zi_k157_X5_mark (zi_app zi_k121_X7_put zi_nil)))))))
set_option maxHeartbeats 4000000 in
set_option maxRecDepth 100000 in
theorem k161_X5_acceptNumber (l : Launch) (D : va_G) (zt : Nat × Nat × Nat × (Nat → Nat) × (Nat → Nat)) (q : Nat → Nat) (d : Nat → ClassId) (I : Nat → Int32) (A : Nat → Nat → Int32) (hIv : IvX I A) : GM l D zt (tyX d) yX5_acceptNumber wz_k161_X5_acceptNumber ({ frames := 2, cells := 0, slots := 0, locals := 42 } : Room) [.ref (q 3)] (wX q d I A) (fun v _ w' => ∃ (I' : Nat → Int32) (A' : Nat → Nat → Int32), Md [6, 11, 12, 13] I I' ∧ Md [2] A A' ∧ IvX I' A' ∧ v = none ∧ w' = wX q d I' A') 0 0 := by
  refine GM.of (cc := cX5_acceptNumber) (maxL := 1) (ret := none) (own := RX5) (lv := [(0, .ref (q 3))]) (by decide) rfl rfl (Nat.le_of_ble_eq_true rfl) rfl (fun κ sz hk hR hN => ?_)
  have hin5 : ∀ w ∈ u_ws RX5 TX5 13, w ∈ wz_k161_X5_acceptNumber := fun w h => (List.mem_cons_of_mem _ (List.mem_append_right _ (List.mem_append_left _ h)))
  have hin8 : ∀ w ∈ u_ws RX8 TX8 4, w ∈ wz_k161_X5_acceptNumber := fun w h => (List.mem_cons_of_mem _ (List.mem_append_right _ (List.mem_append_right _ (List.mem_append_left _ h))))
  have hin10 : ∀ w ∈ u_ws RX10 TX10 7, w ∈ wz_k161_X5_acceptNumber := fun w h => (List.mem_cons_of_mem _ (List.mem_append_right _ (List.mem_append_right _ (List.mem_append_right _ (List.mem_append_left _ h)))))
  refine g_aload_n hk dX5_acceptNumber_0 rfl ?_
  refine gX_i7 (v := (I 7)) hk hin5 (List.mem_cons_of_mem _ (List.mem_append_left _ (List.mem_of_getElem? (i := 0) rfl))) dX5_acceptNumber_1 rfl ?_
  refine g_aload_n hk dX5_acceptNumber_4 rfl ?_
  refine gX_r3_0 hk hin5 (List.mem_cons_of_mem _ (List.mem_append_left _ (List.mem_of_getElem? (i := 1) rfl))) dX5_acceptNumber_5 ?_
  refine gX_i3 (v := (I 3)) hk hin10 (List.mem_cons_of_mem _ (List.mem_append_left _ (List.mem_of_getElem? (i := 2) rfl))) dX5_acceptNumber_8 rfl ?_
  refine g_callS (n := 2) hk (k162_X7_allows l D zt q d I A (I 7) (I 3) hIv) (SP.same _) (fun _ h => h) (gi_S (List.mem_cons_of_mem _ (List.mem_append_left _ (List.mem_of_getElem? (i := 3) rfl))) (List.mem_cons_of_mem _ (List.mem_append_left _ (List.mem_of_getElem? (i := 4) rfl))) (List.mem_cons_of_mem _ (List.mem_append_left _ (List.mem_of_getElem? (i := 5) rfl))) (gi_sub (fun w h => (List.mem_cons_of_mem _ (List.mem_append_right _ (List.mem_append_right _ (List.mem_append_right _ (List.mem_append_right _ (List.mem_append_left _ h))))))) zg_k162_X7_allows)) rfl rfl rfl (by decide +kernel) ⟨Nat.le_of_ble_eq_true rfl, Nat.le_of_ble_eq_true rfl⟩ rfl rfl (Nat.le_of_ble_eq_true rfl) ⟨Nat.le_of_ble_eq_true rfl, Nat.le_of_ble_eq_true rfl⟩ dX5_acceptNumber_11 (fun v ty' w' hp hk' => ?_)
  rcases hp with ⟨rfl, rfl⟩ | ⟨c1194, c1195, c1196, c1197, c1198, c1199, rfl, rfl⟩
  · skip
    show GW κ 1 0 0 (wX q d I A) 14 [(0, .ref (q 3))] [.int 0]
    refine g_if_ne (tgt := 22) (a := 0) hk dX5_acceptNumber_14 (by decide) rfl (fun z9 => absurd z9 (show ¬ ((0 : Int) ≠ (0 : Int)) from by decide)) (fun _ => ?_)
    refine g_aload_n hk dX5_acceptNumber_17 rfl ?_
    refine g_iconst (v := 5) hk dX5_acceptNumber_18 (by decide) ?_
    have k1201 : (5 : Int32).toInt = 5 := rfl
    refine g_callV (n := 1) hk (k157_X5_mark l D zt q d I A 5 hIv) (SP.same _) (fun _ h => h) (gi_V (List.mem_cons_of_mem _ (List.mem_append_left _ (List.mem_of_getElem? (i := 6) rfl))) (List.mem_cons_of_mem _ (List.mem_append_left _ (List.mem_of_getElem? (i := 7) rfl))) (List.mem_cons_of_mem _ (List.mem_append_left _ (List.mem_of_getElem? (i := 8) rfl))) (List.mem_cons_of_mem _ (List.mem_append_left _ (List.mem_of_getElem? (i := 9) rfl))) (gi_sub (fun w h => (List.mem_cons_of_mem _ (List.mem_append_right _ (List.mem_append_right _ (List.mem_append_right _ (List.mem_append_right _ (List.mem_append_right _ (List.mem_append_left _ h)))))))) zg_k157_X5_mark)) rfl rfl rfl (by decide +kernel) ⟨Nat.le_of_ble_eq_true rfl, Nat.le_of_ble_eq_true rfl⟩ 3 rfl rfl rfl rfl (Nat.le_of_ble_eq_true rfl) ⟨Nat.le_of_ble_eq_true rfl, Nat.le_of_ble_eq_true rfl⟩ dX5_acceptNumber_19 (fun v ty' w' hp hk' => ?_)
    obtain ⟨I1203, A1203, hI1203, hA1203, hV1203, rfl, rfl⟩ := hp
    show GW κ 1 0 0 (wX q d I1203 A1203) 22 [(0, .ref (q 3))] []
    refine g_aload_n hk dX5_acceptNumber_22 rfl ?_
    refine gX_r3_1 hk hin5 (List.mem_cons_of_mem _ (List.mem_append_left _ (List.mem_of_getElem? (i := 10) rfl))) dX5_acceptNumber_23 ?_
    refine gX_r4_2 hk hin8 (List.mem_cons_of_mem _ (List.mem_append_left _ (List.mem_of_getElem? (i := 11) rfl))) dX5_acceptNumber_26 ?_
    refine g_aload_n hk dX5_acceptNumber_29 rfl ?_
    refine gX_i7 (v := (I 7)) hk hin5 (List.mem_cons_of_mem _ (List.mem_append_left _ (List.mem_of_getElem? (i := 0) rfl))) dX5_acceptNumber_30 (hI1203 7 rfl) ?_
    refine g_aload_n hk dX5_acceptNumber_33 rfl ?_
    refine gX_r3_0 hk hin5 (List.mem_cons_of_mem _ (List.mem_append_left _ (List.mem_of_getElem? (i := 1) rfl))) dX5_acceptNumber_34 ?_
    refine gX_i3 (v := (I 3)) hk hin10 (List.mem_cons_of_mem _ (List.mem_append_left _ (List.mem_of_getElem? (i := 2) rfl))) dX5_acceptNumber_37 (hI1203 3 rfl) ?_
    refine g_callV (n := 2) hk (k121_X7_put l D zt q d I1203 A1203 (I 7) (I 3) hV1203) (SP.same _) (fun _ h => h) (gi_V (List.mem_cons_of_mem _ (List.mem_append_left _ (List.mem_of_getElem? (i := 12) rfl))) (List.mem_cons_of_mem _ (List.mem_append_left _ (List.mem_of_getElem? (i := 13) rfl))) (List.mem_cons_of_mem _ (List.mem_append_left _ (List.mem_of_getElem? (i := 14) rfl))) (List.mem_cons_of_mem _ (List.mem_append_left _ (List.mem_of_getElem? (i := 5) rfl))) (gi_sub (fun w h => (List.mem_cons_of_mem _ (List.mem_append_right _ (List.mem_append_right _ (List.mem_append_right _ (List.mem_append_right _ (List.mem_append_right _ (List.mem_append_right _ (List.mem_append_left _ h))))))))) zg_k121_X7_put)) rfl rfl rfl (by decide +kernel) ⟨Nat.le_of_ble_eq_true rfl, Nat.le_of_ble_eq_true rfl⟩ 6 rfl rfl rfl rfl (Nat.le_of_ble_eq_true rfl) ⟨Nat.le_of_ble_eq_true rfl, Nat.le_of_ble_eq_true rfl⟩ dX5_acceptNumber_40 (fun v ty' w' hp hk' => ?_)
    obtain ⟨I1205, A1205, hI1205, hA1205, hV1205, rfl, rfl⟩ := hp
    show GW κ 1 0 0 (wX q d I1205 A1205) 43 [(0, .ref (q 3))] []
    refine g_aload_n hk dX5_acceptNumber_43 rfl ?_
    refine g_bipush (v := 6) hk dX5_acceptNumber_44 (by decide) ?_
    refine pX_i6 hk hin5 (List.mem_cons_of_mem _ (List.mem_append_left _ (List.mem_of_getElem? (i := 15) rfl))) dX5_acceptNumber_46 ?_
    exact g_vret hk hR ⟨(upd I1205 6 6), A1205, (show Md [6, 11, 12, 13] I (upd I1205 6 6) from (Md.up (Md.tr (Md.tr Md.rf hI1203 rfl) hI1205 rfl) rfl)), (show Md [2] A A1205 from (Md.tr (Md.tr Md.rf hA1203 rfl) hA1205 rfl)), ⟨(IvX_f0 (I := I1205) (A := A1205) hV1205), (IvX_f18 (I := I1205) (A := A1205) hV1205), (IvX_f30 (I := I1205) (A := A1205) hV1205), (IvX_f31 (I := I1205) (A := A1205) hV1205), (IvX_a4 (I := I1205) (A := A1205) hV1205), (IvX_a9 (I := I1205) (A := A1205) hV1205), trivial⟩, rfl, rfl⟩ dX5_acceptNumber_49
  · skip
    show GW κ 1 0 0 (wX q d I A) 14 [(0, .ref (q 3))] [.int 1]
    refine g_if_ne (tgt := 22) (a := 1) hk dX5_acceptNumber_14 (by decide) rfl (fun _ => ?_) (fun z9 => absurd (show (1 : Int) ≠ (0 : Int) from by decide) z9)
    refine g_aload_n hk dX5_acceptNumber_22 rfl ?_
    refine gX_r3_1 hk hin5 (List.mem_cons_of_mem _ (List.mem_append_left _ (List.mem_of_getElem? (i := 10) rfl))) dX5_acceptNumber_23 ?_
    refine gX_r4_2 hk hin8 (List.mem_cons_of_mem _ (List.mem_append_left _ (List.mem_of_getElem? (i := 11) rfl))) dX5_acceptNumber_26 ?_
    refine g_aload_n hk dX5_acceptNumber_29 rfl ?_
    refine gX_i7 (v := (I 7)) hk hin5 (List.mem_cons_of_mem _ (List.mem_append_left _ (List.mem_of_getElem? (i := 0) rfl))) dX5_acceptNumber_30 rfl ?_
    refine g_aload_n hk dX5_acceptNumber_33 rfl ?_
    refine gX_r3_0 hk hin5 (List.mem_cons_of_mem _ (List.mem_append_left _ (List.mem_of_getElem? (i := 1) rfl))) dX5_acceptNumber_34 ?_
    refine gX_i3 (v := (I 3)) hk hin10 (List.mem_cons_of_mem _ (List.mem_append_left _ (List.mem_of_getElem? (i := 2) rfl))) dX5_acceptNumber_37 rfl ?_
    refine g_callV (n := 2) hk (k121_X7_put l D zt q d I A (I 7) (I 3) hIv) (SP.same _) (fun _ h => h) (gi_V (List.mem_cons_of_mem _ (List.mem_append_left _ (List.mem_of_getElem? (i := 12) rfl))) (List.mem_cons_of_mem _ (List.mem_append_left _ (List.mem_of_getElem? (i := 13) rfl))) (List.mem_cons_of_mem _ (List.mem_append_left _ (List.mem_of_getElem? (i := 14) rfl))) (List.mem_cons_of_mem _ (List.mem_append_left _ (List.mem_of_getElem? (i := 5) rfl))) (gi_sub (fun w h => (List.mem_cons_of_mem _ (List.mem_append_right _ (List.mem_append_right _ (List.mem_append_right _ (List.mem_append_right _ (List.mem_append_right _ (List.mem_append_right _ (List.mem_append_left _ h))))))))) zg_k121_X7_put)) rfl rfl rfl (by decide +kernel) ⟨Nat.le_of_ble_eq_true rfl, Nat.le_of_ble_eq_true rfl⟩ 6 rfl rfl rfl rfl (Nat.le_of_ble_eq_true rfl) ⟨Nat.le_of_ble_eq_true rfl, Nat.le_of_ble_eq_true rfl⟩ dX5_acceptNumber_40 (fun v ty' w' hp hk' => ?_)
    obtain ⟨I1207, A1207, hI1207, hA1207, hV1207, rfl, rfl⟩ := hp
    show GW κ 1 0 0 (wX q d I1207 A1207) 43 [(0, .ref (q 3))] []
    refine g_aload_n hk dX5_acceptNumber_43 rfl ?_
    refine g_bipush (v := 6) hk dX5_acceptNumber_44 (by decide) ?_
    refine pX_i6 hk hin5 (List.mem_cons_of_mem _ (List.mem_append_left _ (List.mem_of_getElem? (i := 15) rfl))) dX5_acceptNumber_46 ?_
    exact g_vret hk hR ⟨(upd I1207 6 6), A1207, (show Md [6, 11, 12, 13] I (upd I1207 6 6) from (Md.up (Md.tr Md.rf hI1207 rfl) rfl)), (show Md [2] A A1207 from (Md.tr Md.rf hA1207 rfl)), ⟨(IvX_f0 (I := I1207) (A := A1207) hV1207), (IvX_f18 (I := I1207) (A := A1207) hV1207), (IvX_f30 (I := I1207) (A := A1207) hV1207), (IvX_f31 (I := I1207) (A := A1207) hV1207), (IvX_a4 (I := I1207) (A := A1207) hV1207), (IvX_a9 (I := I1207) (A := A1207) hV1207), trivial⟩, rfl, rfl⟩ dX5_acceptNumber_49
def wo_k150_X5_accept : List Cond := [Cond.fieldLink RX5 75 "WarpDesk$Reader" "state" "I", Cond.methodLink RX5 128 yX5_beginTell, Cond.instanceMethod yX5_beginTell, Cond.selects RX5 yX5_beginTell yX5_beginTell, Cond.initialized RX5, Cond.methodLink RX5 150 yX5_acceptInRow, Cond.instanceMethod yX5_acceptInRow, Cond.selects RX5 yX5_acceptInRow yX5_acceptInRow, Cond.methodLink RX5 131 yX5_acceptName, Cond.instanceMethod yX5_acceptName, Cond.selects RX5 yX5_acceptName yX5_acceptName, Cond.methodLink RX5 134 yX5_acceptNumber, Cond.instanceMethod yX5_acceptNumber, Cond.selects RX5 yX5_acceptNumber yX5_acceptNumber, Cond.fieldLink RX5 12 "WarpDesk$Reader" "draft" "LWarpDesk$Stand;", Cond.fieldLink RX5 137 "WarpDesk$Stand" "settings" "LWarpDesk$Settings;", Cond.fieldLink RX5 141 "WarpDesk$Reader" "tell" "I", Cond.methodLink RX5 115 yX5_choiceAtHand, Cond.instanceMethod yX5_choiceAtHand, Cond.selects RX5 yX5_choiceAtHand yX5_choiceAtHand, Cond.methodLink RX5 144 yX7_put, Cond.instanceMethod yX7_put, Cond.selects RX7 yX7_put yX7_put, Cond.initialized RX7]
def wz_k150_X5_accept : List Cond := .code yX5_accept cX5_accept 1 none :: (wo_k150_X5_accept ++ (wsX50 ++ (wsX80 ++ (wz_k151_X5_beginTell ++ (wz_k152_X5_acceptInRow ++ (wz_k158_X5_acceptName ++ (wz_k161_X5_acceptNumber ++ (wz_k148_X5_choiceAtHand ++ (wz_k121_X7_put ++ ([] : List Cond))))))))))
theorem zg_k150_X5_accept : ∀ w ∈ wz_k150_X5_accept, goodWord w = true := zg_cons rfl (zg_app (by decide +kernel) (zg_app zgU_wsX50 (zg_app zgU_wsX80 (zg_app zg_k151_X5_beginTell (zg_app zg_k152_X5_acceptInRow (zg_app zg_k158_X5_acceptName (zg_app zg_k161_X5_acceptNumber (zg_app zg_k148_X5_choiceAtHand (zg_app zg_k121_X7_put zg_nil)))))))))
theorem zi_k150_X5_accept : ∀ w ∈ wz_k150_X5_accept, w ∈ lw_tbl := zi_cons zw_696 (zi_app (zi_cons zw_237 (zi_cons zw_697 (zi_cons zw_699 (zi_cons zw_16 (zi_cons zw_105 (zi_cons zw_730 (zi_cons zw_732 (zi_cons zw_20 (zi_cons zw_701 (zi_cons zw_703 (zi_cons zw_17 (zi_cons zw_718 (zi_cons zw_720 (zi_cons zw_19 (zi_cons zw_231 (zi_cons zw_199 (zi_cons zw_238 (zi_cons zw_677 (zi_cons zw_679 (zi_cons zw_11 (zi_cons zw_729 (zi_cons zw_551 (zi_cons zw_552 (zi_cons zw_107 zi_nil)))))))))))))))))))))))) (zi_app inX5 (zi_app inX8 (zi_app zi_k151_X5_beginTell (zi_app zi_k152_X5_acceptInRow (zi_app zi_k158_X5_acceptName (zi_app zi_k161_X5_acceptNumber (zi_app zi_k148_X5_choiceAtHand (zi_app zi_k121_X7_put zi_nil)))))))))
set_option maxHeartbeats 4000000 in
set_option maxRecDepth 100000 in
theorem k150_X5_accept (l : Launch) (D : va_G) (zt : Nat × Nat × Nat × (Nat → Nat) × (Nat → Nat)) (q : Nat → Nat) (d : Nat → ClassId) (I : Nat → Int32) (A : Nat → Nat → Int32) (hIv : IvX I A) : GM l D zt (tyX d) yX5_accept wz_k150_X5_accept ({ frames := 7, cells := 0, slots := 0, locals := 147 } : Room) [.ref (q 3)] (wX q d I A) (fun v _ w' => ∃ (I' : Nat → Int32) (A' : Nat → Nat → Int32), Md [6, 7, 8, 9, 11, 12, 13, 14, 16] I I' ∧ Md [1, 2, 3, 4, 5, 6] A A' ∧ IvX I' A' ∧ v = none ∧ w' = wX q d I' A') 0 0 := by
  refine GM.of (cc := cX5_accept) (maxL := 1) (ret := none) (own := RX5) (lv := [(0, .ref (q 3))]) (by decide) rfl rfl (Nat.le_of_ble_eq_true rfl) rfl (fun κ sz hk hR hN => ?_)
  have hin5 : ∀ w ∈ u_ws RX5 TX5 13, w ∈ wz_k150_X5_accept := fun w h => (List.mem_cons_of_mem _ (List.mem_append_right _ (List.mem_append_left _ h)))
  have hin8 : ∀ w ∈ u_ws RX8 TX8 4, w ∈ wz_k150_X5_accept := fun w h => (List.mem_cons_of_mem _ (List.mem_append_right _ (List.mem_append_right _ (List.mem_append_left _ h))))
  refine g_aload_n hk dX5_accept_0 rfl ?_
  refine gX_i6 (v := (I 6)) hk hin5 (List.mem_cons_of_mem _ (List.mem_append_left _ (List.mem_of_getElem? (i := 0) rfl))) dX5_accept_1 rfl ?_
  by_cases c923 : (I 6).toInt = 0
  · refine g_tabIn (tgt := 48) (a := 0) hk dX5_accept_4 c923 (by decide) (by decide) rfl (by decide) ?_
    refine g_aload_n hk dX5_accept_48 rfl ?_
    refine g_callV (n := 0) hk (k151_X5_beginTell l D zt q d I A  hIv) (SP.same _) (fun _ h => h) (gi_V (List.mem_cons_of_mem _ (List.mem_append_left _ (List.mem_of_getElem? (i := 1) rfl))) (List.mem_cons_of_mem _ (List.mem_append_left _ (List.mem_of_getElem? (i := 2) rfl))) (List.mem_cons_of_mem _ (List.mem_append_left _ (List.mem_of_getElem? (i := 3) rfl))) (List.mem_cons_of_mem _ (List.mem_append_left _ (List.mem_of_getElem? (i := 4) rfl))) (gi_sub (fun w h => (List.mem_cons_of_mem _ (List.mem_append_right _ (List.mem_append_right _ (List.mem_append_right _ (List.mem_append_left _ h)))))) zg_k151_X5_beginTell)) rfl rfl rfl (by decide +kernel) ⟨Nat.le_of_ble_eq_true rfl, Nat.le_of_ble_eq_true rfl⟩ 3 rfl rfl rfl rfl (Nat.le_of_ble_eq_true rfl) ⟨Nat.le_of_ble_eq_true rfl, Nat.le_of_ble_eq_true rfl⟩ dX5_accept_49 (fun v ty' w' hp hk' => ?_)
    obtain ⟨I934, A934, hI934, hA934, hV934, rfl, rfl⟩ := hp
    show GW κ 1 0 0 (wX q d I934 A934) 52 [(0, .ref (q 3))] []
    refine g_goto (tgt := 108) hk dX5_accept_52 (by decide) ?_
    exact g_vret hk hR ⟨I934, A934, (show Md [6, 7, 8, 9, 11, 12, 13, 14, 16] I I934 from (Md.tr Md.rf hI934 rfl)), (show Md [1, 2, 3, 4, 5, 6] A A934 from (Md.tr Md.rf hA934 rfl)), hV934, rfl, rfl⟩ dX5_accept_108
  by_cases c935 : (I 6).toInt = 1
  · refine g_tabIn (tgt := 104) (a := 1) hk dX5_accept_4 c935 (by decide) (by decide) rfl (by decide) ?_
    refine g_aload_n hk dX5_accept_104 rfl ?_
    refine g_callV (n := 0) hk (k152_X5_acceptInRow l D zt q d I A  hIv) (SP.same _) (fun _ h => h) (gi_V (List.mem_cons_of_mem _ (List.mem_append_left _ (List.mem_of_getElem? (i := 5) rfl))) (List.mem_cons_of_mem _ (List.mem_append_left _ (List.mem_of_getElem? (i := 6) rfl))) (List.mem_cons_of_mem _ (List.mem_append_left _ (List.mem_of_getElem? (i := 7) rfl))) (List.mem_cons_of_mem _ (List.mem_append_left _ (List.mem_of_getElem? (i := 4) rfl))) (gi_sub (fun w h => (List.mem_cons_of_mem _ (List.mem_append_right _ (List.mem_append_right _ (List.mem_append_right _ (List.mem_append_right _ (List.mem_append_left _ h))))))) zg_k152_X5_acceptInRow)) rfl rfl rfl (by decide +kernel) ⟨Nat.le_of_ble_eq_true rfl, Nat.le_of_ble_eq_true rfl⟩ 3 rfl rfl rfl rfl (Nat.le_of_ble_eq_true rfl) ⟨Nat.le_of_ble_eq_true rfl, Nat.le_of_ble_eq_true rfl⟩ dX5_accept_105 (fun v ty' w' hp hk' => ?_)
    obtain ⟨I1007, A1007, hI1007, hA1007, hV1007, rfl, rfl⟩ := hp
    show GW κ 1 0 0 (wX q d I1007 A1007) 108 [(0, .ref (q 3))] []
    exact g_vret hk hR ⟨I1007, A1007, (show Md [6, 7, 8, 9, 11, 12, 13, 14, 16] I I1007 from (Md.tr Md.rf hI1007 rfl)), (show Md [1, 2, 3, 4, 5, 6] A A1007 from (Md.tr Md.rf hA1007 rfl)), hV1007, rfl, rfl⟩ dX5_accept_108
  by_cases c1008 : (I 6).toInt = 2
  · refine g_tabIn (tgt := 55) (a := 2) hk dX5_accept_4 c1008 (by decide) (by decide) rfl (by decide) ?_
    refine g_aload_n hk dX5_accept_55 rfl ?_
    refine g_callV (n := 0) hk (k158_X5_acceptName l D zt q d I A  hIv) (SP.same _) (fun _ h => h) (gi_V (List.mem_cons_of_mem _ (List.mem_append_left _ (List.mem_of_getElem? (i := 8) rfl))) (List.mem_cons_of_mem _ (List.mem_append_left _ (List.mem_of_getElem? (i := 9) rfl))) (List.mem_cons_of_mem _ (List.mem_append_left _ (List.mem_of_getElem? (i := 10) rfl))) (List.mem_cons_of_mem _ (List.mem_append_left _ (List.mem_of_getElem? (i := 4) rfl))) (gi_sub (fun w h => (List.mem_cons_of_mem _ (List.mem_append_right _ (List.mem_append_right _ (List.mem_append_right _ (List.mem_append_right _ (List.mem_append_right _ (List.mem_append_left _ h)))))))) zg_k158_X5_acceptName)) rfl rfl rfl (by decide +kernel) ⟨Nat.le_of_ble_eq_true rfl, Nat.le_of_ble_eq_true rfl⟩ 3 rfl rfl rfl rfl (Nat.le_of_ble_eq_true rfl) ⟨Nat.le_of_ble_eq_true rfl, Nat.le_of_ble_eq_true rfl⟩ dX5_accept_56 (fun v ty' w' hp hk' => ?_)
    obtain ⟨I1169, A1169, hI1169, hA1169, hV1169, rfl, rfl⟩ := hp
    show GW κ 1 0 0 (wX q d I1169 A1169) 59 [(0, .ref (q 3))] []
    refine g_goto (tgt := 108) hk dX5_accept_59 (by decide) ?_
    exact g_vret hk hR ⟨I1169, A1169, (show Md [6, 7, 8, 9, 11, 12, 13, 14, 16] I I1169 from (Md.tr Md.rf hI1169 rfl)), (show Md [1, 2, 3, 4, 5, 6] A A1169 from (Md.tr Md.rf hA1169 rfl)), hV1169, rfl, rfl⟩ dX5_accept_108
  by_cases c1170 : (I 6).toInt = 3
  · refine g_tabIn (tgt := 104) (a := 3) hk dX5_accept_4 c1170 (by decide) (by decide) rfl (by decide) ?_
    refine g_aload_n hk dX5_accept_104 rfl ?_
    refine g_callV (n := 0) hk (k152_X5_acceptInRow l D zt q d I A  hIv) (SP.same _) (fun _ h => h) (gi_V (List.mem_cons_of_mem _ (List.mem_append_left _ (List.mem_of_getElem? (i := 5) rfl))) (List.mem_cons_of_mem _ (List.mem_append_left _ (List.mem_of_getElem? (i := 6) rfl))) (List.mem_cons_of_mem _ (List.mem_append_left _ (List.mem_of_getElem? (i := 7) rfl))) (List.mem_cons_of_mem _ (List.mem_append_left _ (List.mem_of_getElem? (i := 4) rfl))) (gi_sub (fun w h => (List.mem_cons_of_mem _ (List.mem_append_right _ (List.mem_append_right _ (List.mem_append_right _ (List.mem_append_right _ (List.mem_append_left _ h))))))) zg_k152_X5_acceptInRow)) rfl rfl rfl (by decide +kernel) ⟨Nat.le_of_ble_eq_true rfl, Nat.le_of_ble_eq_true rfl⟩ 3 rfl rfl rfl rfl (Nat.le_of_ble_eq_true rfl) ⟨Nat.le_of_ble_eq_true rfl, Nat.le_of_ble_eq_true rfl⟩ dX5_accept_105 (fun v ty' w' hp hk' => ?_)
    obtain ⟨I1172, A1172, hI1172, hA1172, hV1172, rfl, rfl⟩ := hp
    show GW κ 1 0 0 (wX q d I1172 A1172) 108 [(0, .ref (q 3))] []
    exact g_vret hk hR ⟨I1172, A1172, (show Md [6, 7, 8, 9, 11, 12, 13, 14, 16] I I1172 from (Md.tr Md.rf hI1172 rfl)), (show Md [1, 2, 3, 4, 5, 6] A A1172 from (Md.tr Md.rf hA1172 rfl)), hV1172, rfl, rfl⟩ dX5_accept_108
  by_cases c1173 : (I 6).toInt = 4
  · refine g_tabIn (tgt := 62) (a := 4) hk dX5_accept_4 c1173 (by decide) (by decide) rfl (by decide) ?_
    refine g_aload_n hk dX5_accept_62 rfl ?_
    refine g_callV (n := 0) hk (k161_X5_acceptNumber l D zt q d I A  hIv) (SP.same _) (fun _ h => h) (gi_V (List.mem_cons_of_mem _ (List.mem_append_left _ (List.mem_of_getElem? (i := 11) rfl))) (List.mem_cons_of_mem _ (List.mem_append_left _ (List.mem_of_getElem? (i := 12) rfl))) (List.mem_cons_of_mem _ (List.mem_append_left _ (List.mem_of_getElem? (i := 13) rfl))) (List.mem_cons_of_mem _ (List.mem_append_left _ (List.mem_of_getElem? (i := 4) rfl))) (gi_sub (fun w h => (List.mem_cons_of_mem _ (List.mem_append_right _ (List.mem_append_right _ (List.mem_append_right _ (List.mem_append_right _ (List.mem_append_right _ (List.mem_append_right _ (List.mem_append_left _ h))))))))) zg_k161_X5_acceptNumber)) rfl rfl rfl (by decide +kernel) ⟨Nat.le_of_ble_eq_true rfl, Nat.le_of_ble_eq_true rfl⟩ 3 rfl rfl rfl rfl (Nat.le_of_ble_eq_true rfl) ⟨Nat.le_of_ble_eq_true rfl, Nat.le_of_ble_eq_true rfl⟩ dX5_accept_63 (fun v ty' w' hp hk' => ?_)
    obtain ⟨I1209, A1209, hI1209, hA1209, hV1209, rfl, rfl⟩ := hp
    show GW κ 1 0 0 (wX q d I1209 A1209) 66 [(0, .ref (q 3))] []
    refine g_goto (tgt := 108) hk dX5_accept_66 (by decide) ?_
    exact g_vret hk hR ⟨I1209, A1209, (show Md [6, 7, 8, 9, 11, 12, 13, 14, 16] I I1209 from (Md.tr Md.rf hI1209 rfl)), (show Md [1, 2, 3, 4, 5, 6] A A1209 from (Md.tr Md.rf hA1209 rfl)), hV1209, rfl, rfl⟩ dX5_accept_108
  by_cases c1210 : (I 6).toInt = 5
  · refine g_tabIn (tgt := 69) (a := 5) hk dX5_accept_4 c1210 (by decide) (by decide) rfl (by decide) ?_
    refine g_aload_n hk dX5_accept_69 rfl ?_
    refine gX_r3_1 hk hin5 (List.mem_cons_of_mem _ (List.mem_append_left _ (List.mem_of_getElem? (i := 14) rfl))) dX5_accept_70 ?_
    refine gX_r4_2 hk hin8 (List.mem_cons_of_mem _ (List.mem_append_left _ (List.mem_of_getElem? (i := 15) rfl))) dX5_accept_73 ?_
    refine g_aload_n hk dX5_accept_76 rfl ?_
    refine gX_i7 (v := (I 7)) hk hin5 (List.mem_cons_of_mem _ (List.mem_append_left _ (List.mem_of_getElem? (i := 16) rfl))) dX5_accept_77 rfl ?_
    refine g_aload_n hk dX5_accept_80 rfl ?_
    refine g_callV (n := 0) hk (k148_X5_choiceAtHand l D zt q d I A  hIv) (SP.same _) (fun _ h => h) (gi_V (List.mem_cons_of_mem _ (List.mem_append_left _ (List.mem_of_getElem? (i := 17) rfl))) (List.mem_cons_of_mem _ (List.mem_append_left _ (List.mem_of_getElem? (i := 18) rfl))) (List.mem_cons_of_mem _ (List.mem_append_left _ (List.mem_of_getElem? (i := 19) rfl))) (List.mem_cons_of_mem _ (List.mem_append_left _ (List.mem_of_getElem? (i := 4) rfl))) (gi_sub (fun w h => (List.mem_cons_of_mem _ (List.mem_append_right _ (List.mem_append_right _ (List.mem_append_right _ (List.mem_append_right _ (List.mem_append_right _ (List.mem_append_right _ (List.mem_append_right _ (List.mem_append_left _ h)))))))))) zg_k148_X5_choiceAtHand)) rfl rfl rfl (by decide +kernel) ⟨Nat.le_of_ble_eq_true rfl, Nat.le_of_ble_eq_true rfl⟩ 3 rfl rfl rfl rfl (Nat.le_of_ble_eq_true rfl) ⟨Nat.le_of_ble_eq_true rfl, Nat.le_of_ble_eq_true rfl⟩ dX5_accept_81 (fun v ty' w' hp hk' => ?_)
    obtain ⟨y1211, c1212, c1213, rfl, rfl⟩ := hp
    show GW κ 1 0 0 (wX q d I A) 84 [(0, .ref (q 3))] [.int y1211, .int (I 7), .ref (q 6)]
    refine g_callV (n := 2) hk (k121_X7_put l D zt q d I A (I 7) y1211 hIv) (SP.same _) (fun _ h => h) (gi_V (List.mem_cons_of_mem _ (List.mem_append_left _ (List.mem_of_getElem? (i := 20) rfl))) (List.mem_cons_of_mem _ (List.mem_append_left _ (List.mem_of_getElem? (i := 21) rfl))) (List.mem_cons_of_mem _ (List.mem_append_left _ (List.mem_of_getElem? (i := 22) rfl))) (List.mem_cons_of_mem _ (List.mem_append_left _ (List.mem_of_getElem? (i := 23) rfl))) (gi_sub (fun w h => (List.mem_cons_of_mem _ (List.mem_append_right _ (List.mem_append_right _ (List.mem_append_right _ (List.mem_append_right _ (List.mem_append_right _ (List.mem_append_right _ (List.mem_append_right _ (List.mem_append_right _ (List.mem_append_left _ h))))))))))) zg_k121_X7_put)) rfl rfl rfl (by decide +kernel) ⟨Nat.le_of_ble_eq_true rfl, Nat.le_of_ble_eq_true rfl⟩ 6 rfl rfl rfl rfl (Nat.le_of_ble_eq_true rfl) ⟨Nat.le_of_ble_eq_true rfl, Nat.le_of_ble_eq_true rfl⟩ dX5_accept_84 (fun v ty' w' hp hk' => ?_)
    obtain ⟨I1215, A1215, hI1215, hA1215, hV1215, rfl, rfl⟩ := hp
    show GW κ 1 0 0 (wX q d I1215 A1215) 87 [(0, .ref (q 3))] []
    refine g_aload_n hk dX5_accept_87 rfl ?_
    refine g_bipush (v := 6) hk dX5_accept_88 (by decide) ?_
    refine pX_i6 hk hin5 (List.mem_cons_of_mem _ (List.mem_append_left _ (List.mem_of_getElem? (i := 0) rfl))) dX5_accept_90 ?_
    refine g_goto (tgt := 108) hk dX5_accept_93 (by decide) ?_
    exact g_vret hk hR ⟨(upd I1215 6 6), A1215, (show Md [6, 7, 8, 9, 11, 12, 13, 14, 16] I (upd I1215 6 6) from (Md.up (Md.tr Md.rf hI1215 rfl) rfl)), (show Md [1, 2, 3, 4, 5, 6] A A1215 from (Md.tr Md.rf hA1215 rfl)), ⟨(IvX_f0 (I := I1215) (A := A1215) hV1215), (IvX_f18 (I := I1215) (A := A1215) hV1215), (IvX_f30 (I := I1215) (A := A1215) hV1215), (IvX_f31 (I := I1215) (A := A1215) hV1215), (IvX_a4 (I := I1215) (A := A1215) hV1215), (IvX_a9 (I := I1215) (A := A1215) hV1215), trivial⟩, rfl, rfl⟩ dX5_accept_108
  by_cases c1216 : (I 6).toInt = 6
  · refine g_tabIn (tgt := 96) (a := 6) hk dX5_accept_4 c1216 (by decide) (by decide) rfl (by decide) ?_
    refine g_aload_n hk dX5_accept_96 rfl ?_
    refine g_iconst (v := 0) hk dX5_accept_97 (by decide) ?_
    refine pX_i6 hk hin5 (List.mem_cons_of_mem _ (List.mem_append_left _ (List.mem_of_getElem? (i := 0) rfl))) dX5_accept_98 ?_
    refine g_goto (tgt := 108) hk dX5_accept_101 (by decide) ?_
    exact g_vret hk hR ⟨(upd I 6 0), A, (show Md [6, 7, 8, 9, 11, 12, 13, 14, 16] I (upd I 6 0) from (Md.up Md.rf rfl)), (show Md [1, 2, 3, 4, 5, 6] A A from Md.rf), ⟨(IvX_f0 (I := I) (A := A) hIv), (IvX_f18 (I := I) (A := A) hIv), (IvX_f30 (I := I) (A := A) hIv), (IvX_f31 (I := I) (A := A) hIv), (IvX_a4 (I := I) (A := A) hIv), (IvX_a9 (I := I) (A := A) hIv), trivial⟩, rfl, rfl⟩ dX5_accept_108
  refine g_tabOut (tgt := 104) (a := (I 6).toInt) hk dX5_accept_4 rfl (by omega) (by decide) ?_
  refine g_aload_n hk dX5_accept_104 rfl ?_
  refine g_callV (n := 0) hk (k152_X5_acceptInRow l D zt q d I A  hIv) (SP.same _) (fun _ h => h) (gi_V (List.mem_cons_of_mem _ (List.mem_append_left _ (List.mem_of_getElem? (i := 5) rfl))) (List.mem_cons_of_mem _ (List.mem_append_left _ (List.mem_of_getElem? (i := 6) rfl))) (List.mem_cons_of_mem _ (List.mem_append_left _ (List.mem_of_getElem? (i := 7) rfl))) (List.mem_cons_of_mem _ (List.mem_append_left _ (List.mem_of_getElem? (i := 4) rfl))) (gi_sub (fun w h => (List.mem_cons_of_mem _ (List.mem_append_right _ (List.mem_append_right _ (List.mem_append_right _ (List.mem_append_right _ (List.mem_append_left _ h))))))) zg_k152_X5_acceptInRow)) rfl rfl rfl (by decide +kernel) ⟨Nat.le_of_ble_eq_true rfl, Nat.le_of_ble_eq_true rfl⟩ 3 rfl rfl rfl rfl (Nat.le_of_ble_eq_true rfl) ⟨Nat.le_of_ble_eq_true rfl, Nat.le_of_ble_eq_true rfl⟩ dX5_accept_105 (fun v ty' w' hp hk' => ?_)
  obtain ⟨I1218, A1218, hI1218, hA1218, hV1218, rfl, rfl⟩ := hp
  show GW κ 1 0 0 (wX q d I1218 A1218) 108 [(0, .ref (q 3))] []
  exact g_vret hk hR ⟨I1218, A1218, (show Md [6, 7, 8, 9, 11, 12, 13, 14, 16] I I1218 from (Md.tr Md.rf hI1218 rfl)), (show Md [1, 2, 3, 4, 5, 6] A A1218 from (Md.tr Md.rf hA1218 rfl)), hV1218, rfl, rfl⟩ dX5_accept_108
def wo_k117_X5_readText : List Cond := [Cond.methodLink RX5 46 yX5_begin, Cond.instanceMethod yX5_begin, Cond.selects RX5 yX5_begin yX5_begin, Cond.initialized RX5, Cond.fieldLink RX5 49 "WarpDesk$Reader" "isStopped" "Z", Cond.fieldLink RX5 78 "WarpDesk$Reader" "fault" "I", Cond.fieldLink RX5 75 "WarpDesk$Reader" "state" "I", Cond.methodLink RX5 62 yX5_stop, Cond.instanceMethod yX5_stop, Cond.selects RX5 yX5_stop yX5_stop, Cond.fieldLink RX5 42 "WarpDesk$Reader" "tape" "LWarpDesk$Tape;", Cond.fieldLink RX5 53 "WarpDesk$Tape" "kind" "I", Cond.methodLink RX5 58 yX5_mayStand, Cond.instanceMethod yX5_mayStand, Cond.selects RX5 yX5_mayStand yX5_mayStand, Cond.methodLink RX5 66 yX5_hasRoom, Cond.instanceMethod yX5_hasRoom, Cond.selects RX5 yX5_hasRoom yX5_hasRoom, Cond.methodLink RX5 69 yX5_accept, Cond.instanceMethod yX5_accept, Cond.selects RX5 yX5_accept yX5_accept, Cond.methodLink RX5 72 yX10_toNextToken, Cond.instanceMethod yX10_toNextToken, Cond.selects RX10 yX10_toNextToken yX10_toNextToken, Cond.initialized RX10]
def wz_k117_X5_readText : List Cond := .code yX5_readText cX5_readText 2 (some .int) :: (wo_k117_X5_readText ++ (wsX50 ++ (wsX100 ++ (wz_k118_X5_begin ++ (wz_k130_X5_stop ++ (wz_k132_X5_mayStand ++ (wz_k149_X5_hasRoom ++ (wz_k150_X5_accept ++ (wz_k123_X10_toNextToken ++ ([] : List Cond))))))))))
theorem zg_k117_X5_readText : ∀ w ∈ wz_k117_X5_readText, goodWord w = true := zg_cons rfl (zg_app (by decide +kernel) (zg_app zgU_wsX50 (zg_app zgU_wsX100 (zg_app zg_k118_X5_begin (zg_app zg_k130_X5_stop (zg_app zg_k132_X5_mayStand (zg_app zg_k149_X5_hasRoom (zg_app zg_k150_X5_accept (zg_app zg_k123_X10_toNextToken zg_nil)))))))))
theorem zi_k117_X5_readText : ∀ w ∈ wz_k117_X5_readText, w ∈ lw_tbl := zi_cons zw_537 (zi_app (zi_cons zw_538 (zi_cons zw_540 (zi_cons zw_0 (zi_cons zw_105 (zi_cons zw_241 (zi_cons zw_242 (zi_cons zw_237 (zi_cons zw_681 (zi_cons zw_683 (zi_cons zw_12 (zi_cons zw_230 (zi_cons zw_138 (zi_cons zw_584 (zi_cons zw_586 (zi_cons zw_5 (zi_cons zw_689 (zi_cons zw_691 (zi_cons zw_14 (zi_cons zw_693 (zi_cons zw_695 (zi_cons zw_15 (zi_cons zw_750 (zi_cons zw_559 (zi_cons zw_560 (zi_cons zw_104 zi_nil))))))))))))))))))))))))) (zi_app inX5 (zi_app inX10 (zi_app zi_k118_X5_begin (zi_app zi_k130_X5_stop (zi_app zi_k132_X5_mayStand (zi_app zi_k149_X5_hasRoom (zi_app zi_k150_X5_accept (zi_app zi_k123_X10_toNextToken zi_nil)))))))))
set_option maxHeartbeats 4000000 in
set_option maxRecDepth 100000 in
theorem k117_X5_readText (l : Launch) (D : va_G) (zt : Nat × Nat × Nat × (Nat → Nat) × (Nat → Nat)) (q : Nat → Nat) (d : Nat → ClassId) (I : Nat → Int32) (A : Nat → Nat → Int32) (hIv : IvX I A) : GM l D zt (tyX d) yX5_readText wz_k117_X5_readText ({ frames := 8, cells := 0, slots := 0, locals := 168 } : Room) [.ref (q 3)] (wX q d I A) (fun v _ w' => ∃ (I' : Nat → Int32) (A' : Nat → Nat → Int32), Md [1, 2, 3, 4, 5, 6, 7, 8, 9, 10, 11, 12, 13, 14, 16] I I' ∧ Md [1, 2, 3, 4, 5, 6] A A' ∧ IvX I' A' ∧ ∃ y0 : Int32, v = some (.int y0) ∧ w' = wX q d I' A') 0 0 := by
  refine GM.of (cc := cX5_readText) (maxL := 2) (ret := (some .int)) (own := RX5) (lv := [(0, .ref (q 3))]) (by decide) rfl rfl (Nat.le_of_ble_eq_true rfl) rfl (fun κ sz hk hR hN => ?_)
  have hin5 : ∀ w ∈ u_ws RX5 TX5 13, w ∈ wz_k117_X5_readText := fun w h => (List.mem_cons_of_mem _ (List.mem_append_right _ (List.mem_append_left _ h)))
  have hin10 : ∀ w ∈ u_ws RX10 TX10 7, w ∈ wz_k117_X5_readText := fun w h => (List.mem_cons_of_mem _ (List.mem_append_right _ (List.mem_append_right _ (List.mem_append_left _ h))))
  refine g_aload_n hk dX5_readText_0 rfl ?_
  refine g_callV (n := 0) hk (k118_X5_begin l D zt q d I A  hIv) (SP.same _) (fun _ h => h) (gi_V (List.mem_cons_of_mem _ (List.mem_append_left _ (List.mem_of_getElem? (i := 0) rfl))) (List.mem_cons_of_mem _ (List.mem_append_left _ (List.mem_of_getElem? (i := 1) rfl))) (List.mem_cons_of_mem _ (List.mem_append_left _ (List.mem_of_getElem? (i := 2) rfl))) (List.mem_cons_of_mem _ (List.mem_append_left _ (List.mem_of_getElem? (i := 3) rfl))) (gi_sub (fun w h => (List.mem_cons_of_mem _ (List.mem_append_right _ (List.mem_append_right _ (List.mem_append_right _ (List.mem_append_left _ h)))))) zg_k118_X5_begin)) rfl rfl rfl (by decide +kernel) ⟨Nat.le_of_ble_eq_true rfl, Nat.le_of_ble_eq_true rfl⟩ 3 rfl rfl rfl rfl (Nat.le_of_ble_eq_true rfl) ⟨Nat.le_of_ble_eq_true rfl, Nat.le_of_ble_eq_true rfl⟩ dX5_readText_1 (fun v ty' w' hp hk' => ?_)
  obtain ⟨I686, A686, hI686, hA686, hV686, rfl, rfl⟩ := hp
  show GW κ 2 0 0 (wX q d I686 A686) 4 [(0, .ref (q 3))] []
  refine g_iconst (v := 0) hk dX5_readText_4 (by decide) ?_
  refine g_istore_n (lv' := [(1, .int 0), (0, .ref (q 3))]) hk dX5_readText_5 (by decide) rfl ?_
  have lp1338 : ∀ (n1339 : Nat) (x687 : Int32) (I689 : Nat → Int32) (A689 : Nat → Nat → Int32), (Md [1, 2, 3, 4, 5, 6, 7, 8, 9, 10, 11, 12, 13, 14, 16] I686 I689) → (Md [1, 2, 3, 4, 5, 6] A686 A689) → (IvX I689 A689) → (0 ≤ x687.toInt) → (x687.toInt ≤ 401) → (401 - x687.toInt < (n1339 : Int)) → (0 < n1339) → GW κ 2 0 0 (wX q d I689 A689) 6 [(1, .int x687), (0, .ref (q 3))] [] := by
    intro n1339
    induction n1339 with
    | zero =>
      intro x687 I689 A689 hI689 hA689 hV689 h1336 h1337 m1340 m1340z
      exact absurd m1340z (Nat.lt_irrefl 0)
    | succ n1339 ih =>
      intro x687 I689 A689 hI689 hA689 hV689 h1336 h1337 m1340 m1340z
      refine g_iload_n hk dX5_readText_6 rfl ?_
      refine g_sipush (v := 400) hk dX5_readText_7 (by decide) ?_
      refine g_icmp_gt (tgt := 77) (a := x687.toInt) (b := 400) hk dX5_readText_10 (by decide) rfl rfl (fun c1341 => ?_) (fun c1341 => ?_)
      · skip
        refine g_aload_n hk dX5_readText_77 rfl ?_
        refine gX_i10 (v := (I689 10)) hk hin5 (List.mem_cons_of_mem _ (List.mem_append_left _ (List.mem_of_getElem? (i := 4) rfl))) dX5_readText_78 rfl ?_
        have b1342l := Int32.le_toInt (I689 10)
        have b1342h := Int32.toInt_lt (I689 10)
        refine g_if_ne (tgt := 96) (a := (I689 10).toInt) hk dX5_readText_81 (by decide) rfl (fun c1343 => ?_) (fun c1343 => ?_)
        · skip
          refine g_aload_n hk dX5_readText_96 rfl ?_
          refine gX_i11 (v := (I689 11)) hk hin5 (List.mem_cons_of_mem _ (List.mem_append_left _ (List.mem_of_getElem? (i := 5) rfl))) dX5_readText_97 rfl ?_
          have b1344l := Int32.le_toInt (I689 11)
          have b1344h := Int32.toInt_lt (I689 11)
          exact g_iret hk hR rfl ⟨I689, A689, (show Md [1, 2, 3, 4, 5, 6, 7, 8, 9, 10, 11, 12, 13, 14, 16] I I689 from (Md.tr (Md.tr Md.rf hI686 rfl) hI689 rfl)), (show Md [1, 2, 3, 4, 5, 6] A A689 from (Md.tr (Md.tr Md.rf hA686 rfl) hA689 rfl)), hV689, (I689 11), rfl, rfl⟩ dX5_readText_100
        · skip
          refine g_aload_n hk dX5_readText_84 rfl ?_
          refine gX_i6 (v := (I689 6)) hk hin5 (List.mem_cons_of_mem _ (List.mem_append_left _ (List.mem_of_getElem? (i := 6) rfl))) dX5_readText_85 rfl ?_
          have b1345l := Int32.le_toInt (I689 6)
          have b1345h := Int32.toInt_lt (I689 6)
          refine g_if_eq (tgt := 96) (a := (I689 6).toInt) hk dX5_readText_88 (by decide) rfl (fun c1346 => ?_) (fun c1346 => ?_)
          · skip
            refine g_aload_n hk dX5_readText_96 rfl ?_
            refine gX_i11 (v := (I689 11)) hk hin5 (List.mem_cons_of_mem _ (List.mem_append_left _ (List.mem_of_getElem? (i := 5) rfl))) dX5_readText_97 rfl ?_
            have b1347l := Int32.le_toInt (I689 11)
            have b1347h := Int32.toInt_lt (I689 11)
            exact g_iret hk hR rfl ⟨I689, A689, (show Md [1, 2, 3, 4, 5, 6, 7, 8, 9, 10, 11, 12, 13, 14, 16] I I689 from (Md.tr (Md.tr Md.rf hI686 rfl) hI689 rfl)), (show Md [1, 2, 3, 4, 5, 6] A A689 from (Md.tr (Md.tr Md.rf hA686 rfl) hA689 rfl)), hV689, (I689 11), rfl, rfl⟩ dX5_readText_100
          · skip
            refine g_aload_n hk dX5_readText_91 rfl ?_
            refine g_iconst (v := 1) hk dX5_readText_92 (by decide) ?_
            have k1348 : (1 : Int32).toInt = 1 := rfl
            refine g_callV (n := 1) hk (k130_X5_stop l D zt q d I689 A689 1 hV689) (SP.same _) (fun _ h => h) (gi_V (List.mem_cons_of_mem _ (List.mem_append_left _ (List.mem_of_getElem? (i := 7) rfl))) (List.mem_cons_of_mem _ (List.mem_append_left _ (List.mem_of_getElem? (i := 8) rfl))) (List.mem_cons_of_mem _ (List.mem_append_left _ (List.mem_of_getElem? (i := 9) rfl))) (List.mem_cons_of_mem _ (List.mem_append_left _ (List.mem_of_getElem? (i := 3) rfl))) (gi_sub (fun w h => (List.mem_cons_of_mem _ (List.mem_append_right _ (List.mem_append_right _ (List.mem_append_right _ (List.mem_append_right _ (List.mem_append_left _ h))))))) zg_k130_X5_stop)) rfl rfl rfl (by decide +kernel) ⟨Nat.le_of_ble_eq_true rfl, Nat.le_of_ble_eq_true rfl⟩ 3 rfl rfl rfl rfl (Nat.le_of_ble_eq_true rfl) ⟨Nat.le_of_ble_eq_true rfl, Nat.le_of_ble_eq_true rfl⟩ dX5_readText_93 (fun v ty' w' hp hk' => ?_)
            obtain ⟨I1350, A1350, hI1350, hA1350, hV1350, rfl, rfl⟩ := hp
            show GW κ 2 0 0 (wX q d I1350 A1350) 96 [(1, .int x687), (0, .ref (q 3))] []
            refine g_aload_n hk dX5_readText_96 rfl ?_
            refine gX_i11 (v := (I1350 11)) hk hin5 (List.mem_cons_of_mem _ (List.mem_append_left _ (List.mem_of_getElem? (i := 5) rfl))) dX5_readText_97 rfl ?_
            have b1351l := Int32.le_toInt (I1350 11)
            have b1351h := Int32.toInt_lt (I1350 11)
            exact g_iret hk hR rfl ⟨I1350, A1350, (show Md [1, 2, 3, 4, 5, 6, 7, 8, 9, 10, 11, 12, 13, 14, 16] I I1350 from (Md.tr (Md.tr (Md.tr Md.rf hI686 rfl) hI689 rfl) hI1350 rfl)), (show Md [1, 2, 3, 4, 5, 6] A A1350 from (Md.tr (Md.tr (Md.tr Md.rf hA686 rfl) hA689 rfl) hA1350 rfl)), hV1350, (I1350 11), rfl, rfl⟩ dX5_readText_100
      · skip
        refine g_aload_n hk dX5_readText_13 rfl ?_
        refine gX_i10 (v := (I689 10)) hk hin5 (List.mem_cons_of_mem _ (List.mem_append_left _ (List.mem_of_getElem? (i := 4) rfl))) dX5_readText_14 rfl ?_
        have b1352l := Int32.le_toInt (I689 10)
        have b1352h := Int32.toInt_lt (I689 10)
        refine g_if_ne (tgt := 77) (a := (I689 10).toInt) hk dX5_readText_17 (by decide) rfl (fun c1353 => ?_) (fun c1353 => ?_)
        · skip
          refine g_aload_n hk dX5_readText_77 rfl ?_
          refine gX_i10 (v := (I689 10)) hk hin5 (List.mem_cons_of_mem _ (List.mem_append_left _ (List.mem_of_getElem? (i := 4) rfl))) dX5_readText_78 rfl ?_
          refine g_if_ne (tgt := 96) (a := (I689 10).toInt) hk dX5_readText_81 (by decide) rfl (fun c1354 => ?_) (fun c1354 => ?_)
          · skip
            refine g_aload_n hk dX5_readText_96 rfl ?_
            refine gX_i11 (v := (I689 11)) hk hin5 (List.mem_cons_of_mem _ (List.mem_append_left _ (List.mem_of_getElem? (i := 5) rfl))) dX5_readText_97 rfl ?_
            have b1355l := Int32.le_toInt (I689 11)
            have b1355h := Int32.toInt_lt (I689 11)
            exact g_iret hk hR rfl ⟨I689, A689, (show Md [1, 2, 3, 4, 5, 6, 7, 8, 9, 10, 11, 12, 13, 14, 16] I I689 from (Md.tr (Md.tr Md.rf hI686 rfl) hI689 rfl)), (show Md [1, 2, 3, 4, 5, 6] A A689 from (Md.tr (Md.tr Md.rf hA686 rfl) hA689 rfl)), hV689, (I689 11), rfl, rfl⟩ dX5_readText_100
          · skip
            refine g_aload_n hk dX5_readText_84 rfl ?_
            refine gX_i6 (v := (I689 6)) hk hin5 (List.mem_cons_of_mem _ (List.mem_append_left _ (List.mem_of_getElem? (i := 6) rfl))) dX5_readText_85 rfl ?_
            have b1356l := Int32.le_toInt (I689 6)
            have b1356h := Int32.toInt_lt (I689 6)
            refine g_if_eq (tgt := 96) (a := (I689 6).toInt) hk dX5_readText_88 (by decide) rfl (fun c1357 => ?_) (fun c1357 => ?_)
            · skip
              refine g_aload_n hk dX5_readText_96 rfl ?_
              refine gX_i11 (v := (I689 11)) hk hin5 (List.mem_cons_of_mem _ (List.mem_append_left _ (List.mem_of_getElem? (i := 5) rfl))) dX5_readText_97 rfl ?_
              have b1358l := Int32.le_toInt (I689 11)
              have b1358h := Int32.toInt_lt (I689 11)
              exact g_iret hk hR rfl ⟨I689, A689, (show Md [1, 2, 3, 4, 5, 6, 7, 8, 9, 10, 11, 12, 13, 14, 16] I I689 from (Md.tr (Md.tr Md.rf hI686 rfl) hI689 rfl)), (show Md [1, 2, 3, 4, 5, 6] A A689 from (Md.tr (Md.tr Md.rf hA686 rfl) hA689 rfl)), hV689, (I689 11), rfl, rfl⟩ dX5_readText_100
            · skip
              refine g_aload_n hk dX5_readText_91 rfl ?_
              refine g_iconst (v := 1) hk dX5_readText_92 (by decide) ?_
              have k1359 : (1 : Int32).toInt = 1 := rfl
              refine g_callV (n := 1) hk (k130_X5_stop l D zt q d I689 A689 1 hV689) (SP.same _) (fun _ h => h) (gi_V (List.mem_cons_of_mem _ (List.mem_append_left _ (List.mem_of_getElem? (i := 7) rfl))) (List.mem_cons_of_mem _ (List.mem_append_left _ (List.mem_of_getElem? (i := 8) rfl))) (List.mem_cons_of_mem _ (List.mem_append_left _ (List.mem_of_getElem? (i := 9) rfl))) (List.mem_cons_of_mem _ (List.mem_append_left _ (List.mem_of_getElem? (i := 3) rfl))) (gi_sub (fun w h => (List.mem_cons_of_mem _ (List.mem_append_right _ (List.mem_append_right _ (List.mem_append_right _ (List.mem_append_right _ (List.mem_append_left _ h))))))) zg_k130_X5_stop)) rfl rfl rfl (by decide +kernel) ⟨Nat.le_of_ble_eq_true rfl, Nat.le_of_ble_eq_true rfl⟩ 3 rfl rfl rfl rfl (Nat.le_of_ble_eq_true rfl) ⟨Nat.le_of_ble_eq_true rfl, Nat.le_of_ble_eq_true rfl⟩ dX5_readText_93 (fun v ty' w' hp hk' => ?_)
              obtain ⟨I1361, A1361, hI1361, hA1361, hV1361, rfl, rfl⟩ := hp
              show GW κ 2 0 0 (wX q d I1361 A1361) 96 [(1, .int x687), (0, .ref (q 3))] []
              refine g_aload_n hk dX5_readText_96 rfl ?_
              refine gX_i11 (v := (I1361 11)) hk hin5 (List.mem_cons_of_mem _ (List.mem_append_left _ (List.mem_of_getElem? (i := 5) rfl))) dX5_readText_97 rfl ?_
              have b1362l := Int32.le_toInt (I1361 11)
              have b1362h := Int32.toInt_lt (I1361 11)
              exact g_iret hk hR rfl ⟨I1361, A1361, (show Md [1, 2, 3, 4, 5, 6, 7, 8, 9, 10, 11, 12, 13, 14, 16] I I1361 from (Md.tr (Md.tr (Md.tr Md.rf hI686 rfl) hI689 rfl) hI1361 rfl)), (show Md [1, 2, 3, 4, 5, 6] A A1361 from (Md.tr (Md.tr (Md.tr Md.rf hA686 rfl) hA689 rfl) hA1361 rfl)), hV1361, (I1361 11), rfl, rfl⟩ dX5_readText_100
        · skip
          refine g_aload_n hk dX5_readText_20 rfl ?_
          refine gX_r3_0 hk hin5 (List.mem_cons_of_mem _ (List.mem_append_left _ (List.mem_of_getElem? (i := 10) rfl))) dX5_readText_21 ?_
          refine gX_i1 (v := (I689 1)) hk hin10 (List.mem_cons_of_mem _ (List.mem_append_left _ (List.mem_of_getElem? (i := 11) rfl))) dX5_readText_24 rfl ?_
          have b1363l := Int32.le_toInt (I689 1)
          have b1363h := Int32.toInt_lt (I689 1)
          refine g_if_eq (tgt := 77) (a := (I689 1).toInt) hk dX5_readText_27 (by decide) rfl (fun c1364 => ?_) (fun c1364 => ?_)
          · skip
            refine g_aload_n hk dX5_readText_77 rfl ?_
            refine gX_i10 (v := (I689 10)) hk hin5 (List.mem_cons_of_mem _ (List.mem_append_left _ (List.mem_of_getElem? (i := 4) rfl))) dX5_readText_78 rfl ?_
            refine g_if_ne (tgt := 96) (a := (I689 10).toInt) hk dX5_readText_81 (by decide) rfl (fun z9 => absurd z9 (show ¬ ((I689 10).toInt ≠ 0) from by omega)) (fun _ => ?_)
            refine g_aload_n hk dX5_readText_84 rfl ?_
            refine gX_i6 (v := (I689 6)) hk hin5 (List.mem_cons_of_mem _ (List.mem_append_left _ (List.mem_of_getElem? (i := 6) rfl))) dX5_readText_85 rfl ?_
            have b1365l := Int32.le_toInt (I689 6)
            have b1365h := Int32.toInt_lt (I689 6)
            refine g_if_eq (tgt := 96) (a := (I689 6).toInt) hk dX5_readText_88 (by decide) rfl (fun c1366 => ?_) (fun c1366 => ?_)
            · skip
              refine g_aload_n hk dX5_readText_96 rfl ?_
              refine gX_i11 (v := (I689 11)) hk hin5 (List.mem_cons_of_mem _ (List.mem_append_left _ (List.mem_of_getElem? (i := 5) rfl))) dX5_readText_97 rfl ?_
              have b1367l := Int32.le_toInt (I689 11)
              have b1367h := Int32.toInt_lt (I689 11)
              exact g_iret hk hR rfl ⟨I689, A689, (show Md [1, 2, 3, 4, 5, 6, 7, 8, 9, 10, 11, 12, 13, 14, 16] I I689 from (Md.tr (Md.tr Md.rf hI686 rfl) hI689 rfl)), (show Md [1, 2, 3, 4, 5, 6] A A689 from (Md.tr (Md.tr Md.rf hA686 rfl) hA689 rfl)), hV689, (I689 11), rfl, rfl⟩ dX5_readText_100
            · skip
              refine g_aload_n hk dX5_readText_91 rfl ?_
              refine g_iconst (v := 1) hk dX5_readText_92 (by decide) ?_
              have k1368 : (1 : Int32).toInt = 1 := rfl
              refine g_callV (n := 1) hk (k130_X5_stop l D zt q d I689 A689 1 hV689) (SP.same _) (fun _ h => h) (gi_V (List.mem_cons_of_mem _ (List.mem_append_left _ (List.mem_of_getElem? (i := 7) rfl))) (List.mem_cons_of_mem _ (List.mem_append_left _ (List.mem_of_getElem? (i := 8) rfl))) (List.mem_cons_of_mem _ (List.mem_append_left _ (List.mem_of_getElem? (i := 9) rfl))) (List.mem_cons_of_mem _ (List.mem_append_left _ (List.mem_of_getElem? (i := 3) rfl))) (gi_sub (fun w h => (List.mem_cons_of_mem _ (List.mem_append_right _ (List.mem_append_right _ (List.mem_append_right _ (List.mem_append_right _ (List.mem_append_left _ h))))))) zg_k130_X5_stop)) rfl rfl rfl (by decide +kernel) ⟨Nat.le_of_ble_eq_true rfl, Nat.le_of_ble_eq_true rfl⟩ 3 rfl rfl rfl rfl (Nat.le_of_ble_eq_true rfl) ⟨Nat.le_of_ble_eq_true rfl, Nat.le_of_ble_eq_true rfl⟩ dX5_readText_93 (fun v ty' w' hp hk' => ?_)
              obtain ⟨I1370, A1370, hI1370, hA1370, hV1370, rfl, rfl⟩ := hp
              show GW κ 2 0 0 (wX q d I1370 A1370) 96 [(1, .int x687), (0, .ref (q 3))] []
              refine g_aload_n hk dX5_readText_96 rfl ?_
              refine gX_i11 (v := (I1370 11)) hk hin5 (List.mem_cons_of_mem _ (List.mem_append_left _ (List.mem_of_getElem? (i := 5) rfl))) dX5_readText_97 rfl ?_
              have b1371l := Int32.le_toInt (I1370 11)
              have b1371h := Int32.toInt_lt (I1370 11)
              exact g_iret hk hR rfl ⟨I1370, A1370, (show Md [1, 2, 3, 4, 5, 6, 7, 8, 9, 10, 11, 12, 13, 14, 16] I I1370 from (Md.tr (Md.tr (Md.tr Md.rf hI686 rfl) hI689 rfl) hI1370 rfl)), (show Md [1, 2, 3, 4, 5, 6] A A1370 from (Md.tr (Md.tr (Md.tr Md.rf hA686 rfl) hA689 rfl) hA1370 rfl)), hV1370, (I1370 11), rfl, rfl⟩ dX5_readText_100
          · skip
            refine g_aload_n hk dX5_readText_30 rfl ?_
            refine g_callV (n := 0) hk (k132_X5_mayStand l D zt q d I689 A689  hV689) (SP.same _) (fun _ h => h) (gi_V (List.mem_cons_of_mem _ (List.mem_append_left _ (List.mem_of_getElem? (i := 12) rfl))) (List.mem_cons_of_mem _ (List.mem_append_left _ (List.mem_of_getElem? (i := 13) rfl))) (List.mem_cons_of_mem _ (List.mem_append_left _ (List.mem_of_getElem? (i := 14) rfl))) (List.mem_cons_of_mem _ (List.mem_append_left _ (List.mem_of_getElem? (i := 3) rfl))) (gi_sub (fun w h => (List.mem_cons_of_mem _ (List.mem_append_right _ (List.mem_append_right _ (List.mem_append_right _ (List.mem_append_right _ (List.mem_append_right _ (List.mem_append_left _ h)))))))) zg_k132_X5_mayStand)) rfl rfl rfl (by decide +kernel) ⟨Nat.le_of_ble_eq_true rfl, Nat.le_of_ble_eq_true rfl⟩ 3 rfl rfl rfl rfl (Nat.le_of_ble_eq_true rfl) ⟨Nat.le_of_ble_eq_true rfl, Nat.le_of_ble_eq_true rfl⟩ dX5_readText_31 (fun v ty' w' hp hk' => ?_)
            rcases hp with ⟨rfl, rfl⟩ | ⟨rfl, rfl⟩
            · skip
              show GW κ 2 0 0 (wX q d I689 A689) 34 [(1, .int x687), (0, .ref (q 3))] [.int 0]
              refine g_if_ne (tgt := 45) (a := 0) hk dX5_readText_34 (by decide) rfl (fun z9 => absurd z9 (show ¬ ((0 : Int) ≠ (0 : Int)) from by decide)) (fun _ => ?_)
              refine g_aload_n hk dX5_readText_37 rfl ?_
              refine g_iconst (v := 1) hk dX5_readText_38 (by decide) ?_
              have k1374 : (1 : Int32).toInt = 1 := rfl
              refine g_callV (n := 1) hk (k130_X5_stop l D zt q d I689 A689 1 hV689) (SP.same _) (fun _ h => h) (gi_V (List.mem_cons_of_mem _ (List.mem_append_left _ (List.mem_of_getElem? (i := 7) rfl))) (List.mem_cons_of_mem _ (List.mem_append_left _ (List.mem_of_getElem? (i := 8) rfl))) (List.mem_cons_of_mem _ (List.mem_append_left _ (List.mem_of_getElem? (i := 9) rfl))) (List.mem_cons_of_mem _ (List.mem_append_left _ (List.mem_of_getElem? (i := 3) rfl))) (gi_sub (fun w h => (List.mem_cons_of_mem _ (List.mem_append_right _ (List.mem_append_right _ (List.mem_append_right _ (List.mem_append_right _ (List.mem_append_left _ h))))))) zg_k130_X5_stop)) rfl rfl rfl (by decide +kernel) ⟨Nat.le_of_ble_eq_true rfl, Nat.le_of_ble_eq_true rfl⟩ 3 rfl rfl rfl rfl (Nat.le_of_ble_eq_true rfl) ⟨Nat.le_of_ble_eq_true rfl, Nat.le_of_ble_eq_true rfl⟩ dX5_readText_39 (fun v ty' w' hp hk' => ?_)
              obtain ⟨I1376, A1376, hI1376, hA1376, hV1376, rfl, rfl⟩ := hp
              show GW κ 2 0 0 (wX q d I1376 A1376) 42 [(1, .int x687), (0, .ref (q 3))] []
              refine g_goto (tgt := 71) hk dX5_readText_42 (by decide) ?_
              obtain ⟨y1377, ey1377⟩ : ∃ y : Int32, y = x687 + Int32.ofInt 1 := ⟨_, rfl⟩
              have hy1377 : y1377.toInt = x687.toInt + 1 := i32_add ey1377 rfl (by decide) (by omega) (by omega)
              refine g_iinc (v := y1377) (lv' := [(1, .int y1377), (0, .ref (q 3))]) hk 0 dX5_readText_71 rfl ey1377.symm (by decide) rfl ?_
              refine g_goto (tgt := 6) hk dX5_readText_74 (by decide) ?_
              exact g_lv (List.forall_mem_cons.mpr ⟨List.mem_of_getElem? (i := 0) rfl, (List.forall_mem_cons.mpr ⟨List.mem_of_getElem? (i := 1) rfl, (fun _ h => absurd h List.not_mem_nil)⟩)⟩) (ih y1377 I1376 A1376 (show Md [1, 2, 3, 4, 5, 6, 7, 8, 9, 10, 11, 12, 13, 14, 16] I686 I1376 from Md.tr hI689 (show Md [1, 2, 3, 4, 5, 6, 7, 8, 9, 10, 11, 12, 13, 14, 16] I689 I1376 from (Md.tr Md.rf hI1376 rfl)) rfl) (show Md [1, 2, 3, 4, 5, 6] A686 A1376 from Md.tr hA689 (show Md [1, 2, 3, 4, 5, 6] A689 A1376 from (Md.tr Md.rf hA1376 rfl)) rfl) hV1376 (by omega) (by omega) (by omega) (by omega))
            · skip
              show GW κ 2 0 0 (wX q d I689 A689) 34 [(1, .int x687), (0, .ref (q 3))] [.int 1]
              refine g_if_ne (tgt := 45) (a := 1) hk dX5_readText_34 (by decide) rfl (fun _ => ?_) (fun z9 => absurd (show (1 : Int) ≠ (0 : Int) from by decide) z9)
              refine g_aload_n hk dX5_readText_45 rfl ?_
              refine g_callV (n := 0) hk (k149_X5_hasRoom l D zt q d I689 A689  hV689) (SP.same _) (fun _ h => h) (gi_V (List.mem_cons_of_mem _ (List.mem_append_left _ (List.mem_of_getElem? (i := 15) rfl))) (List.mem_cons_of_mem _ (List.mem_append_left _ (List.mem_of_getElem? (i := 16) rfl))) (List.mem_cons_of_mem _ (List.mem_append_left _ (List.mem_of_getElem? (i := 17) rfl))) (List.mem_cons_of_mem _ (List.mem_append_left _ (List.mem_of_getElem? (i := 3) rfl))) (gi_sub (fun w h => (List.mem_cons_of_mem _ (List.mem_append_right _ (List.mem_append_right _ (List.mem_append_right _ (List.mem_append_right _ (List.mem_append_right _ (List.mem_append_right _ (List.mem_append_left _ h))))))))) zg_k149_X5_hasRoom)) rfl rfl rfl (by decide +kernel) ⟨Nat.le_of_ble_eq_true rfl, Nat.le_of_ble_eq_true rfl⟩ 3 rfl rfl rfl rfl (Nat.le_of_ble_eq_true rfl) ⟨Nat.le_of_ble_eq_true rfl, Nat.le_of_ble_eq_true rfl⟩ dX5_readText_46 (fun v ty' w' hp hk' => ?_)
              rcases hp with ⟨rfl, rfl⟩ | ⟨rfl, rfl⟩
              · skip
                show GW κ 2 0 0 (wX q d I689 A689) 49 [(1, .int x687), (0, .ref (q 3))] [.int 0]
                refine g_if_ne (tgt := 60) (a := 0) hk dX5_readText_49 (by decide) rfl (fun z9 => absurd z9 (show ¬ ((0 : Int) ≠ (0 : Int)) from by decide)) (fun _ => ?_)
                refine g_aload_n hk dX5_readText_52 rfl ?_
                refine g_iconst (v := 2) hk dX5_readText_53 (by decide) ?_
                have k1380 : (2 : Int32).toInt = 2 := rfl
                refine g_callV (n := 1) hk (k130_X5_stop l D zt q d I689 A689 2 hV689) (SP.same _) (fun _ h => h) (gi_V (List.mem_cons_of_mem _ (List.mem_append_left _ (List.mem_of_getElem? (i := 7) rfl))) (List.mem_cons_of_mem _ (List.mem_append_left _ (List.mem_of_getElem? (i := 8) rfl))) (List.mem_cons_of_mem _ (List.mem_append_left _ (List.mem_of_getElem? (i := 9) rfl))) (List.mem_cons_of_mem _ (List.mem_append_left _ (List.mem_of_getElem? (i := 3) rfl))) (gi_sub (fun w h => (List.mem_cons_of_mem _ (List.mem_append_right _ (List.mem_append_right _ (List.mem_append_right _ (List.mem_append_right _ (List.mem_append_left _ h))))))) zg_k130_X5_stop)) rfl rfl rfl (by decide +kernel) ⟨Nat.le_of_ble_eq_true rfl, Nat.le_of_ble_eq_true rfl⟩ 3 rfl rfl rfl rfl (Nat.le_of_ble_eq_true rfl) ⟨Nat.le_of_ble_eq_true rfl, Nat.le_of_ble_eq_true rfl⟩ dX5_readText_54 (fun v ty' w' hp hk' => ?_)
                obtain ⟨I1382, A1382, hI1382, hA1382, hV1382, rfl, rfl⟩ := hp
                show GW κ 2 0 0 (wX q d I1382 A1382) 57 [(1, .int x687), (0, .ref (q 3))] []
                refine g_goto (tgt := 71) hk dX5_readText_57 (by decide) ?_
                obtain ⟨y1383, ey1383⟩ : ∃ y : Int32, y = x687 + Int32.ofInt 1 := ⟨_, rfl⟩
                have hy1383 : y1383.toInt = x687.toInt + 1 := i32_add ey1383 rfl (by decide) (by omega) (by omega)
                refine g_iinc (v := y1383) (lv' := [(1, .int y1383), (0, .ref (q 3))]) hk 0 dX5_readText_71 rfl ey1383.symm (by decide) rfl ?_
                refine g_goto (tgt := 6) hk dX5_readText_74 (by decide) ?_
                exact g_lv (List.forall_mem_cons.mpr ⟨List.mem_of_getElem? (i := 0) rfl, (List.forall_mem_cons.mpr ⟨List.mem_of_getElem? (i := 1) rfl, (fun _ h => absurd h List.not_mem_nil)⟩)⟩) (ih y1383 I1382 A1382 (show Md [1, 2, 3, 4, 5, 6, 7, 8, 9, 10, 11, 12, 13, 14, 16] I686 I1382 from Md.tr hI689 (show Md [1, 2, 3, 4, 5, 6, 7, 8, 9, 10, 11, 12, 13, 14, 16] I689 I1382 from (Md.tr Md.rf hI1382 rfl)) rfl) (show Md [1, 2, 3, 4, 5, 6] A686 A1382 from Md.tr hA689 (show Md [1, 2, 3, 4, 5, 6] A689 A1382 from (Md.tr Md.rf hA1382 rfl)) rfl) hV1382 (by omega) (by omega) (by omega) (by omega))
              · skip
                show GW κ 2 0 0 (wX q d I689 A689) 49 [(1, .int x687), (0, .ref (q 3))] [.int 1]
                refine g_if_ne (tgt := 60) (a := 1) hk dX5_readText_49 (by decide) rfl (fun _ => ?_) (fun z9 => absurd (show (1 : Int) ≠ (0 : Int) from by decide) z9)
                refine g_aload_n hk dX5_readText_60 rfl ?_
                refine g_callV (n := 0) hk (k150_X5_accept l D zt q d I689 A689  hV689) (SP.same _) (fun _ h => h) (gi_V (List.mem_cons_of_mem _ (List.mem_append_left _ (List.mem_of_getElem? (i := 18) rfl))) (List.mem_cons_of_mem _ (List.mem_append_left _ (List.mem_of_getElem? (i := 19) rfl))) (List.mem_cons_of_mem _ (List.mem_append_left _ (List.mem_of_getElem? (i := 20) rfl))) (List.mem_cons_of_mem _ (List.mem_append_left _ (List.mem_of_getElem? (i := 3) rfl))) (gi_sub (fun w h => (List.mem_cons_of_mem _ (List.mem_append_right _ (List.mem_append_right _ (List.mem_append_right _ (List.mem_append_right _ (List.mem_append_right _ (List.mem_append_right _ (List.mem_append_right _ (List.mem_append_left _ h)))))))))) zg_k150_X5_accept)) rfl rfl rfl (by decide +kernel) ⟨Nat.le_of_ble_eq_true rfl, Nat.le_of_ble_eq_true rfl⟩ 3 rfl rfl rfl rfl (Nat.le_of_ble_eq_true rfl) ⟨Nat.le_of_ble_eq_true rfl, Nat.le_of_ble_eq_true rfl⟩ dX5_readText_61 (fun v ty' w' hp hk' => ?_)
                obtain ⟨I1385, A1385, hI1385, hA1385, hV1385, rfl, rfl⟩ := hp
                show GW κ 2 0 0 (wX q d I1385 A1385) 64 [(1, .int x687), (0, .ref (q 3))] []
                refine g_aload_n hk dX5_readText_64 rfl ?_
                refine gX_r3_0 hk hin5 (List.mem_cons_of_mem _ (List.mem_append_left _ (List.mem_of_getElem? (i := 10) rfl))) dX5_readText_65 ?_
                refine g_callV (n := 0) hk (k123_X10_toNextToken l D zt q d I1385 A1385  hV1385) (SP.same _) (fun _ h => h) (gi_V (List.mem_cons_of_mem _ (List.mem_append_left _ (List.mem_of_getElem? (i := 21) rfl))) (List.mem_cons_of_mem _ (List.mem_append_left _ (List.mem_of_getElem? (i := 22) rfl))) (List.mem_cons_of_mem _ (List.mem_append_left _ (List.mem_of_getElem? (i := 23) rfl))) (List.mem_cons_of_mem _ (List.mem_append_left _ (List.mem_of_getElem? (i := 24) rfl))) (gi_sub (fun w h => (List.mem_cons_of_mem _ (List.mem_append_right _ (List.mem_append_right _ (List.mem_append_right _ (List.mem_append_right _ (List.mem_append_right _ (List.mem_append_right _ (List.mem_append_right _ (List.mem_append_right _ (List.mem_append_left _ h))))))))))) zg_k123_X10_toNextToken)) rfl rfl rfl (by decide +kernel) ⟨Nat.le_of_ble_eq_true rfl, Nat.le_of_ble_eq_true rfl⟩ 1 rfl rfl rfl rfl (Nat.le_of_ble_eq_true rfl) ⟨Nat.le_of_ble_eq_true rfl, Nat.le_of_ble_eq_true rfl⟩ dX5_readText_68 (fun v ty' w' hp hk' => ?_)
                obtain ⟨I1387, A1387, hI1387, hA1387, hV1387, rfl, rfl⟩ := hp
                show GW κ 2 0 0 (wX q d I1387 A1387) 71 [(1, .int x687), (0, .ref (q 3))] []
                obtain ⟨y1388, ey1388⟩ : ∃ y : Int32, y = x687 + Int32.ofInt 1 := ⟨_, rfl⟩
                have hy1388 : y1388.toInt = x687.toInt + 1 := i32_add ey1388 rfl (by decide) (by omega) (by omega)
                refine g_iinc (v := y1388) (lv' := [(1, .int y1388), (0, .ref (q 3))]) hk 0 dX5_readText_71 rfl ey1388.symm (by decide) rfl ?_
                refine g_goto (tgt := 6) hk dX5_readText_74 (by decide) ?_
                exact g_lv (List.forall_mem_cons.mpr ⟨List.mem_of_getElem? (i := 0) rfl, (List.forall_mem_cons.mpr ⟨List.mem_of_getElem? (i := 1) rfl, (fun _ h => absurd h List.not_mem_nil)⟩)⟩) (ih y1388 I1387 A1387 (show Md [1, 2, 3, 4, 5, 6, 7, 8, 9, 10, 11, 12, 13, 14, 16] I686 I1387 from Md.tr hI689 (show Md [1, 2, 3, 4, 5, 6, 7, 8, 9, 10, 11, 12, 13, 14, 16] I689 I1387 from (Md.tr (Md.tr Md.rf hI1385 rfl) hI1387 rfl)) rfl) (show Md [1, 2, 3, 4, 5, 6] A686 A1387 from Md.tr hA689 (show Md [1, 2, 3, 4, 5, 6] A689 A1387 from (Md.tr (Md.tr Md.rf hA1385 rfl) hA1387 rfl)) rfl) hV1387 (by omega) (by omega) (by omega) (by omega))
  have k1390 : (0 : Int32).toInt = 0 := rfl
  obtain ⟨n1389, n1389a, n1389b⟩ : ∃ n : Nat, 401 - 0 < (n : Int) ∧ 0 < n := ⟨((401 - 0 : Int)).toNat + 1, by omega, by omega⟩
  exact lp1338 n1389 0 I686 A686 Md.rf Md.rf hV686 (by omega) (by omega) n1389a n1389b
def wo_k164_X4_open : List Cond := [Cond.fieldLink RX4 18 "WarpDesk$Queries" "size" "I", Cond.fieldLink RX4 15 "WarpDesk$Queries" "lengths" "[I"]
def wz_k164_X4_open : List Cond := .code yX4_open cX4_open 1 none :: (wo_k164_X4_open ++ (wsX40 ++ ([] : List Cond)))
theorem zg_k164_X4_open : ∀ w ∈ wz_k164_X4_open, goodWord w = true := zg_cons rfl (zg_app (by decide +kernel) (zg_app zgU_wsX40 zg_nil))
theorem zi_k164_X4_open : ∀ w ∈ wz_k164_X4_open, w ∈ lw_tbl := zi_cons zw_717 (zi_app (zi_cons zw_219 (zi_cons zw_218 zi_nil)) (zi_app inX4 zi_nil))
set_option maxHeartbeats 4000000 in
set_option maxRecDepth 100000 in
theorem k164_X4_open (l : Launch) (D : va_G) (zt : Nat × Nat × Nat × (Nat → Nat) × (Nat → Nat)) (q : Nat → Nat) (d : Nat → ClassId) (I : Nat → Int32) (A : Nat → Nat → Int32) (hIv : IvX I A) : GM l D zt (tyX d) yX4_open wz_k164_X4_open ({ frames := 0, cells := 0, slots := 0, locals := 0 } : Room) [.ref (q 15)] (wX q d I A) (fun v _ w' => ∃ (I' : Nat → Int32) (A' : Nat → Nat → Int32), Md [19] I I' ∧ Md [9] A A' ∧ IvX I' A' ∧ v = none ∧ w' = wX q d I' A') 0 0 := by
  refine GM.of (cc := cX4_open) (maxL := 1) (ret := none) (own := RX4) (lv := [(0, .ref (q 15))]) (by decide) rfl rfl (Nat.le_of_ble_eq_true rfl) rfl (fun κ sz hk hR hN => ?_)
  have hin4 : ∀ w ∈ u_ws RX4 TX4 3, w ∈ wz_k164_X4_open := fun w h => (List.mem_cons_of_mem _ (List.mem_append_right _ (List.mem_append_left _ h)))
  refine g_aload_n hk dX4_open_0 rfl ?_
  refine gX_i19 (v := (I 19)) hk hin4 (List.mem_cons_of_mem _ (List.mem_append_left _ (List.mem_of_getElem? (i := 0) rfl))) dX4_open_1 rfl ?_
  have b1403l := Int32.le_toInt (I 19)
  have b1403h := Int32.toInt_lt (I 19)
  refine g_if_lt (tgt := 35) (a := (I 19).toInt) hk dX4_open_4 (by decide) rfl (fun c1404 => ?_) (fun c1404 => ?_)
  · skip
    exact g_vret hk hR ⟨I, A, (show Md [19] I I from Md.rf), (show Md [9] A A from Md.rf), hIv, rfl, rfl⟩ dX4_open_35
  · skip
    refine g_aload_n hk dX4_open_7 rfl ?_
    refine gX_i19 (v := (I 19)) hk hin4 (List.mem_cons_of_mem _ (List.mem_append_left _ (List.mem_of_getElem? (i := 0) rfl))) dX4_open_8 rfl ?_
    refine g_iconst (v := 5) hk dX4_open_11 (by decide) ?_
    refine g_icmp_ge (tgt := 35) (a := (I 19).toInt) (b := 5) hk dX4_open_12 (by decide) rfl rfl (fun c1405 => ?_) (fun c1405 => ?_)
    · skip
      exact g_vret hk hR ⟨I, A, (show Md [19] I I from Md.rf), (show Md [9] A A from Md.rf), hIv, rfl, rfl⟩ dX4_open_35
    · skip
      refine g_aload_n hk dX4_open_15 rfl ?_
      refine gX_r15_1 hk hin4 (List.mem_cons_of_mem _ (List.mem_append_left _ (List.mem_of_getElem? (i := 1) rfl))) dX4_open_16 ?_
      refine g_aload_n hk dX4_open_19 rfl ?_
      refine gX_i19 (v := (I 19)) hk hin4 (List.mem_cons_of_mem _ (List.mem_append_left _ (List.mem_of_getElem? (i := 0) rfl))) dX4_open_20 rfl ?_
      refine g_iconst (v := 0) hk dX4_open_23 (by decide) ?_
      have k1406 : (0 : Int32).toInt = 0 := rfl
      refine sX_9 (j := (I 19).toNatClampNeg) hk (vp_in_iff.mpr ⟨by omega, by omega⟩) rfl dX4_open_24 ?_
      have hA1407 : ∀ j, 0 ≤ ((up3 A 9 ((I 19).toNatClampNeg) 0) 9 j).toInt ∧ ((up3 A 9 ((I 19).toNatClampNeg) 0) 9 j).toInt ≤ 16 := ai_st ((IvX_a9 hIv)) ⟨by omega, by omega⟩
      refine g_aload_n hk dX4_open_25 rfl ?_
      refine g_dup hk dX4_open_26 rfl ?_
      refine gX_i19 (v := (I 19)) hk hin4 (List.mem_cons_of_mem _ (List.mem_append_left _ (List.mem_of_getElem? (i := 0) rfl))) dX4_open_27 rfl ?_
      refine g_iconst (v := 1) hk dX4_open_30 (by decide) ?_
      refine g_iadd hk dX4_open_31 ?_
      refine g_topi (fun y1408 ey1408 => ?_)
      have hy1408 : y1408.toInt = (I 19).toInt + 1 := i32_add ey1408 rfl rfl (by omega) (by omega)
      refine pX_i19 hk hin4 (List.mem_cons_of_mem _ (List.mem_append_left _ (List.mem_of_getElem? (i := 0) rfl))) dX4_open_32 ?_
      exact g_vret hk hR ⟨(upd I 19 y1408), (up3 A 9 ((I 19).toNatClampNeg) 0), (show Md [19] I (upd I 19 y1408) from (Md.up Md.rf rfl)), (show Md [9] A (up3 A 9 ((I 19).toNatClampNeg) 0) from (Md.up3 Md.rf rfl)), ⟨(IvX_f0 (I := I) (A := A) hIv), (IvX_f18 (I := I) (A := A) hIv), (IvX_f30 (I := I) (A := A) hIv), (IvX_f31 (I := I) (A := A) hIv), (IvX_a4 (I := I) (A := A) hIv), hA1407, trivial⟩, rfl, rfl⟩ dX4_open_35
def wo_k165_X4_lengthOf : List Cond := [Cond.methodLink RX4 22 yX4_has, Cond.instanceMethod yX4_has, Cond.selects RX4 yX4_has yX4_has, Cond.initialized RX4, Cond.fieldLink RX4 15 "WarpDesk$Queries" "lengths" "[I"]
def wz_k165_X4_lengthOf : List Cond := .code yX4_lengthOf cX4_lengthOf 2 (some .int) :: (wo_k165_X4_lengthOf ++ (wsX40 ++ (wz_k155_X4_has ++ ([] : List Cond))))
theorem zg_k165_X4_lengthOf : ∀ w ∈ wz_k165_X4_lengthOf, goodWord w = true := zg_cons rfl (zg_app (by decide +kernel) (zg_app zgU_wsX40 (zg_app zg_k155_X4_has zg_nil)))
theorem zi_k165_X4_lengthOf : ∀ w ∈ wz_k165_X4_lengthOf, w ∈ lw_tbl := zi_cons zw_759 (zi_app (zi_cons zw_746 (zi_cons zw_747 (zi_cons zw_748 (zi_cons zw_108 (zi_cons zw_218 zi_nil))))) (zi_app inX4 (zi_app zi_k155_X4_has zi_nil)))
set_option maxHeartbeats 4000000 in
set_option maxRecDepth 100000 in
theorem k165_X4_lengthOf (l : Launch) (D : va_G) (zt : Nat × Nat × Nat × (Nat → Nat) × (Nat → Nat)) (q : Nat → Nat) (d : Nat → ClassId) (I : Nat → Int32) (A : Nat → Nat → Int32) (z1 : Int32) (hIv : IvX I A) : GM l D zt (tyX d) yX4_lengthOf wz_k165_X4_lengthOf ({ frames := 1, cells := 0, slots := 0, locals := 21 } : Room) [.ref (q 8), .int z1] (wX q d I A) (fun v _ w' => (v = some (.int 0) ∧ w' = wX q d I A) ∨ (∃ y0 : Int32, (¬ (z1.toInt < 0)) ∧ (¬ (5 ≤ z1.toInt)) ∧ (0 ≤ z1.toInt) ∧ (z1.toInt ≤ 4) ∧ (0 ≤ z1.toInt) ∧ (z1.toInt ≤ 4) ∧ (0 ≤ y0.toInt) ∧ (y0.toInt ≤ 16) ∧ v = some (.int y0) ∧ w' = wX q d I A)) 0 0 := by
  refine GM.of (cc := cX4_lengthOf) (maxL := 2) (ret := (some .int)) (own := RX4) (lv := [(0, .ref (q 8)), (1, .int z1)]) (by decide) rfl rfl (Nat.le_of_ble_eq_true rfl) rfl (fun κ sz hk hR hN => ?_)
  have hin4 : ∀ w ∈ u_ws RX4 TX4 3, w ∈ wz_k165_X4_lengthOf := fun w h => (List.mem_cons_of_mem _ (List.mem_append_right _ (List.mem_append_left _ h)))
  refine g_aload_n hk dX4_lengthOf_0 rfl ?_
  refine g_iload_n hk dX4_lengthOf_1 rfl ?_
  refine g_callV (n := 1) hk (k155_X4_has l D zt q d I A z1 hIv) (SP.same _) (fun _ h => h) (gi_V (List.mem_cons_of_mem _ (List.mem_append_left _ (List.mem_of_getElem? (i := 0) rfl))) (List.mem_cons_of_mem _ (List.mem_append_left _ (List.mem_of_getElem? (i := 1) rfl))) (List.mem_cons_of_mem _ (List.mem_append_left _ (List.mem_of_getElem? (i := 2) rfl))) (List.mem_cons_of_mem _ (List.mem_append_left _ (List.mem_of_getElem? (i := 3) rfl))) (gi_sub (fun w h => (List.mem_cons_of_mem _ (List.mem_append_right _ (List.mem_append_right _ (List.mem_append_left _ h))))) zg_k155_X4_has)) rfl rfl rfl (by decide +kernel) ⟨Nat.le_of_ble_eq_true rfl, Nat.le_of_ble_eq_true rfl⟩ 8 rfl rfl rfl rfl (Nat.le_of_ble_eq_true rfl) ⟨Nat.le_of_ble_eq_true rfl, Nat.le_of_ble_eq_true rfl⟩ dX4_lengthOf_2 (fun v ty' w' hp hk' => ?_)
  rcases hp with ⟨rfl, rfl⟩ | ⟨c1417, c1418, c1419, c1420, rfl, rfl⟩
  · skip
    show GW κ 2 0 0 (wX q d I A) 5 [(0, .ref (q 8)), (1, .int z1)] [.int 0]
    refine g_if_eq (tgt := 17) (a := 0) hk dX4_lengthOf_5 (by decide) rfl (fun _ => ?_) (fun z9 => absurd (show (0 : Int) = (0 : Int) from by decide) z9)
    refine g_iconst (v := 0) hk dX4_lengthOf_17 (by decide) ?_
    exact g_iret hk hR rfl (Or.inl ⟨rfl, rfl⟩) dX4_lengthOf_18
  · skip
    show GW κ 2 0 0 (wX q d I A) 5 [(0, .ref (q 8)), (1, .int z1)] [.int 1]
    refine g_if_eq (tgt := 17) (a := 1) hk dX4_lengthOf_5 (by decide) rfl (fun z9 => absurd z9 (show ¬ ((1 : Int) = (0 : Int)) from by decide)) (fun _ => ?_)
    refine g_aload_n hk dX4_lengthOf_8 rfl ?_
    refine gX_r8_1 hk hin4 (List.mem_cons_of_mem _ (List.mem_append_left _ (List.mem_of_getElem? (i := 4) rfl))) dX4_lengthOf_9 ?_
    refine g_iload_n hk dX4_lengthOf_12 rfl ?_
    refine lX_4 (v := (A 4 z1.toNatClampNeg)) hk (vp_in_iff.mpr ⟨by omega, by omega⟩) rfl dX4_lengthOf_13 ?_
    have f1422 := IvX_a4 hIv (z1.toNatClampNeg)
    refine g_goto (tgt := 18) hk dX4_lengthOf_14 (by decide) ?_
    exact g_iret hk hR rfl (Or.inr (⟨(A 4 z1.toNatClampNeg), c1417, c1418, c1419, c1420, (by omega), (by omega), (by omega), (by omega), rfl, rfl⟩)) dX4_lengthOf_18
def wo_k166_X4_valueAt : List Cond := [Cond.methodLink RX4 26 yX4_lengthOf, Cond.instanceMethod yX4_lengthOf, Cond.selects RX4 yX4_lengthOf yX4_lengthOf, Cond.initialized RX4, Cond.fieldLink RX4 9 "WarpDesk$Queries" "readings" "[I"]
def wz_k166_X4_valueAt : List Cond := .code yX4_valueAt cX4_valueAt 3 (some .int) :: (wo_k166_X4_valueAt ++ (wsX40 ++ (wz_k165_X4_lengthOf ++ ([] : List Cond))))
theorem zg_k166_X4_valueAt : ∀ w ∈ wz_k166_X4_valueAt, goodWord w = true := zg_cons rfl (zg_app (by decide +kernel) (zg_app zgU_wsX40 (zg_app zg_k165_X4_lengthOf zg_nil)))
theorem zi_k166_X4_valueAt : ∀ w ∈ wz_k166_X4_valueAt, w ∈ lw_tbl := zi_cons zw_763 (zi_app (zi_cons zw_756 (zi_cons zw_757 (zi_cons zw_758 (zi_cons zw_108 (zi_cons zw_217 zi_nil))))) (zi_app inX4 (zi_app zi_k165_X4_lengthOf zi_nil)))
set_option maxHeartbeats 4000000 in
set_option maxRecDepth 100000 in
theorem k166_X4_valueAt (l : Launch) (D : va_G) (zt : Nat × Nat × Nat × (Nat → Nat) × (Nat → Nat)) (q : Nat → Nat) (d : Nat → ClassId) (I : Nat → Int32) (A : Nat → Nat → Int32) (z1 : Int32) (z2 : Int32) (hIv : IvX I A) : GM l D zt (tyX d) yX4_valueAt wz_k166_X4_valueAt ({ frames := 2, cells := 0, slots := 0, locals := 42 } : Room) [.ref (q 8), .int z1, .int z2] (wX q d I A) (fun v _ w' => ∃ y0 : Int32, v = some (.int y0) ∧ w' = wX q d I A) 0 0 := by
  refine GM.of (cc := cX4_valueAt) (maxL := 3) (ret := (some .int)) (own := RX4) (lv := [(0, .ref (q 8)), (1, .int z1), (2, .int z2)]) (by decide) rfl rfl (Nat.le_of_ble_eq_true rfl) rfl (fun κ sz hk hR hN => ?_)
  have hin4 : ∀ w ∈ u_ws RX4 TX4 3, w ∈ wz_k166_X4_valueAt := fun w h => (List.mem_cons_of_mem _ (List.mem_append_right _ (List.mem_append_left _ h)))
  refine g_iload_n hk dX4_valueAt_0 rfl ?_
  have b1435l := Int32.le_toInt z2
  have b1435h := Int32.toInt_lt z2
  refine g_if_lt (tgt := 33) (a := z2.toInt) hk dX4_valueAt_1 (by decide) rfl (fun c1436 => ?_) (fun c1436 => ?_)
  · skip
    refine g_sipush (v := (-1000)) hk dX4_valueAt_33 (by decide) ?_
    exact g_iret hk hR rfl ⟨(-1000), rfl, rfl⟩ dX4_valueAt_36
  · skip
    refine g_iload_n hk dX4_valueAt_4 rfl ?_
    refine g_bipush (v := 16) hk dX4_valueAt_5 (by decide) ?_
    refine g_icmp_ge (tgt := 33) (a := z2.toInt) (b := 16) hk dX4_valueAt_7 (by decide) rfl rfl (fun c1437 => ?_) (fun c1437 => ?_)
    · skip
      refine g_sipush (v := (-1000)) hk dX4_valueAt_33 (by decide) ?_
      exact g_iret hk hR rfl ⟨(-1000), rfl, rfl⟩ dX4_valueAt_36
    · skip
      refine g_iload_n hk dX4_valueAt_10 rfl ?_
      refine g_aload_n hk dX4_valueAt_11 rfl ?_
      refine g_iload_n hk dX4_valueAt_12 rfl ?_
      refine g_callV (n := 1) hk (k165_X4_lengthOf l D zt q d I A z1 hIv) (SP.same _) (fun _ h => h) (gi_V (List.mem_cons_of_mem _ (List.mem_append_left _ (List.mem_of_getElem? (i := 0) rfl))) (List.mem_cons_of_mem _ (List.mem_append_left _ (List.mem_of_getElem? (i := 1) rfl))) (List.mem_cons_of_mem _ (List.mem_append_left _ (List.mem_of_getElem? (i := 2) rfl))) (List.mem_cons_of_mem _ (List.mem_append_left _ (List.mem_of_getElem? (i := 3) rfl))) (gi_sub (fun w h => (List.mem_cons_of_mem _ (List.mem_append_right _ (List.mem_append_right _ (List.mem_append_left _ h))))) zg_k165_X4_lengthOf)) rfl rfl rfl (by decide +kernel) ⟨Nat.le_of_ble_eq_true rfl, Nat.le_of_ble_eq_true rfl⟩ 8 rfl rfl rfl rfl (Nat.le_of_ble_eq_true rfl) ⟨Nat.le_of_ble_eq_true rfl, Nat.le_of_ble_eq_true rfl⟩ dX4_valueAt_13 (fun v ty' w' hp hk' => ?_)
      rcases hp with ⟨rfl, rfl⟩ | ⟨y1445, c1439, c1440, c1441, c1442, c1443, c1444, c1446, c1447, rfl, rfl⟩
      · skip
        show GW κ 3 0 0 (wX q d I A) 16 [(0, .ref (q 8)), (1, .int z1), (2, .int z2)] [.int 0, .int z2]
        refine g_icmp_ge (tgt := 33) (a := z2.toInt) (b := 0) hk dX4_valueAt_16 (by decide) rfl rfl (fun _ => ?_) (fun z9 => absurd (show 0 ≤ z2.toInt from by omega) z9)
        refine g_sipush (v := (-1000)) hk dX4_valueAt_33 (by decide) ?_
        exact g_iret hk hR rfl ⟨(-1000), rfl, rfl⟩ dX4_valueAt_36
      · skip
        show GW κ 3 0 0 (wX q d I A) 16 [(0, .ref (q 8)), (1, .int z1), (2, .int z2)] [.int y1445, .int z2]
        refine g_icmp_ge (tgt := 33) (a := z2.toInt) (b := y1445.toInt) hk dX4_valueAt_16 (by decide) rfl rfl (fun c1448 => ?_) (fun c1448 => ?_)
        · skip
          refine g_sipush (v := (-1000)) hk dX4_valueAt_33 (by decide) ?_
          exact g_iret hk hR rfl ⟨(-1000), rfl, rfl⟩ dX4_valueAt_36
        · skip
          refine g_aload_n hk dX4_valueAt_19 rfl ?_
          refine gX_r8_0 hk hin4 (List.mem_cons_of_mem _ (List.mem_append_left _ (List.mem_of_getElem? (i := 4) rfl))) dX4_valueAt_20 ?_
          refine g_iload_n hk dX4_valueAt_23 rfl ?_
          refine g_bipush (v := 16) hk dX4_valueAt_24 (by decide) ?_
          refine g_imul hk dX4_valueAt_26 ?_
          refine g_topi (fun y1449 ey1449 => ?_)
          have hy1449 : y1449.toInt = z1.toInt * 16 := i32_mul ey1449 rfl rfl (by omega) (by omega)
          refine g_iload_n hk dX4_valueAt_27 rfl ?_
          refine g_iadd hk dX4_valueAt_28 ?_
          refine g_topi (fun y1450 ey1450 => ?_)
          have hy1450 : y1450.toInt = y1449.toInt + z2.toInt := i32_add ey1450 rfl rfl (by omega) (by omega)
          refine lX_3 (v := (A 3 y1450.toNatClampNeg)) hk (vp_in_iff.mpr ⟨by omega, by omega⟩) rfl dX4_valueAt_29 ?_
          refine g_goto (tgt := 36) hk dX4_valueAt_30 (by decide) ?_
          have b1451l := Int32.le_toInt (A 3 y1450.toNatClampNeg)
          have b1451h := Int32.toInt_lt (A 3 y1450.toNatClampNeg)
          exact g_iret hk hR rfl ⟨(A 3 y1450.toNatClampNeg), rfl, rfl⟩ dX4_valueAt_36
def wo_k168_X4_has : List Cond := [Cond.fieldLink RX4 18 "WarpDesk$Queries" "size" "I"]
def wz_k168_X4_has : List Cond := .code yX4_has cX4_has 2 (some .boolean) :: (wo_k168_X4_has ++ (wsX40 ++ ([] : List Cond)))
theorem zg_k168_X4_has : ∀ w ∈ wz_k168_X4_has, goodWord w = true := zg_cons rfl (zg_app (by decide +kernel) (zg_app zgU_wsX40 zg_nil))
theorem zi_k168_X4_has : ∀ w ∈ wz_k168_X4_has, w ∈ lw_tbl := zi_cons zw_749 (zi_app (zi_cons zw_219 zi_nil) (zi_app inX4 zi_nil))
set_option maxHeartbeats 4000000 in
set_option maxRecDepth 100000 in
theorem k168_X4_has (l : Launch) (D : va_G) (zt : Nat × Nat × Nat × (Nat → Nat) × (Nat → Nat)) (q : Nat → Nat) (d : Nat → ClassId) (I : Nat → Int32) (A : Nat → Nat → Int32) (z1 : Int32) (hIv : IvX I A) : GM l D zt (tyX d) yX4_has wz_k168_X4_has ({ frames := 0, cells := 0, slots := 0, locals := 0 } : Room) [.ref (q 15), .int z1] (wX q d I A) (fun v _ w' => (v = some (.int 0) ∧ w' = wX q d I A) ∨ ((¬ (z1.toInt < 0)) ∧ (¬ (5 ≤ z1.toInt)) ∧ (0 ≤ z1.toInt) ∧ (z1.toInt ≤ 4) ∧ v = some (.int 1) ∧ w' = wX q d I A)) 0 0 := by
  refine GM.of (cc := cX4_has) (maxL := 2) (ret := (some .boolean)) (own := RX4) (lv := [(0, .ref (q 15)), (1, .int z1)]) (by decide) rfl rfl (Nat.le_of_ble_eq_true rfl) rfl (fun κ sz hk hR hN => ?_)
  have hin4 : ∀ w ∈ u_ws RX4 TX4 3, w ∈ wz_k168_X4_has := fun w h => (List.mem_cons_of_mem _ (List.mem_append_right _ (List.mem_append_left _ h)))
  refine g_iload_n hk dX4_has_0 rfl ?_
  have b1455l := Int32.le_toInt z1
  have b1455h := Int32.toInt_lt z1
  refine g_if_lt (tgt := 21) (a := z1.toInt) hk dX4_has_1 (by decide) rfl (fun c1456 => ?_) (fun c1456 => ?_)
  · skip
    refine g_iconst (v := 0) hk dX4_has_21 (by decide) ?_
    exact g_iret hk hR rfl (Or.inl ⟨rfl, rfl⟩) dX4_has_22
  · skip
    refine g_iload_n hk dX4_has_4 rfl ?_
    refine g_aload_n hk dX4_has_5 rfl ?_
    refine gX_i19 (v := (I 19)) hk hin4 (List.mem_cons_of_mem _ (List.mem_append_left _ (List.mem_of_getElem? (i := 0) rfl))) dX4_has_6 rfl ?_
    have b1457l := Int32.le_toInt (I 19)
    have b1457h := Int32.toInt_lt (I 19)
    refine g_icmp_ge (tgt := 21) (a := z1.toInt) (b := (I 19).toInt) hk dX4_has_9 (by decide) rfl rfl (fun c1458 => ?_) (fun c1458 => ?_)
    · skip
      refine g_iconst (v := 0) hk dX4_has_21 (by decide) ?_
      exact g_iret hk hR rfl (Or.inl ⟨rfl, rfl⟩) dX4_has_22
    · skip
      refine g_iload_n hk dX4_has_12 rfl ?_
      refine g_iconst (v := 5) hk dX4_has_13 (by decide) ?_
      refine g_icmp_ge (tgt := 21) (a := z1.toInt) (b := 5) hk dX4_has_14 (by decide) rfl rfl (fun c1459 => ?_) (fun c1459 => ?_)
      · skip
        refine g_iconst (v := 0) hk dX4_has_21 (by decide) ?_
        exact g_iret hk hR rfl (Or.inl ⟨rfl, rfl⟩) dX4_has_22
      · skip
        refine g_iconst (v := 1) hk dX4_has_17 (by decide) ?_
        refine g_goto (tgt := 22) hk dX4_has_18 (by decide) ?_
        exact g_iret hk hR rfl (Or.inr (⟨c1456, c1459, (by omega), (by omega), rfl, rfl⟩)) dX4_has_22
def wo_k167_X4_append : List Cond := [Cond.fieldLink RX4 18 "WarpDesk$Queries" "size" "I", Cond.methodLink RX4 22 yX4_has, Cond.instanceMethod yX4_has, Cond.selects RX4 yX4_has yX4_has, Cond.initialized RX4, Cond.fieldLink RX4 15 "WarpDesk$Queries" "lengths" "[I", Cond.fieldLink RX4 9 "WarpDesk$Queries" "readings" "[I"]
def wz_k167_X4_append : List Cond := .code yX4_append cX4_append 3 none :: (wo_k167_X4_append ++ (wsX40 ++ (wz_k168_X4_has ++ ([] : List Cond))))
theorem zg_k167_X4_append : ∀ w ∈ wz_k167_X4_append, goodWord w = true := zg_cons rfl (zg_app (by decide +kernel) (zg_app zgU_wsX40 (zg_app zg_k168_X4_has zg_nil)))
theorem zi_k167_X4_append : ∀ w ∈ wz_k167_X4_append, w ∈ lw_tbl := zi_cons zw_745 (zi_app (zi_cons zw_219 (zi_cons zw_746 (zi_cons zw_747 (zi_cons zw_748 (zi_cons zw_108 (zi_cons zw_218 (zi_cons zw_217 zi_nil))))))) (zi_app inX4 (zi_app zi_k168_X4_has zi_nil)))
set_option maxHeartbeats 4000000 in
set_option maxRecDepth 100000 in
theorem k167_X4_append (l : Launch) (D : va_G) (zt : Nat × Nat × Nat × (Nat → Nat) × (Nat → Nat)) (q : Nat → Nat) (d : Nat → ClassId) (I : Nat → Int32) (A : Nat → Nat → Int32) (z1 : Int32) (hIv : IvX I A) : GM l D zt (tyX d) yX4_append wz_k167_X4_append ({ frames := 1, cells := 0, slots := 0, locals := 21 } : Room) [.ref (q 15), .int z1] (wX q d I A) (fun v _ w' => ∃ (I' : Nat → Int32) (A' : Nat → Nat → Int32), Md [] I I' ∧ Md [8, 9] A A' ∧ IvX I' A' ∧ v = none ∧ w' = wX q d I' A') 0 0 := by
  refine GM.of (cc := cX4_append) (maxL := 3) (ret := none) (own := RX4) (lv := [(0, .ref (q 15)), (1, .int z1)]) (by decide) rfl rfl (Nat.le_of_ble_eq_true rfl) rfl (fun κ sz hk hR hN => ?_)
  have hin4 : ∀ w ∈ u_ws RX4 TX4 3, w ∈ wz_k167_X4_append := fun w h => (List.mem_cons_of_mem _ (List.mem_append_right _ (List.mem_append_left _ h)))
  refine g_aload_n hk dX4_append_0 rfl ?_
  refine gX_i19 (v := (I 19)) hk hin4 (List.mem_cons_of_mem _ (List.mem_append_left _ (List.mem_of_getElem? (i := 0) rfl))) dX4_append_1 rfl ?_
  refine g_iconst (v := 1) hk dX4_append_4 (by decide) ?_
  have b1453l := Int32.le_toInt (I 19)
  have b1453h := Int32.toInt_lt (I 19)
  refine g_isub hk dX4_append_5 ?_
  refine g_topi (fun y1454 ey1454 => ?_)
  have hy1454 := i32_sub0 ey1454
  refine g_istore_n (lv' := [(2, .int y1454), (0, .ref (q 15)), (1, .int z1)]) hk dX4_append_6 (by decide) rfl ?_
  refine g_aload_n hk dX4_append_7 rfl ?_
  refine g_iload_n hk dX4_append_8 rfl ?_
  refine g_callV (n := 1) hk (k168_X4_has l D zt q d I A y1454 hIv) (SP.same _) (fun _ h => h) (gi_V (List.mem_cons_of_mem _ (List.mem_append_left _ (List.mem_of_getElem? (i := 1) rfl))) (List.mem_cons_of_mem _ (List.mem_append_left _ (List.mem_of_getElem? (i := 2) rfl))) (List.mem_cons_of_mem _ (List.mem_append_left _ (List.mem_of_getElem? (i := 3) rfl))) (List.mem_cons_of_mem _ (List.mem_append_left _ (List.mem_of_getElem? (i := 4) rfl))) (gi_sub (fun w h => (List.mem_cons_of_mem _ (List.mem_append_right _ (List.mem_append_right _ (List.mem_append_left _ h))))) zg_k168_X4_has)) rfl rfl rfl (by decide +kernel) ⟨Nat.le_of_ble_eq_true rfl, Nat.le_of_ble_eq_true rfl⟩ 15 rfl rfl rfl rfl (Nat.le_of_ble_eq_true rfl) ⟨Nat.le_of_ble_eq_true rfl, Nat.le_of_ble_eq_true rfl⟩ dX4_append_9 (fun v ty' w' hp hk' => ?_)
  rcases hp with ⟨rfl, rfl⟩ | ⟨c1461, c1462, c1463, c1464, rfl, rfl⟩
  · skip
    show GW κ 3 0 0 (wX q d I A) 12 [(2, .int y1454), (0, .ref (q 15)), (1, .int z1)] [.int 0]
    refine g_if_eq (tgt := 53) (a := 0) hk dX4_append_12 (by decide) rfl (fun _ => ?_) (fun z9 => absurd (show (0 : Int) = (0 : Int) from by decide) z9)
    exact g_vret hk hR ⟨I, A, (show Md [] I I from Md.rf), (show Md [8, 9] A A from Md.rf), hIv, rfl, rfl⟩ dX4_append_53
  · skip
    show GW κ 3 0 0 (wX q d I A) 12 [(2, .int y1454), (0, .ref (q 15)), (1, .int z1)] [.int 1]
    refine g_if_eq (tgt := 53) (a := 1) hk dX4_append_12 (by decide) rfl (fun z9 => absurd z9 (show ¬ ((1 : Int) = (0 : Int)) from by decide)) (fun _ => ?_)
    refine g_aload_n hk dX4_append_15 rfl ?_
    refine gX_r15_1 hk hin4 (List.mem_cons_of_mem _ (List.mem_append_left _ (List.mem_of_getElem? (i := 5) rfl))) dX4_append_16 ?_
    refine g_iload_n hk dX4_append_19 rfl ?_
    refine lX_9 (v := (A 9 y1454.toNatClampNeg)) hk (vp_in_iff.mpr ⟨by omega, by omega⟩) rfl dX4_append_20 ?_
    have f1466 := IvX_a9 hIv (y1454.toNatClampNeg)
    refine g_bipush (v := 16) hk dX4_append_21 (by decide) ?_
    refine g_icmp_ge (tgt := 53) (a := (A 9 y1454.toNatClampNeg).toInt) (b := 16) hk dX4_append_23 (by decide) rfl rfl (fun c1467 => ?_) (fun c1467 => ?_)
    · skip
      exact g_vret hk hR ⟨I, A, (show Md [] I I from Md.rf), (show Md [8, 9] A A from Md.rf), hIv, rfl, rfl⟩ dX4_append_53
    · skip
      refine g_aload_n hk dX4_append_26 rfl ?_
      refine gX_r15_0 hk hin4 (List.mem_cons_of_mem _ (List.mem_append_left _ (List.mem_of_getElem? (i := 6) rfl))) dX4_append_27 ?_
      refine g_iload_n hk dX4_append_30 rfl ?_
      refine g_bipush (v := 16) hk dX4_append_31 (by decide) ?_
      refine g_imul hk dX4_append_33 ?_
      refine g_topi (fun y1468 ey1468 => ?_)
      have hy1468 : y1468.toInt = y1454.toInt * 16 := i32_mul ey1468 rfl rfl (by omega) (by omega)
      refine g_aload_n hk dX4_append_34 rfl ?_
      refine gX_r15_1 hk hin4 (List.mem_cons_of_mem _ (List.mem_append_left _ (List.mem_of_getElem? (i := 5) rfl))) dX4_append_35 ?_
      refine g_iload_n hk dX4_append_38 rfl ?_
      refine lX_9 (v := (A 9 y1454.toNatClampNeg)) hk (vp_in_iff.mpr ⟨by omega, by omega⟩) rfl dX4_append_39 ?_
      refine g_iadd hk dX4_append_40 ?_
      refine g_topi (fun y1469 ey1469 => ?_)
      have hy1469 : y1469.toInt = y1468.toInt + (A 9 y1454.toNatClampNeg).toInt := i32_add ey1469 rfl rfl (by omega) (by omega)
      refine g_iload_n hk dX4_append_41 rfl ?_
      refine sX_8 (j := y1469.toNatClampNeg) hk (vp_in_iff.mpr ⟨by omega, by omega⟩) rfl dX4_append_42 ?_
      refine g_aload_n hk dX4_append_43 rfl ?_
      refine gX_r15_1 hk hin4 (List.mem_cons_of_mem _ (List.mem_append_left _ (List.mem_of_getElem? (i := 5) rfl))) dX4_append_44 ?_
      refine g_iload_n hk dX4_append_47 rfl ?_
      refine g_dup2 hk dX4_append_48 rfl rfl ?_
      refine lX_9 (v := (A 9 y1454.toNatClampNeg)) hk (vp_in_iff.mpr ⟨by omega, by omega⟩) rfl dX4_append_49 ?_
      refine g_iconst (v := 1) hk dX4_append_50 (by decide) ?_
      refine g_iadd hk dX4_append_51 ?_
      refine g_topi (fun y1470 ey1470 => ?_)
      have hy1470 : y1470.toInt = (A 9 y1454.toNatClampNeg).toInt + 1 := i32_add ey1470 rfl rfl (by omega) (by omega)
      refine sX_9 (j := y1454.toNatClampNeg) hk (vp_in_iff.mpr ⟨by omega, by omega⟩) rfl dX4_append_52 ?_
      have hA1471 : ∀ j, 0 ≤ ((up3 (up3 A 8 (y1469.toNatClampNeg) z1) 9 (y1454.toNatClampNeg) y1470) 9 j).toInt ∧ ((up3 (up3 A 8 (y1469.toNatClampNeg) z1) 9 (y1454.toNatClampNeg) y1470) 9 j).toInt ≤ 16 := ai_st ((IvX_a9 hIv)) ⟨by omega, by omega⟩
      exact g_vret hk hR ⟨I, (up3 (up3 A 8 (y1469.toNatClampNeg) z1) 9 (y1454.toNatClampNeg) y1470), (show Md [] I I from Md.rf), (show Md [8, 9] A (up3 (up3 A 8 (y1469.toNatClampNeg) z1) 9 (y1454.toNatClampNeg) y1470) from (Md.up3 (Md.up3 Md.rf rfl) rfl)), ⟨(IvX_f0 (I := I) (A := A) hIv), (IvX_f18 (I := I) (A := A) hIv), (IvX_f30 (I := I) (A := A) hIv), (IvX_f31 (I := I) (A := A) hIv), (IvX_a4 (I := I) (A := A) hIv), hA1471, trivial⟩, rfl, rfl⟩ dX4_append_53
def wo_k163_X4_takeFrom : List Cond := [Cond.fieldLink RX4 18 "WarpDesk$Queries" "size" "I", Cond.methodLink RX4 30 yX4_open, Cond.instanceMethod yX4_open, Cond.selects RX4 yX4_open yX4_open, Cond.initialized RX4, Cond.methodLink RX4 26 yX4_lengthOf, Cond.instanceMethod yX4_lengthOf, Cond.selects RX4 yX4_lengthOf yX4_lengthOf, Cond.methodLink RX4 33 yX4_valueAt, Cond.instanceMethod yX4_valueAt, Cond.selects RX4 yX4_valueAt yX4_valueAt, Cond.methodLink RX4 37 yX4_append, Cond.instanceMethod yX4_append, Cond.selects RX4 yX4_append yX4_append]
def wz_k163_X4_takeFrom : List Cond := .code yX4_takeFrom cX4_takeFrom 4 none :: (wo_k163_X4_takeFrom ++ (wsX40 ++ (wz_k164_X4_open ++ (wz_k165_X4_lengthOf ++ (wz_k166_X4_valueAt ++ (wz_k167_X4_append ++ ([] : List Cond)))))))
theorem zg_k163_X4_takeFrom : ∀ w ∈ wz_k163_X4_takeFrom, goodWord w = true := zg_cons rfl (zg_app (by decide +kernel) (zg_app zgU_wsX40 (zg_app zg_k164_X4_open (zg_app zg_k165_X4_lengthOf (zg_app zg_k166_X4_valueAt (zg_app zg_k167_X4_append zg_nil))))))
theorem zi_k163_X4_takeFrom : ∀ w ∈ wz_k163_X4_takeFrom, w ∈ lw_tbl := zi_cons zw_754 (zi_app (zi_cons zw_219 (zi_cons zw_755 (zi_cons zw_715 (zi_cons zw_716 (zi_cons zw_108 (zi_cons zw_756 (zi_cons zw_757 (zi_cons zw_758 (zi_cons zw_760 (zi_cons zw_761 (zi_cons zw_762 (zi_cons zw_764 (zi_cons zw_743 (zi_cons zw_744 zi_nil)))))))))))))) (zi_app inX4 (zi_app zi_k164_X4_open (zi_app zi_k165_X4_lengthOf (zi_app zi_k166_X4_valueAt (zi_app zi_k167_X4_append zi_nil))))))
set_option maxHeartbeats 4000000 in
set_option maxRecDepth 100000 in
theorem k163_X4_takeFrom (l : Launch) (D : va_G) (zt : Nat × Nat × Nat × (Nat → Nat) × (Nat → Nat)) (q : Nat → Nat) (d : Nat → ClassId) (I : Nat → Int32) (A : Nat → Nat → Int32) (hIv : IvX I A) : GM l D zt (tyX d) yX4_takeFrom wz_k163_X4_takeFrom ({ frames := 3, cells := 0, slots := 0, locals := 64 } : Room) [.ref (q 15), .ref (q 8)] (wX q d I A) (fun v _ w' => ∃ (I' : Nat → Int32) (A' : Nat → Nat → Int32), Md [19] I I' ∧ Md [8, 9] A A' ∧ IvX I' A' ∧ v = none ∧ w' = wX q d I' A') 0 0 := by
  refine GM.of (cc := cX4_takeFrom) (maxL := 4) (ret := none) (own := RX4) (lv := [(0, .ref (q 15)), (1, .ref (q 8))]) (by decide) rfl rfl (Nat.le_of_ble_eq_true rfl) rfl (fun κ sz hk hR hN => ?_)
  have hin4 : ∀ w ∈ u_ws RX4 TX4 3, w ∈ wz_k163_X4_takeFrom := fun w h => (List.mem_cons_of_mem _ (List.mem_append_right _ (List.mem_append_left _ h)))
  refine g_aload_n hk dX4_takeFrom_0 rfl ?_
  refine g_iconst (v := 0) hk dX4_takeFrom_1 (by decide) ?_
  refine pX_i19 hk hin4 (List.mem_cons_of_mem _ (List.mem_append_left _ (List.mem_of_getElem? (i := 0) rfl))) dX4_takeFrom_2 ?_
  refine g_iconst (v := 0) hk dX4_takeFrom_5 (by decide) ?_
  refine g_istore_n (lv' := [(2, .int 0), (0, .ref (q 15)), (1, .ref (q 8))]) hk dX4_takeFrom_6 (by decide) rfl ?_
  have lp1755 : ∀ (n1756 : Nat) (x1397 : Int32) (I1400 : Nat → Int32) (A1400 : Nat → Nat → Int32), (Md [19] (upd I 19 0) I1400) → (Md [8, 9] A A1400) → (IvX I1400 A1400) → (0 ≤ x1397.toInt) → ((I 16).toInt + 1 - x1397.toInt < (n1756 : Int)) → (0 < n1756) → GW κ 4 0 0 (wX q d I1400 A1400) 7 [(2, .int x1397), (0, .ref (q 15)), (1, .ref (q 8))] [] := by
    intro n1756
    induction n1756 with
    | zero =>
      intro x1397 I1400 A1400 hI1400 hA1400 hV1400 h1754 m1757 m1757z
      exact absurd m1757z (Nat.lt_irrefl 0)
    | succ n1756 ih =>
      intro x1397 I1400 A1400 hI1400 hA1400 hV1400 h1754 m1757 m1757z
      refine g_iload_n hk dX4_takeFrom_7 rfl ?_
      refine g_aload_n hk dX4_takeFrom_8 rfl ?_
      refine gX_i16 (v := (I 16)) hk hin4 (List.mem_cons_of_mem _ (List.mem_append_left _ (List.mem_of_getElem? (i := 0) rfl))) dX4_takeFrom_9 (hI1400 16 rfl) ?_
      have b1758l := Int32.le_toInt x1397
      have b1758h := Int32.toInt_lt x1397
      have b1759l := Int32.le_toInt (I 16)
      have b1759h := Int32.toInt_lt (I 16)
      refine g_icmp_ge (tgt := 52) (a := x1397.toInt) (b := (I 16).toInt) hk dX4_takeFrom_12 (by decide) rfl rfl (fun c1760 => ?_) (fun c1760 => ?_)
      · skip
        exact g_vret hk hR ⟨I1400, A1400, (show Md [19] I I1400 from (Md.tr (Md.up Md.rf rfl) hI1400 rfl)), (show Md [8, 9] A A1400 from (Md.tr Md.rf hA1400 rfl)), hV1400, rfl, rfl⟩ dX4_takeFrom_52
      · skip
        refine g_aload_n hk dX4_takeFrom_15 rfl ?_
        refine g_callV (n := 0) hk (k164_X4_open l D zt q d I1400 A1400  hV1400) (SP.same _) (fun _ h => h) (gi_V (List.mem_cons_of_mem _ (List.mem_append_left _ (List.mem_of_getElem? (i := 1) rfl))) (List.mem_cons_of_mem _ (List.mem_append_left _ (List.mem_of_getElem? (i := 2) rfl))) (List.mem_cons_of_mem _ (List.mem_append_left _ (List.mem_of_getElem? (i := 3) rfl))) (List.mem_cons_of_mem _ (List.mem_append_left _ (List.mem_of_getElem? (i := 4) rfl))) (gi_sub (fun w h => (List.mem_cons_of_mem _ (List.mem_append_right _ (List.mem_append_right _ (List.mem_append_left _ h))))) zg_k164_X4_open)) rfl rfl rfl (by decide +kernel) ⟨Nat.le_of_ble_eq_true rfl, Nat.le_of_ble_eq_true rfl⟩ 15 rfl rfl rfl rfl (Nat.le_of_ble_eq_true rfl) ⟨Nat.le_of_ble_eq_true rfl, Nat.le_of_ble_eq_true rfl⟩ dX4_takeFrom_16 (fun v ty' w' hp hk' => ?_)
        obtain ⟨I1762, A1762, hI1762, hA1762, hV1762, rfl, rfl⟩ := hp
        show GW κ 4 0 0 (wX q d I1762 A1762) 19 [(2, .int x1397), (0, .ref (q 15)), (1, .ref (q 8))] []
        refine g_iconst (v := 0) hk dX4_takeFrom_19 (by decide) ?_
        refine g_istore_n (lv' := [(3, .int 0), (2, .int x1397), (0, .ref (q 15)), (1, .ref (q 8))]) hk dX4_takeFrom_20 (by decide) rfl ?_
        have lp1840 : ∀ (n1841 : Nat) (x1763 : Int32) (I1767 : Nat → Int32) (A1767 : Nat → Nat → Int32), (Md [] I1762 I1767) → (Md [8, 9] A1762 A1767) → (IvX I1767 A1767) → (0 ≤ x1763.toInt) → (x1763.toInt ≤ 16) → (1 - x1763.toInt < (n1841 : Int)) → (0 < n1841) → GW κ 4 0 0 (wX q d I1767 A1767) 21 [(3, .int x1763), (2, .int x1397), (0, .ref (q 15)), (1, .ref (q 8))] [] := by
          intro n1841
          induction n1841 with
          | zero =>
            intro x1763 I1767 A1767 hI1767 hA1767 hV1767 h1838 h1839 m1842 m1842z
            exact absurd m1842z (Nat.lt_irrefl 0)
          | succ n1841 ih =>
            intro x1763 I1767 A1767 hI1767 hA1767 hV1767 h1838 h1839 m1842 m1842z
            refine g_iload_n hk dX4_takeFrom_21 rfl ?_
            refine g_aload_n hk dX4_takeFrom_22 rfl ?_
            refine g_iload_n hk dX4_takeFrom_23 rfl ?_
            refine g_callV (n := 1) hk (k165_X4_lengthOf l D zt q d I1767 A1767 x1397 hV1767) (SP.same _) (fun _ h => h) (gi_V (List.mem_cons_of_mem _ (List.mem_append_left _ (List.mem_of_getElem? (i := 5) rfl))) (List.mem_cons_of_mem _ (List.mem_append_left _ (List.mem_of_getElem? (i := 6) rfl))) (List.mem_cons_of_mem _ (List.mem_append_left _ (List.mem_of_getElem? (i := 7) rfl))) (List.mem_cons_of_mem _ (List.mem_append_left _ (List.mem_of_getElem? (i := 4) rfl))) (gi_sub (fun w h => (List.mem_cons_of_mem _ (List.mem_append_right _ (List.mem_append_right _ (List.mem_append_right _ (List.mem_append_left _ h)))))) zg_k165_X4_lengthOf)) rfl rfl rfl (by decide +kernel) ⟨Nat.le_of_ble_eq_true rfl, Nat.le_of_ble_eq_true rfl⟩ 8 rfl rfl rfl rfl (Nat.le_of_ble_eq_true rfl) ⟨Nat.le_of_ble_eq_true rfl, Nat.le_of_ble_eq_true rfl⟩ dX4_takeFrom_24 (fun v ty' w' hp hk' => ?_)
            rcases hp with ⟨rfl, rfl⟩ | ⟨y1850, c1844, c1845, c1846, c1847, c1848, c1849, c1851, c1852, rfl, rfl⟩
            · skip
              show GW κ 4 0 0 (wX q d I1767 A1767) 27 [(3, .int x1763), (2, .int x1397), (0, .ref (q 15)), (1, .ref (q 8))] [.int 0, .int x1763]
              refine g_icmp_ge (tgt := 46) (a := x1763.toInt) (b := 0) hk dX4_takeFrom_27 (by decide) rfl rfl (fun _ => ?_) (fun z9 => absurd (show 0 ≤ x1763.toInt from by omega) z9)
              obtain ⟨y1853, ey1853⟩ : ∃ y : Int32, y = x1397 + Int32.ofInt 1 := ⟨_, rfl⟩
              have hy1853 : y1853.toInt = x1397.toInt + 1 := i32_add ey1853 rfl (by decide) (by omega) (by omega)
              refine g_iinc (v := y1853) (lv' := [(2, .int y1853), (3, .int x1763), (0, .ref (q 15)), (1, .ref (q 8))]) hk 1 dX4_takeFrom_46 rfl ey1853.symm (by decide) rfl ?_
              refine g_goto (tgt := 7) hk dX4_takeFrom_49 (by decide) ?_
              exact g_lv (List.forall_mem_cons.mpr ⟨List.mem_of_getElem? (i := 0) rfl, (List.forall_mem_cons.mpr ⟨List.mem_of_getElem? (i := 2) rfl, (List.forall_mem_cons.mpr ⟨List.mem_of_getElem? (i := 3) rfl, (fun _ h => absurd h List.not_mem_nil)⟩)⟩)⟩) (ih y1853 I1767 A1767 (show Md [19] (upd I 19 0) I1767 from Md.tr hI1400 (show Md [19] I1400 I1767 from (Md.tr (Md.tr Md.rf hI1762 rfl) hI1767 rfl)) rfl) (show Md [8, 9] A A1767 from Md.tr hA1400 (show Md [8, 9] A1400 A1767 from (Md.tr (Md.tr Md.rf hA1762 rfl) hA1767 rfl)) rfl) hV1767 (by omega) (by omega) (by omega))
            · skip
              show GW κ 4 0 0 (wX q d I1767 A1767) 27 [(3, .int x1763), (2, .int x1397), (0, .ref (q 15)), (1, .ref (q 8))] [.int y1850, .int x1763]
              refine g_icmp_ge (tgt := 46) (a := x1763.toInt) (b := y1850.toInt) hk dX4_takeFrom_27 (by decide) rfl rfl (fun c1854 => ?_) (fun c1854 => ?_)
              · skip
                obtain ⟨y1855, ey1855⟩ : ∃ y : Int32, y = x1397 + Int32.ofInt 1 := ⟨_, rfl⟩
                have hy1855 : y1855.toInt = x1397.toInt + 1 := i32_add ey1855 rfl (by decide) (by omega) (by omega)
                refine g_iinc (v := y1855) (lv' := [(2, .int y1855), (3, .int x1763), (0, .ref (q 15)), (1, .ref (q 8))]) hk 1 dX4_takeFrom_46 rfl ey1855.symm (by decide) rfl ?_
                refine g_goto (tgt := 7) hk dX4_takeFrom_49 (by decide) ?_
                exact g_lv (List.forall_mem_cons.mpr ⟨List.mem_of_getElem? (i := 0) rfl, (List.forall_mem_cons.mpr ⟨List.mem_of_getElem? (i := 2) rfl, (List.forall_mem_cons.mpr ⟨List.mem_of_getElem? (i := 3) rfl, (fun _ h => absurd h List.not_mem_nil)⟩)⟩)⟩) (ih y1855 I1767 A1767 (show Md [19] (upd I 19 0) I1767 from Md.tr hI1400 (show Md [19] I1400 I1767 from (Md.tr (Md.tr Md.rf hI1762 rfl) hI1767 rfl)) rfl) (show Md [8, 9] A A1767 from Md.tr hA1400 (show Md [8, 9] A1400 A1767 from (Md.tr (Md.tr Md.rf hA1762 rfl) hA1767 rfl)) rfl) hV1767 (by omega) (by omega) (by omega))
              · skip
                refine g_aload_n hk dX4_takeFrom_30 rfl ?_
                refine g_aload_n hk dX4_takeFrom_31 rfl ?_
                refine g_iload_n hk dX4_takeFrom_32 rfl ?_
                refine g_iload_n hk dX4_takeFrom_33 rfl ?_
                refine g_callV (n := 2) hk (k166_X4_valueAt l D zt q d I1767 A1767 x1397 x1763 hV1767) (SP.same _) (fun _ h => h) (gi_V (List.mem_cons_of_mem _ (List.mem_append_left _ (List.mem_of_getElem? (i := 8) rfl))) (List.mem_cons_of_mem _ (List.mem_append_left _ (List.mem_of_getElem? (i := 9) rfl))) (List.mem_cons_of_mem _ (List.mem_append_left _ (List.mem_of_getElem? (i := 10) rfl))) (List.mem_cons_of_mem _ (List.mem_append_left _ (List.mem_of_getElem? (i := 4) rfl))) (gi_sub (fun w h => (List.mem_cons_of_mem _ (List.mem_append_right _ (List.mem_append_right _ (List.mem_append_right _ (List.mem_append_right _ (List.mem_append_left _ h))))))) zg_k166_X4_valueAt)) rfl rfl rfl (by decide +kernel) ⟨Nat.le_of_ble_eq_true rfl, Nat.le_of_ble_eq_true rfl⟩ 8 rfl rfl rfl rfl (Nat.le_of_ble_eq_true rfl) ⟨Nat.le_of_ble_eq_true rfl, Nat.le_of_ble_eq_true rfl⟩ dX4_takeFrom_34 (fun v ty' w' hp hk' => ?_)
                obtain ⟨y1856, rfl, rfl⟩ := hp
                show GW κ 4 0 0 (wX q d I1767 A1767) 37 [(3, .int x1763), (2, .int x1397), (0, .ref (q 15)), (1, .ref (q 8))] [.int y1856, .ref (q 15)]
                refine g_callV (n := 1) hk (k167_X4_append l D zt q d I1767 A1767 y1856 hV1767) (SP.same _) (fun _ h => h) (gi_V (List.mem_cons_of_mem _ (List.mem_append_left _ (List.mem_of_getElem? (i := 11) rfl))) (List.mem_cons_of_mem _ (List.mem_append_left _ (List.mem_of_getElem? (i := 12) rfl))) (List.mem_cons_of_mem _ (List.mem_append_left _ (List.mem_of_getElem? (i := 13) rfl))) (List.mem_cons_of_mem _ (List.mem_append_left _ (List.mem_of_getElem? (i := 4) rfl))) (gi_sub (fun w h => (List.mem_cons_of_mem _ (List.mem_append_right _ (List.mem_append_right _ (List.mem_append_right _ (List.mem_append_right _ (List.mem_append_right _ (List.mem_append_left _ h)))))))) zg_k167_X4_append)) rfl rfl rfl (by decide +kernel) ⟨Nat.le_of_ble_eq_true rfl, Nat.le_of_ble_eq_true rfl⟩ 15 rfl rfl rfl rfl (Nat.le_of_ble_eq_true rfl) ⟨Nat.le_of_ble_eq_true rfl, Nat.le_of_ble_eq_true rfl⟩ dX4_takeFrom_37 (fun v ty' w' hp hk' => ?_)
                obtain ⟨I1858, A1858, hI1858, hA1858, hV1858, rfl, rfl⟩ := hp
                show GW κ 4 0 0 (wX q d I1858 A1858) 40 [(3, .int x1763), (2, .int x1397), (0, .ref (q 15)), (1, .ref (q 8))] []
                obtain ⟨y1859, ey1859⟩ : ∃ y : Int32, y = x1763 + Int32.ofInt 1 := ⟨_, rfl⟩
                have hy1859 : y1859.toInt = x1763.toInt + 1 := i32_add ey1859 rfl (by decide) (by omega) (by omega)
                refine g_iinc (v := y1859) (lv' := [(3, .int y1859), (2, .int x1397), (0, .ref (q 15)), (1, .ref (q 8))]) hk 0 dX4_takeFrom_40 rfl ey1859.symm (by decide) rfl ?_
                refine g_goto (tgt := 21) hk dX4_takeFrom_43 (by decide) ?_
                exact g_lv (List.forall_mem_cons.mpr ⟨List.mem_of_getElem? (i := 0) rfl, (List.forall_mem_cons.mpr ⟨List.mem_of_getElem? (i := 1) rfl, (List.forall_mem_cons.mpr ⟨List.mem_of_getElem? (i := 2) rfl, (List.forall_mem_cons.mpr ⟨List.mem_of_getElem? (i := 3) rfl, (fun _ h => absurd h List.not_mem_nil)⟩)⟩)⟩)⟩) (ih y1859 I1858 A1858 (show Md [] I1762 I1858 from Md.tr hI1767 (show Md [] I1767 I1858 from (Md.tr Md.rf hI1858 rfl)) rfl) (show Md [8, 9] A1762 A1858 from Md.tr hA1767 (show Md [8, 9] A1767 A1858 from (Md.tr Md.rf hA1858 rfl)) rfl) hV1858 (by omega) (by omega) (by omega) (by omega))
        have k1861 : (0 : Int32).toInt = 0 := rfl
        obtain ⟨n1860, n1860a, n1860b⟩ : ∃ n : Nat, 1 - 0 < (n : Int) ∧ 0 < n := ⟨((1 - 0 : Int)).toNat + 1, by omega, by omega⟩
        exact lp1840 n1860 0 I1762 A1762 Md.rf Md.rf hV1762 (by omega) (by omega) n1860a n1860b
  have k1863 : (0 : Int32).toInt = 0 := rfl
  obtain ⟨n1862, n1862a, n1862b⟩ : ∃ n : Nat, (I 16).toInt + 1 - 0 < (n : Int) ∧ 0 < n := ⟨(((I 16).toInt + 1 - 0 : Int)).toNat + 1, by omega, by omega⟩
  exact lp1755 n1862 0 (upd I 19 0) A Md.rf Md.rf ⟨(IvX_f0 (I := I) (A := A) hIv), (IvX_f18 (I := I) (A := A) hIv), (IvX_f30 (I := I) (A := A) hIv), (IvX_f31 (I := I) (A := A) hIv), (IvX_a4 (I := I) (A := A) hIv), (IvX_a9 (I := I) (A := A) hIv), trivial⟩ (by omega) n1862a n1862b
def wo_k171_X8_valueAt : List Cond := [Cond.fieldLink RX8 22 "WarpDesk$Stand" "size" "I", Cond.fieldLink RX8 9 "WarpDesk$Stand" "places" "[I"]
def wz_k171_X8_valueAt : List Cond := .code yX8_valueAt cX8_valueAt 2 (some .int) :: (wo_k171_X8_valueAt ++ (wsX80 ++ ([] : List Cond)))
theorem zg_k171_X8_valueAt : ∀ w ∈ wz_k171_X8_valueAt, goodWord w = true := zg_cons rfl (zg_app (by decide +kernel) (zg_app zgU_wsX80 zg_nil))
theorem zi_k171_X8_valueAt : ∀ w ∈ wz_k171_X8_valueAt, w ∈ lw_tbl := zi_cons zw_776 (zi_app (zi_cons zw_195 (zi_cons zw_194 zi_nil)) (zi_app inX8 zi_nil))
set_option maxHeartbeats 4000000 in
set_option maxRecDepth 100000 in
theorem k171_X8_valueAt (l : Launch) (D : va_G) (zt : Nat × Nat × Nat × (Nat → Nat) × (Nat → Nat)) (q : Nat → Nat) (d : Nat → ClassId) (I : Nat → Int32) (A : Nat → Nat → Int32) (z1 : Int32) (hIv : IvX I A) : GM l D zt (tyX d) yX8_valueAt wz_k171_X8_valueAt ({ frames := 0, cells := 0, slots := 0, locals := 0 } : Room) [.ref (q 4), .int z1] (wX q d I A) (fun v _ w' => ∃ y0 : Int32, v = some (.int y0) ∧ w' = wX q d I A) 0 0 := by
  refine GM.of (cc := cX8_valueAt) (maxL := 2) (ret := (some .int)) (own := RX8) (lv := [(0, .ref (q 4)), (1, .int z1)]) (by decide) rfl rfl (Nat.le_of_ble_eq_true rfl) rfl (fun κ sz hk hR hN => ?_)
  have hin8 : ∀ w ∈ u_ws RX8 TX8 4, w ∈ wz_k171_X8_valueAt := fun w h => (List.mem_cons_of_mem _ (List.mem_append_right _ (List.mem_append_left _ h)))
  refine g_iload_n hk dX8_valueAt_0 rfl ?_
  have b1872l := Int32.le_toInt z1
  have b1872h := Int32.toInt_lt z1
  refine g_if_lt (tgt := 30) (a := z1.toInt) hk dX8_valueAt_1 (by decide) rfl (fun c1873 => ?_) (fun c1873 => ?_)
  · skip
    refine g_sipush (v := (-1000)) hk dX8_valueAt_30 (by decide) ?_
    exact g_iret hk hR rfl ⟨(-1000), rfl, rfl⟩ dX8_valueAt_33
  · skip
    refine g_iload_n hk dX8_valueAt_4 rfl ?_
    refine g_aload_n hk dX8_valueAt_5 rfl ?_
    refine gX_i14 (v := (I 14)) hk hin8 (List.mem_cons_of_mem _ (List.mem_append_left _ (List.mem_of_getElem? (i := 0) rfl))) dX8_valueAt_6 rfl ?_
    have b1874l := Int32.le_toInt (I 14)
    have b1874h := Int32.toInt_lt (I 14)
    refine g_icmp_ge (tgt := 30) (a := z1.toInt) (b := (I 14).toInt) hk dX8_valueAt_9 (by decide) rfl rfl (fun c1875 => ?_) (fun c1875 => ?_)
    · skip
      refine g_sipush (v := (-1000)) hk dX8_valueAt_30 (by decide) ?_
      exact g_iret hk hR rfl ⟨(-1000), rfl, rfl⟩ dX8_valueAt_33
    · skip
      refine g_iload_n hk dX8_valueAt_12 rfl ?_
      refine g_aload_n hk dX8_valueAt_13 rfl ?_
      refine gX_r4_0 hk hin8 (List.mem_cons_of_mem _ (List.mem_append_left _ (List.mem_of_getElem? (i := 1) rfl))) dX8_valueAt_14 ?_
      refine nX_1 hk dX8_valueAt_17 ?_
      refine g_icmp_ge (tgt := 30) (a := z1.toInt) (b := 160) hk dX8_valueAt_18 (by decide) rfl rfl (fun c1876 => ?_) (fun c1876 => ?_)
      · skip
        refine g_sipush (v := (-1000)) hk dX8_valueAt_30 (by decide) ?_
        exact g_iret hk hR rfl ⟨(-1000), rfl, rfl⟩ dX8_valueAt_33
      · skip
        refine g_aload_n hk dX8_valueAt_21 rfl ?_
        refine gX_r4_0 hk hin8 (List.mem_cons_of_mem _ (List.mem_append_left _ (List.mem_of_getElem? (i := 1) rfl))) dX8_valueAt_22 ?_
        refine g_iload_n hk dX8_valueAt_25 rfl ?_
        refine lX_1 (v := (A 1 z1.toNatClampNeg)) hk (vp_in_iff.mpr ⟨by omega, by omega⟩) rfl dX8_valueAt_26 ?_
        refine g_goto (tgt := 33) hk dX8_valueAt_27 (by decide) ?_
        have b1877l := Int32.le_toInt (A 1 z1.toNatClampNeg)
        have b1877h := Int32.toInt_lt (A 1 z1.toNatClampNeg)
        exact g_iret hk hR rfl ⟨(A 1 z1.toNatClampNeg), rfl, rfl⟩ dX8_valueAt_33
def wo_k172_X6_append : List Cond := [Cond.fieldLink RX6 19 "WarpDesk$Series" "size" "I", Cond.fieldLink RX6 11 "WarpDesk$Series" "ring" "[I", Cond.fieldLink RX6 15 "WarpDesk$Series" "first" "I"]
def wz_k172_X6_append : List Cond := .code yX6_append cX6_append 2 (some .boolean) :: (wo_k172_X6_append ++ (wsX60 ++ ([] : List Cond)))
theorem zg_k172_X6_append : ∀ w ∈ wz_k172_X6_append, goodWord w = true := zg_cons rfl (zg_app (by decide +kernel) (zg_app zgU_wsX60 zg_nil))
theorem zi_k172_X6_append : ∀ w ∈ wz_k172_X6_append, w ∈ lw_tbl := zi_cons zw_780 (zi_app (zi_cons zw_282 (zi_cons zw_280 (zi_cons zw_281 zi_nil))) (zi_app inX6 zi_nil))
set_option maxHeartbeats 4000000 in
set_option maxRecDepth 100000 in
theorem k172_X6_append (l : Launch) (D : va_G) (zt : Nat × Nat × Nat × (Nat → Nat) × (Nat → Nat)) (q : Nat → Nat) (d : Nat → ClassId) (I : Nat → Int32) (A : Nat → Nat → Int32) (z1 : Int32) (hIv : IvX I A) : GM l D zt (tyX d) yX6_append wz_k172_X6_append ({ frames := 0, cells := 0, slots := 0, locals := 0 } : Room) [.ref (q 13), .int z1] (wX q d I A) (fun v _ w' => ∃ (I' : Nat → Int32) (A' : Nat → Nat → Int32), Md [18] I I' ∧ Md [7] A A' ∧ IvX I' A' ∧ ∃ y0 : Int32, (0 ≤ y0.toInt) ∧ (y0.toInt ≤ 1) ∧ v = some (.int y0) ∧ w' = wX q d I' A') 0 0 := by
  refine GM.of (cc := cX6_append) (maxL := 2) (ret := (some .boolean)) (own := RX6) (lv := [(0, .ref (q 13)), (1, .int z1)]) (by decide) rfl rfl (Nat.le_of_ble_eq_true rfl) rfl (fun κ sz hk hR hN => ?_)
  have hin6 : ∀ w ∈ u_ws RX6 TX6 3, w ∈ wz_k172_X6_append := fun w h => (List.mem_cons_of_mem _ (List.mem_append_right _ (List.mem_append_left _ h)))
  refine g_aload_n hk dX6_append_0 rfl ?_
  refine gX_i18 (v := (I 18)) hk hin6 (List.mem_cons_of_mem _ (List.mem_append_left _ (List.mem_of_getElem? (i := 0) rfl))) dX6_append_1 rfl ?_
  have f1880 := IvX_f18 hIv
  refine g_sipush (v := 160) hk dX6_append_4 (by decide) ?_
  refine g_icmp_lt (tgt := 12) (a := (I 18).toInt) (b := 160) hk dX6_append_7 (by decide) rfl rfl (fun c1881 => ?_) (fun c1881 => ?_)
  · skip
    refine g_aload_n hk dX6_append_12 rfl ?_
    refine gX_r13_0 hk hin6 (List.mem_cons_of_mem _ (List.mem_append_left _ (List.mem_of_getElem? (i := 1) rfl))) dX6_append_13 ?_
    refine g_aload_n hk dX6_append_16 rfl ?_
    refine gX_i17 (v := (I 17)) hk hin6 (List.mem_cons_of_mem _ (List.mem_append_left _ (List.mem_of_getElem? (i := 2) rfl))) dX6_append_17 rfl ?_
    refine g_aload_n hk dX6_append_20 rfl ?_
    refine gX_i18 (v := (I 18)) hk hin6 (List.mem_cons_of_mem _ (List.mem_append_left _ (List.mem_of_getElem? (i := 0) rfl))) dX6_append_21 rfl ?_
    have b1882l := Int32.le_toInt (I 17)
    have b1882h := Int32.toInt_lt (I 17)
    refine g_iadd hk dX6_append_24 ?_
    refine g_topi (fun y1883 ey1883 => ?_)
    refine g_sipush (v := 255) hk dX6_append_25 (by decide) ?_
    have b1884l := Int32.le_toInt y1883
    have b1884h := Int32.toInt_lt y1883
    refine g_iand hk dX6_append_28 ?_
    refine g_topi (fun y1885 ey1885 => ?_)
    have hy1885 : 0 ≤ y1885.toInt ∧ y1885.toInt ≤ 255 := i32_mask 8 ey1885 (by decide) (by decide)
    refine g_iload_n hk dX6_append_29 rfl ?_
    refine sX_7 (j := y1885.toNatClampNeg) hk (vp_in_iff.mpr ⟨by omega, by omega⟩) rfl dX6_append_30 ?_
    refine g_aload_n hk dX6_append_31 rfl ?_
    refine g_dup hk dX6_append_32 rfl ?_
    refine gX_i18 (v := (I 18)) hk hin6 (List.mem_cons_of_mem _ (List.mem_append_left _ (List.mem_of_getElem? (i := 0) rfl))) dX6_append_33 rfl ?_
    refine g_iconst (v := 1) hk dX6_append_36 (by decide) ?_
    refine g_iadd hk dX6_append_37 ?_
    refine g_topi (fun y1886 ey1886 => ?_)
    have hy1886 : y1886.toInt = (I 18).toInt + 1 := i32_add ey1886 rfl rfl (by omega) (by omega)
    refine pX_i18 hk hin6 (List.mem_cons_of_mem _ (List.mem_append_left _ (List.mem_of_getElem? (i := 0) rfl))) dX6_append_38 ?_
    refine g_iconst (v := 1) hk dX6_append_41 (by decide) ?_
    exact g_iret hk hR rfl ⟨(upd I 18 y1886), (up3 A 7 (y1885.toNatClampNeg) z1), (show Md [18] I (upd I 18 y1886) from (Md.up Md.rf rfl)), (show Md [7] A (up3 A 7 (y1885.toNatClampNeg) z1) from (Md.up3 Md.rf rfl)), ⟨(IvX_f0 (I := I) (A := A) hIv), (show 0 ≤ y1886.toInt ∧ y1886.toInt ≤ 160 from ⟨by omega, by omega⟩), (IvX_f30 (I := I) (A := A) hIv), (IvX_f31 (I := I) (A := A) hIv), (IvX_a4 (I := I) (A := A) hIv), (IvX_a9 (I := I) (A := A) hIv), trivial⟩, 1, (by decide), (by decide), rfl, rfl⟩ dX6_append_42
  · skip
    refine g_iconst (v := 0) hk dX6_append_10 (by decide) ?_
    exact g_iret hk hR rfl ⟨I, A, (show Md [18] I I from Md.rf), (show Md [7] A A from Md.rf), hIv, 0, (by decide), (by decide), rfl, rfl⟩ dX6_append_11
def wo_k170_X6_takeFrom : List Cond := [Cond.fieldLink RX6 15 "WarpDesk$Series" "first" "I", Cond.fieldLink RX6 19 "WarpDesk$Series" "size" "I", Cond.fieldLink RX6 22 "WarpDesk$Stand" "size" "I", Cond.methodLink RX6 25 yX8_valueAt, Cond.instanceMethod yX8_valueAt, Cond.selects RX8 yX8_valueAt yX8_valueAt, Cond.initialized RX8, Cond.methodLink RX6 29 yX6_append, Cond.instanceMethod yX6_append, Cond.selects RX6 yX6_append yX6_append, Cond.initialized RX6]
def wz_k170_X6_takeFrom : List Cond := .code yX6_takeFrom cX6_takeFrom 3 none :: (wo_k170_X6_takeFrom ++ (wsX60 ++ (wsX80 ++ (wz_k171_X8_valueAt ++ (wz_k172_X6_append ++ ([] : List Cond))))))
theorem zg_k170_X6_takeFrom : ∀ w ∈ wz_k170_X6_takeFrom, goodWord w = true := zg_cons rfl (zg_app (by decide +kernel) (zg_app zgU_wsX60 (zg_app zgU_wsX80 (zg_app zg_k171_X8_valueAt (zg_app zg_k172_X6_append zg_nil)))))
theorem zi_k170_X6_takeFrom : ∀ w ∈ wz_k170_X6_takeFrom, w ∈ lw_tbl := zi_cons zw_772 (zi_app (zi_cons zw_281 (zi_cons zw_282 (zi_cons zw_196 (zi_cons zw_773 (zi_cons zw_774 (zi_cons zw_775 (zi_cons zw_106 (zi_cons zw_777 (zi_cons zw_778 (zi_cons zw_779 (zi_cons zw_109 zi_nil))))))))))) (zi_app inX6 (zi_app inX8 (zi_app zi_k171_X8_valueAt (zi_app zi_k172_X6_append zi_nil)))))
set_option maxHeartbeats 4000000 in
set_option maxRecDepth 100000 in
theorem k170_X6_takeFrom (l : Launch) (D : va_G) (zt : Nat × Nat × Nat × (Nat → Nat) × (Nat → Nat)) (q : Nat → Nat) (d : Nat → ClassId) (I : Nat → Int32) (A : Nat → Nat → Int32) (hIv : IvX I A) : GM l D zt (tyX d) yX6_takeFrom wz_k170_X6_takeFrom ({ frames := 1, cells := 0, slots := 0, locals := 21 } : Room) [.ref (q 13), .ref (q 4)] (wX q d I A) (fun v _ w' => ∃ (I' : Nat → Int32) (A' : Nat → Nat → Int32), Md [17, 18] I I' ∧ Md [7] A A' ∧ IvX I' A' ∧ v = none ∧ w' = wX q d I' A') 0 0 := by
  refine GM.of (cc := cX6_takeFrom) (maxL := 3) (ret := none) (own := RX6) (lv := [(0, .ref (q 13)), (1, .ref (q 4))]) (by decide) rfl rfl (Nat.le_of_ble_eq_true rfl) rfl (fun κ sz hk hR hN => ?_)
  have hin6 : ∀ w ∈ u_ws RX6 TX6 3, w ∈ wz_k170_X6_takeFrom := fun w h => (List.mem_cons_of_mem _ (List.mem_append_right _ (List.mem_append_left _ h)))
  have hin8 : ∀ w ∈ u_ws RX8 TX8 4, w ∈ wz_k170_X6_takeFrom := fun w h => (List.mem_cons_of_mem _ (List.mem_append_right _ (List.mem_append_right _ (List.mem_append_left _ h))))
  refine g_aload_n hk dX6_takeFrom_0 rfl ?_
  refine g_iconst (v := 0) hk dX6_takeFrom_1 (by decide) ?_
  refine pX_i17 hk hin6 (List.mem_cons_of_mem _ (List.mem_append_left _ (List.mem_of_getElem? (i := 0) rfl))) dX6_takeFrom_2 ?_
  refine g_aload_n hk dX6_takeFrom_5 rfl ?_
  refine g_iconst (v := 0) hk dX6_takeFrom_6 (by decide) ?_
  refine pX_i18 hk hin6 (List.mem_cons_of_mem _ (List.mem_append_left _ (List.mem_of_getElem? (i := 1) rfl))) dX6_takeFrom_7 ?_
  refine g_iconst (v := 0) hk dX6_takeFrom_10 (by decide) ?_
  refine g_istore_n (lv' := [(2, .int 0), (0, .ref (q 13)), (1, .ref (q 4))]) hk dX6_takeFrom_11 (by decide) rfl ?_
  have lp1909 : ∀ (n1910 : Nat) (x1866 : Int32) (I1869 : Nat → Int32) (A1869 : Nat → Nat → Int32), (Md [17, 18] (upd (upd I 17 0) 18 0) I1869) → (Md [7] A A1869) → (IvX I1869 A1869) → (0 ≤ x1866.toInt) → ((I 14).toInt + 1 - x1866.toInt < (n1910 : Int)) → (0 < n1910) → GW κ 3 0 0 (wX q d I1869 A1869) 12 [(2, .int x1866), (0, .ref (q 13)), (1, .ref (q 4))] [] := by
    intro n1910
    induction n1910 with
    | zero =>
      intro x1866 I1869 A1869 hI1869 hA1869 hV1869 h1908 m1911 m1911z
      exact absurd m1911z (Nat.lt_irrefl 0)
    | succ n1910 ih =>
      intro x1866 I1869 A1869 hI1869 hA1869 hV1869 h1908 m1911 m1911z
      refine g_iload_n hk dX6_takeFrom_12 rfl ?_
      refine g_aload_n hk dX6_takeFrom_13 rfl ?_
      refine gX_i14 (v := (I 14)) hk hin8 (List.mem_cons_of_mem _ (List.mem_append_left _ (List.mem_of_getElem? (i := 2) rfl))) dX6_takeFrom_14 (hI1869 14 rfl) ?_
      have b1912l := Int32.le_toInt x1866
      have b1912h := Int32.toInt_lt x1866
      have b1913l := Int32.le_toInt (I 14)
      have b1913h := Int32.toInt_lt (I 14)
      refine g_icmp_ge (tgt := 36) (a := x1866.toInt) (b := (I 14).toInt) hk dX6_takeFrom_17 (by decide) rfl rfl (fun c1914 => ?_) (fun c1914 => ?_)
      · skip
        exact g_vret hk hR ⟨I1869, A1869, (show Md [17, 18] I I1869 from (Md.tr (Md.up (Md.up Md.rf rfl) rfl) hI1869 rfl)), (show Md [7] A A1869 from (Md.tr Md.rf hA1869 rfl)), hV1869, rfl, rfl⟩ dX6_takeFrom_36
      · skip
        refine g_aload_n hk dX6_takeFrom_20 rfl ?_
        refine g_aload_n hk dX6_takeFrom_21 rfl ?_
        refine g_iload_n hk dX6_takeFrom_22 rfl ?_
        refine g_callV (n := 1) hk (k171_X8_valueAt l D zt q d I1869 A1869 x1866 hV1869) (SP.same _) (fun _ h => h) (gi_V (List.mem_cons_of_mem _ (List.mem_append_left _ (List.mem_of_getElem? (i := 3) rfl))) (List.mem_cons_of_mem _ (List.mem_append_left _ (List.mem_of_getElem? (i := 4) rfl))) (List.mem_cons_of_mem _ (List.mem_append_left _ (List.mem_of_getElem? (i := 5) rfl))) (List.mem_cons_of_mem _ (List.mem_append_left _ (List.mem_of_getElem? (i := 6) rfl))) (gi_sub (fun w h => (List.mem_cons_of_mem _ (List.mem_append_right _ (List.mem_append_right _ (List.mem_append_right _ (List.mem_append_left _ h)))))) zg_k171_X8_valueAt)) rfl rfl rfl (by decide +kernel) ⟨Nat.le_of_ble_eq_true rfl, Nat.le_of_ble_eq_true rfl⟩ 4 rfl rfl rfl rfl (Nat.le_of_ble_eq_true rfl) ⟨Nat.le_of_ble_eq_true rfl, Nat.le_of_ble_eq_true rfl⟩ dX6_takeFrom_23 (fun v ty' w' hp hk' => ?_)
        obtain ⟨y1915, rfl, rfl⟩ := hp
        show GW κ 3 0 0 (wX q d I1869 A1869) 26 [(2, .int x1866), (0, .ref (q 13)), (1, .ref (q 4))] [.int y1915, .ref (q 13)]
        refine g_callV (n := 1) hk (k172_X6_append l D zt q d I1869 A1869 y1915 hV1869) (SP.same _) (fun _ h => h) (gi_V (List.mem_cons_of_mem _ (List.mem_append_left _ (List.mem_of_getElem? (i := 7) rfl))) (List.mem_cons_of_mem _ (List.mem_append_left _ (List.mem_of_getElem? (i := 8) rfl))) (List.mem_cons_of_mem _ (List.mem_append_left _ (List.mem_of_getElem? (i := 9) rfl))) (List.mem_cons_of_mem _ (List.mem_append_left _ (List.mem_of_getElem? (i := 10) rfl))) (gi_sub (fun w h => (List.mem_cons_of_mem _ (List.mem_append_right _ (List.mem_append_right _ (List.mem_append_right _ (List.mem_append_right _ (List.mem_append_left _ h))))))) zg_k172_X6_append)) rfl rfl rfl (by decide +kernel) ⟨Nat.le_of_ble_eq_true rfl, Nat.le_of_ble_eq_true rfl⟩ 13 rfl rfl rfl rfl (Nat.le_of_ble_eq_true rfl) ⟨Nat.le_of_ble_eq_true rfl, Nat.le_of_ble_eq_true rfl⟩ dX6_takeFrom_26 (fun v ty' w' hp hk' => ?_)
        obtain ⟨I1919, A1919, hI1919, hA1919, hV1919, y1916, c1917, c1918, rfl, rfl⟩ := hp
        show GW κ 3 0 0 (wX q d I1919 A1919) 29 [(2, .int x1866), (0, .ref (q 13)), (1, .ref (q 4))] [.int y1916]
        refine g_pop hk dX6_takeFrom_29 rfl ?_
        obtain ⟨y1920, ey1920⟩ : ∃ y : Int32, y = x1866 + Int32.ofInt 1 := ⟨_, rfl⟩
        have hy1920 : y1920.toInt = x1866.toInt + 1 := i32_add ey1920 rfl (by decide) (by omega) (by omega)
        refine g_iinc (v := y1920) (lv' := [(2, .int y1920), (0, .ref (q 13)), (1, .ref (q 4))]) hk 0 dX6_takeFrom_30 rfl ey1920.symm (by decide) rfl ?_
        refine g_goto (tgt := 12) hk dX6_takeFrom_33 (by decide) ?_
        exact g_lv (List.forall_mem_cons.mpr ⟨List.mem_of_getElem? (i := 0) rfl, (List.forall_mem_cons.mpr ⟨List.mem_of_getElem? (i := 1) rfl, (List.forall_mem_cons.mpr ⟨List.mem_of_getElem? (i := 2) rfl, (fun _ h => absurd h List.not_mem_nil)⟩)⟩)⟩) (ih y1920 I1919 A1919 (show Md [17, 18] (upd (upd I 17 0) 18 0) I1919 from Md.tr hI1869 (show Md [17, 18] I1869 I1919 from (Md.tr Md.rf hI1919 rfl)) rfl) (show Md [7] A A1919 from Md.tr hA1869 (show Md [7] A1869 A1919 from (Md.tr Md.rf hA1919 rfl)) rfl) hV1919 (by omega) (by omega) (by omega))
  have k1922 : (0 : Int32).toInt = 0 := rfl
  obtain ⟨n1921, n1921a, n1921b⟩ : ∃ n : Nat, (I 14).toInt + 1 - 0 < (n : Int) ∧ 0 < n := ⟨(((I 14).toInt + 1 - 0 : Int)).toNat + 1, by omega, by omega⟩
  exact lp1909 n1921 0 (upd (upd I 17 0) 18 0) A Md.rf Md.rf ⟨(IvX_f0 (I := I) (A := A) hIv), ⟨by decide, by decide⟩, (IvX_f30 (I := I) (A := A) hIv), (IvX_f31 (I := I) (A := A) hIv), (IvX_a4 (I := I) (A := A) hIv), (IvX_a9 (I := I) (A := A) hIv), trivial⟩ (by omega) n1921a n1921b
def wo_k174_X7_valueOf : List Cond := [Cond.fieldLink RX7 20 "WarpDesk$Settings" "values" "[I"]
def wz_k174_X7_valueOf : List Cond := .code yX7_valueOf cX7_valueOf 2 (some .int) :: (wo_k174_X7_valueOf ++ (wsX70 ++ ([] : List Cond)))
theorem zg_k174_X7_valueOf : ∀ w ∈ wz_k174_X7_valueOf, goodWord w = true := zg_cons rfl (zg_app (by decide +kernel) (zg_app zgU_wsX70 zg_nil))
theorem zi_k174_X7_valueOf : ∀ w ∈ wz_k174_X7_valueOf, w ∈ lw_tbl := zi_cons zw_788 (zi_app (zi_cons zw_190 zi_nil) (zi_app inX7 zi_nil))
set_option maxHeartbeats 4000000 in
set_option maxRecDepth 100000 in
theorem k174_X7_valueOf (l : Launch) (D : va_G) (zt : Nat × Nat × Nat × (Nat → Nat) × (Nat → Nat)) (q : Nat → Nat) (d : Nat → ClassId) (I : Nat → Int32) (A : Nat → Nat → Int32) (z1 : Int32) (hIv : IvX I A) : GM l D zt (tyX d) yX7_valueOf wz_k174_X7_valueOf ({ frames := 0, cells := 0, slots := 0, locals := 0 } : Room) [.ref (q 6), .int z1] (wX q d I A) (fun v _ w' => ∃ y0 : Int32, v = some (.int y0) ∧ w' = wX q d I A) 0 0 := by
  refine GM.of (cc := cX7_valueOf) (maxL := 2) (ret := (some .int)) (own := RX7) (lv := [(0, .ref (q 6)), (1, .int z1)]) (by decide) rfl rfl (Nat.le_of_ble_eq_true rfl) rfl (fun κ sz hk hR hN => ?_)
  have hin7 : ∀ w ∈ u_ws RX7 TX7 1, w ∈ wz_k174_X7_valueOf := fun w h => (List.mem_cons_of_mem _ (List.mem_append_right _ (List.mem_append_left _ h)))
  refine g_iload_n hk dX7_valueOf_0 rfl ?_
  have b1929l := Int32.le_toInt z1
  have b1929h := Int32.toInt_lt z1
  refine g_if_lt (tgt := 22) (a := z1.toInt) hk dX7_valueOf_1 (by decide) rfl (fun c1930 => ?_) (fun c1930 => ?_)
  · skip
    refine g_iconst (v := (-1)) hk dX7_valueOf_22 (by decide) ?_
    exact g_iret hk hR rfl ⟨(-1), rfl, rfl⟩ dX7_valueOf_23
  · skip
    refine g_iload_n hk dX7_valueOf_4 rfl ?_
    refine g_aload_n hk dX7_valueOf_5 rfl ?_
    refine gX_r6_0 hk hin7 (List.mem_cons_of_mem _ (List.mem_append_left _ (List.mem_of_getElem? (i := 0) rfl))) dX7_valueOf_6 ?_
    refine nX_2 hk dX7_valueOf_9 ?_
    refine g_icmp_ge (tgt := 22) (a := z1.toInt) (b := 4) hk dX7_valueOf_10 (by decide) rfl rfl (fun c1931 => ?_) (fun c1931 => ?_)
    · skip
      refine g_iconst (v := (-1)) hk dX7_valueOf_22 (by decide) ?_
      exact g_iret hk hR rfl ⟨(-1), rfl, rfl⟩ dX7_valueOf_23
    · skip
      refine g_aload_n hk dX7_valueOf_13 rfl ?_
      refine gX_r6_0 hk hin7 (List.mem_cons_of_mem _ (List.mem_append_left _ (List.mem_of_getElem? (i := 0) rfl))) dX7_valueOf_14 ?_
      refine g_iload_n hk dX7_valueOf_17 rfl ?_
      refine lX_2 (v := (A 2 z1.toNatClampNeg)) hk (vp_in_iff.mpr ⟨by omega, by omega⟩) rfl dX7_valueOf_18 ?_
      refine g_goto (tgt := 23) hk dX7_valueOf_19 (by decide) ?_
      have b1932l := Int32.le_toInt (A 2 z1.toNatClampNeg)
      have b1932h := Int32.toInt_lt (A 2 z1.toNatClampNeg)
      exact g_iret hk hR rfl ⟨(A 2 z1.toNatClampNeg), rfl, rfl⟩ dX7_valueOf_23
def wo_k173_X7_takeFrom : List Cond := [Cond.fieldLink RX7 20 "WarpDesk$Settings" "values" "[I", Cond.methodLink RX7 33 yX7_valueOf, Cond.instanceMethod yX7_valueOf, Cond.selects RX7 yX7_valueOf yX7_valueOf, Cond.initialized RX7]
def wz_k173_X7_takeFrom : List Cond := .code yX7_takeFrom cX7_takeFrom 3 none :: (wo_k173_X7_takeFrom ++ (wsX70 ++ (wz_k174_X7_valueOf ++ ([] : List Cond))))
theorem zg_k173_X7_takeFrom : ∀ w ∈ wz_k173_X7_takeFrom, goodWord w = true := zg_cons rfl (zg_app (by decide +kernel) (zg_app zgU_wsX70 (zg_app zg_k174_X7_valueOf zg_nil)))
theorem zi_k173_X7_takeFrom : ∀ w ∈ wz_k173_X7_takeFrom, w ∈ lw_tbl := zi_cons zw_784 (zi_app (zi_cons zw_190 (zi_cons zw_785 (zi_cons zw_786 (zi_cons zw_787 (zi_cons zw_107 zi_nil))))) (zi_app inX7 (zi_app zi_k174_X7_valueOf zi_nil)))
set_option maxHeartbeats 4000000 in
set_option maxRecDepth 100000 in
theorem k173_X7_takeFrom (l : Launch) (D : va_G) (zt : Nat × Nat × Nat × (Nat → Nat) × (Nat → Nat)) (q : Nat → Nat) (d : Nat → ClassId) (I : Nat → Int32) (A : Nat → Nat → Int32) (hIv : IvX I A) : GM l D zt (tyX d) yX7_takeFrom wz_k173_X7_takeFrom ({ frames := 1, cells := 0, slots := 0, locals := 21 } : Room) [.ref (q 18), .ref (q 6)] (wX q d I A) (fun v _ w' => ∃ (I' : Nat → Int32) (A' : Nat → Nat → Int32), Md [] I I' ∧ Md [10] A A' ∧ IvX I' A' ∧ v = none ∧ w' = wX q d I' A') 0 0 := by
  refine GM.of (cc := cX7_takeFrom) (maxL := 3) (ret := none) (own := RX7) (lv := [(0, .ref (q 18)), (1, .ref (q 6))]) (by decide) rfl rfl (Nat.le_of_ble_eq_true rfl) rfl (fun κ sz hk hR hN => ?_)
  have hin7 : ∀ w ∈ u_ws RX7 TX7 1, w ∈ wz_k173_X7_takeFrom := fun w h => (List.mem_cons_of_mem _ (List.mem_append_right _ (List.mem_append_left _ h)))
  refine g_iconst (v := 0) hk dX7_takeFrom_0 (by decide) ?_
  refine g_istore_n (lv' := [(2, .int 0), (0, .ref (q 18)), (1, .ref (q 6))]) hk dX7_takeFrom_1 (by decide) rfl ?_
  have lp1946 : ∀ (n1947 : Nat) (x1925 : Int32) (I1928 : Nat → Int32) (A1928 : Nat → Nat → Int32), (Md [] I I1928) → (Md [10] A A1928) → (IvX I1928 A1928) → (0 ≤ x1925.toInt) → (x1925.toInt ≤ 4) → (5 - x1925.toInt < (n1947 : Int)) → (0 < n1947) → GW κ 3 0 0 (wX q d I1928 A1928) 2 [(2, .int x1925), (0, .ref (q 18)), (1, .ref (q 6))] [] := by
    intro n1947
    induction n1947 with
    | zero =>
      intro x1925 I1928 A1928 hI1928 hA1928 hV1928 h1944 h1945 m1948 m1948z
      exact absurd m1948z (Nat.lt_irrefl 0)
    | succ n1947 ih =>
      intro x1925 I1928 A1928 hI1928 hA1928 hV1928 h1944 h1945 m1948 m1948z
      refine g_iload_n hk dX7_takeFrom_2 rfl ?_
      refine g_aload_n hk dX7_takeFrom_3 rfl ?_
      refine gX_r18_0 hk hin7 (List.mem_cons_of_mem _ (List.mem_append_left _ (List.mem_of_getElem? (i := 0) rfl))) dX7_takeFrom_4 ?_
      refine nX_10 hk dX7_takeFrom_7 ?_
      refine g_icmp_ge (tgt := 28) (a := x1925.toInt) (b := 4) hk dX7_takeFrom_8 (by decide) rfl rfl (fun c1949 => ?_) (fun c1949 => ?_)
      · skip
        exact g_vret hk hR ⟨I1928, A1928, (show Md [] I I1928 from (Md.tr Md.rf hI1928 rfl)), (show Md [10] A A1928 from (Md.tr Md.rf hA1928 rfl)), hV1928, rfl, rfl⟩ dX7_takeFrom_28
      · skip
        refine g_aload_n hk dX7_takeFrom_11 rfl ?_
        refine gX_r18_0 hk hin7 (List.mem_cons_of_mem _ (List.mem_append_left _ (List.mem_of_getElem? (i := 0) rfl))) dX7_takeFrom_12 ?_
        refine g_iload_n hk dX7_takeFrom_15 rfl ?_
        refine g_aload_n hk dX7_takeFrom_16 rfl ?_
        refine g_iload_n hk dX7_takeFrom_17 rfl ?_
        refine g_callV (n := 1) hk (k174_X7_valueOf l D zt q d I1928 A1928 x1925 hV1928) (SP.same _) (fun _ h => h) (gi_V (List.mem_cons_of_mem _ (List.mem_append_left _ (List.mem_of_getElem? (i := 1) rfl))) (List.mem_cons_of_mem _ (List.mem_append_left _ (List.mem_of_getElem? (i := 2) rfl))) (List.mem_cons_of_mem _ (List.mem_append_left _ (List.mem_of_getElem? (i := 3) rfl))) (List.mem_cons_of_mem _ (List.mem_append_left _ (List.mem_of_getElem? (i := 4) rfl))) (gi_sub (fun w h => (List.mem_cons_of_mem _ (List.mem_append_right _ (List.mem_append_right _ (List.mem_append_left _ h))))) zg_k174_X7_valueOf)) rfl rfl rfl (by decide +kernel) ⟨Nat.le_of_ble_eq_true rfl, Nat.le_of_ble_eq_true rfl⟩ 6 rfl rfl rfl rfl (Nat.le_of_ble_eq_true rfl) ⟨Nat.le_of_ble_eq_true rfl, Nat.le_of_ble_eq_true rfl⟩ dX7_takeFrom_18 (fun v ty' w' hp hk' => ?_)
        obtain ⟨y1950, rfl, rfl⟩ := hp
        show GW κ 3 0 0 (wX q d I1928 A1928) 21 [(2, .int x1925), (0, .ref (q 18)), (1, .ref (q 6))] [.int y1950, .int x1925, .ref (q 19)]
        refine sX_10 (j := x1925.toNatClampNeg) hk (vp_in_iff.mpr ⟨by omega, by omega⟩) rfl dX7_takeFrom_21 ?_
        obtain ⟨y1951, ey1951⟩ : ∃ y : Int32, y = x1925 + Int32.ofInt 1 := ⟨_, rfl⟩
        have hy1951 : y1951.toInt = x1925.toInt + 1 := i32_add ey1951 rfl (by decide) (by omega) (by omega)
        refine g_iinc (v := y1951) (lv' := [(2, .int y1951), (0, .ref (q 18)), (1, .ref (q 6))]) hk 0 dX7_takeFrom_22 rfl ey1951.symm (by decide) rfl ?_
        refine g_goto (tgt := 2) hk dX7_takeFrom_25 (by decide) ?_
        exact g_lv (List.forall_mem_cons.mpr ⟨List.mem_of_getElem? (i := 0) rfl, (List.forall_mem_cons.mpr ⟨List.mem_of_getElem? (i := 1) rfl, (List.forall_mem_cons.mpr ⟨List.mem_of_getElem? (i := 2) rfl, (fun _ h => absurd h List.not_mem_nil)⟩)⟩)⟩) (ih y1951 I1928 (up3 A1928 10 (x1925.toNatClampNeg) y1950) (show Md [] I I1928 from Md.tr hI1928 (show Md [] I1928 I1928 from Md.rf) rfl) (show Md [10] A (up3 A1928 10 (x1925.toNatClampNeg) y1950) from Md.tr hA1928 (show Md [10] A1928 (up3 A1928 10 (x1925.toNatClampNeg) y1950) from (Md.up3 Md.rf rfl)) rfl) ⟨(IvX_f0 (I := I1928) (A := A1928) hV1928), (IvX_f18 (I := I1928) (A := A1928) hV1928), (IvX_f30 (I := I1928) (A := A1928) hV1928), (IvX_f31 (I := I1928) (A := A1928) hV1928), (IvX_a4 (I := I1928) (A := A1928) hV1928), (IvX_a9 (I := I1928) (A := A1928) hV1928), trivial⟩ (by omega) (by omega) (by omega) (by omega))
  have k1953 : (0 : Int32).toInt = 0 := rfl
  obtain ⟨n1952, n1952a, n1952b⟩ : ∃ n : Nat, 5 - 0 < (n : Int) ∧ 0 < n := ⟨((5 - 0 : Int)).toNat + 1, by omega, by omega⟩
  exact lp1946 n1952 0 I A Md.rf Md.rf hIv (by omega) (by omega) n1952a n1952b
def wo_k175_X3_forget : List Cond := [Cond.fieldLink RX3 19 "WarpDesk$Past" "size" "I"]
def wz_k175_X3_forget : List Cond := .code yX3_forget cX3_forget 1 none :: (wo_k175_X3_forget ++ (wsX30 ++ ([] : List Cond)))
theorem zg_k175_X3_forget : ∀ w ∈ wz_k175_X3_forget, goodWord w = true := zg_cons rfl (zg_app (by decide +kernel) (zg_app zgU_wsX30 zg_nil))
theorem zi_k175_X3_forget : ∀ w ∈ wz_k175_X3_forget, w ∈ lw_tbl := zi_cons zw_792 (zi_app (zi_cons zw_306 zi_nil) (zi_app inX3 zi_nil))
set_option maxHeartbeats 4000000 in
set_option maxRecDepth 100000 in
theorem k175_X3_forget (l : Launch) (D : va_G) (zt : Nat × Nat × Nat × (Nat → Nat) × (Nat → Nat)) (q : Nat → Nat) (d : Nat → ClassId) (I : Nat → Int32) (A : Nat → Nat → Int32) (hIv : IvX I A) : GM l D zt (tyX d) yX3_forget wz_k175_X3_forget ({ frames := 0, cells := 0, slots := 0, locals := 0 } : Room) [.ref (q 20)] (wX q d I A) (fun v _ w' => ∃ (I' : Nat → Int32) (A' : Nat → Nat → Int32), Md [21] I I' ∧ Md [] A A' ∧ IvX I' A' ∧ v = none ∧ w' = wX q d I' A') 0 0 := by
  refine GM.of (cc := cX3_forget) (maxL := 1) (ret := none) (own := RX3) (lv := [(0, .ref (q 20))]) (by decide) rfl rfl (Nat.le_of_ble_eq_true rfl) rfl (fun κ sz hk hR hN => ?_)
  have hin3 : ∀ w ∈ u_ws RX3 TX3 5, w ∈ wz_k175_X3_forget := fun w h => (List.mem_cons_of_mem _ (List.mem_append_right _ (List.mem_append_left _ h)))
  refine g_aload_n hk dX3_forget_0 rfl ?_
  refine g_iconst (v := 0) hk dX3_forget_1 (by decide) ?_
  refine pX_i21 hk hin3 (List.mem_cons_of_mem _ (List.mem_append_left _ (List.mem_of_getElem? (i := 0) rfl))) dX3_forget_2 ?_
  exact g_vret hk hR ⟨(upd I 21 0), A, (show Md [21] I (upd I 21 0) from (Md.up Md.rf rfl)), (show Md [] A A from Md.rf), ⟨(IvX_f0 (I := I) (A := A) hIv), (IvX_f18 (I := I) (A := A) hIv), (IvX_f30 (I := I) (A := A) hIv), (IvX_f31 (I := I) (A := A) hIv), (IvX_a4 (I := I) (A := A) hIv), (IvX_a9 (I := I) (A := A) hIv), trivial⟩, rfl, rfl⟩ dX3_forget_5
def wo_k169_X11_goOnFrom : List Cond := [Cond.fieldLink RX11 28 "WarpDesk" "series" "LWarpDesk$Series;", Cond.methodLink RX11 369 yX6_takeFrom, Cond.instanceMethod yX6_takeFrom, Cond.selects RX6 yX6_takeFrom yX6_takeFrom, Cond.initialized RX6, Cond.fieldLink RX11 42 "WarpDesk" "settings" "LWarpDesk$Settings;", Cond.fieldLink RX11 365 "WarpDesk$Stand" "settings" "LWarpDesk$Settings;", Cond.methodLink RX11 366 yX7_takeFrom, Cond.instanceMethod yX7_takeFrom, Cond.selects RX7 yX7_takeFrom yX7_takeFrom, Cond.initialized RX7, Cond.fieldLink RX11 49 "WarpDesk" "past" "LWarpDesk$Past;", Cond.methodLink RX11 371 yX3_forget, Cond.instanceMethod yX3_forget, Cond.selects RX3 yX3_forget yX3_forget, Cond.initialized RX3]
def wz_k169_X11_goOnFrom : List Cond := .code yX11_goOnFrom cX11_goOnFrom 2 none :: (wo_k169_X11_goOnFrom ++ (wsX80 ++ (wsX110 ++ (wz_k170_X6_takeFrom ++ (wz_k173_X7_takeFrom ++ (wz_k175_X3_forget ++ ([] : List Cond)))))))
theorem zg_k169_X11_goOnFrom : ∀ w ∈ wz_k169_X11_goOnFrom, goodWord w = true := zg_cons rfl (zg_app (by decide +kernel) (zg_app zgU_wsX80 (zg_app zgU_wsX110 (zg_app zg_k170_X6_takeFrom (zg_app zg_k173_X7_takeFrom (zg_app zg_k175_X3_forget zg_nil))))))
theorem zi_k169_X11_goOnFrom : ∀ w ∈ wz_k169_X11_goOnFrom, w ∈ lw_tbl := zi_cons zw_768 (zi_app (zi_cons zw_489 (zi_cons zw_769 (zi_cons zw_770 (zi_cons zw_771 (zi_cons zw_109 (zi_cons zw_491 (zi_cons zw_200 (zi_cons zw_781 (zi_cons zw_782 (zi_cons zw_783 (zi_cons zw_107 (zi_cons zw_492 (zi_cons zw_789 (zi_cons zw_790 (zi_cons zw_791 (zi_cons zw_110 zi_nil)))))))))))))))) (zi_app inX8 (zi_app inX11 (zi_app zi_k170_X6_takeFrom (zi_app zi_k173_X7_takeFrom (zi_app zi_k175_X3_forget zi_nil))))))
set_option maxHeartbeats 4000000 in
set_option maxRecDepth 100000 in
theorem k169_X11_goOnFrom (l : Launch) (D : va_G) (zt : Nat × Nat × Nat × (Nat → Nat) × (Nat → Nat)) (q : Nat → Nat) (d : Nat → ClassId) (I : Nat → Int32) (A : Nat → Nat → Int32) (hIv : IvX I A) : GM l D zt (tyX d) yX11_goOnFrom wz_k169_X11_goOnFrom ({ frames := 2, cells := 0, slots := 0, locals := 43 } : Room) [.ref (q 0), .ref (q 4)] (wX q d I A) (fun v _ w' => ∃ (I' : Nat → Int32) (A' : Nat → Nat → Int32), Md [17, 18, 21] I I' ∧ Md [7, 10] A A' ∧ IvX I' A' ∧ v = none ∧ w' = wX q d I' A') 0 0 := by
  refine GM.of (cc := cX11_goOnFrom) (maxL := 2) (ret := none) (own := RX11) (lv := [(0, .ref (q 0)), (1, .ref (q 4))]) (by decide) rfl rfl (Nat.le_of_ble_eq_true rfl) rfl (fun κ sz hk hR hN => ?_)
  have hin8 : ∀ w ∈ u_ws RX8 TX8 4, w ∈ wz_k169_X11_goOnFrom := fun w h => (List.mem_cons_of_mem _ (List.mem_append_right _ (List.mem_append_left _ h)))
  have hin11 : ∀ w ∈ u_ws RX11 TX11 10, w ∈ wz_k169_X11_goOnFrom := fun w h => (List.mem_cons_of_mem _ (List.mem_append_right _ (List.mem_append_right _ (List.mem_append_left _ h))))
  refine g_aload_n hk dX11_goOnFrom_0 rfl ?_
  refine gX_r0_2 hk hin11 (List.mem_cons_of_mem _ (List.mem_append_left _ (List.mem_of_getElem? (i := 0) rfl))) dX11_goOnFrom_1 ?_
  refine g_aload_n hk dX11_goOnFrom_4 rfl ?_
  refine g_callV (n := 1) hk (k170_X6_takeFrom l D zt q d I A  hIv) (SP.same _) (fun _ h => h) (gi_V (List.mem_cons_of_mem _ (List.mem_append_left _ (List.mem_of_getElem? (i := 1) rfl))) (List.mem_cons_of_mem _ (List.mem_append_left _ (List.mem_of_getElem? (i := 2) rfl))) (List.mem_cons_of_mem _ (List.mem_append_left _ (List.mem_of_getElem? (i := 3) rfl))) (List.mem_cons_of_mem _ (List.mem_append_left _ (List.mem_of_getElem? (i := 4) rfl))) (gi_sub (fun w h => (List.mem_cons_of_mem _ (List.mem_append_right _ (List.mem_append_right _ (List.mem_append_right _ (List.mem_append_left _ h)))))) zg_k170_X6_takeFrom)) rfl rfl rfl (by decide +kernel) ⟨Nat.le_of_ble_eq_true rfl, Nat.le_of_ble_eq_true rfl⟩ 13 rfl rfl rfl rfl (Nat.le_of_ble_eq_true rfl) ⟨Nat.le_of_ble_eq_true rfl, Nat.le_of_ble_eq_true rfl⟩ dX11_goOnFrom_5 (fun v ty' w' hp hk' => ?_)
  obtain ⟨I1924, A1924, hI1924, hA1924, hV1924, rfl, rfl⟩ := hp
  show GW κ 2 0 0 (wX q d I1924 A1924) 8 [(0, .ref (q 0)), (1, .ref (q 4))] []
  refine g_aload_n hk dX11_goOnFrom_8 rfl ?_
  refine gX_r0_4 hk hin11 (List.mem_cons_of_mem _ (List.mem_append_left _ (List.mem_of_getElem? (i := 5) rfl))) dX11_goOnFrom_9 ?_
  refine g_aload_n hk dX11_goOnFrom_12 rfl ?_
  refine gX_r4_2 hk hin8 (List.mem_cons_of_mem _ (List.mem_append_left _ (List.mem_of_getElem? (i := 6) rfl))) dX11_goOnFrom_13 ?_
  refine g_callV (n := 1) hk (k173_X7_takeFrom l D zt q d I1924 A1924  hV1924) (SP.same _) (fun _ h => h) (gi_V (List.mem_cons_of_mem _ (List.mem_append_left _ (List.mem_of_getElem? (i := 7) rfl))) (List.mem_cons_of_mem _ (List.mem_append_left _ (List.mem_of_getElem? (i := 8) rfl))) (List.mem_cons_of_mem _ (List.mem_append_left _ (List.mem_of_getElem? (i := 9) rfl))) (List.mem_cons_of_mem _ (List.mem_append_left _ (List.mem_of_getElem? (i := 10) rfl))) (gi_sub (fun w h => (List.mem_cons_of_mem _ (List.mem_append_right _ (List.mem_append_right _ (List.mem_append_right _ (List.mem_append_right _ (List.mem_append_left _ h))))))) zg_k173_X7_takeFrom)) rfl rfl rfl (by decide +kernel) ⟨Nat.le_of_ble_eq_true rfl, Nat.le_of_ble_eq_true rfl⟩ 18 rfl rfl rfl rfl (Nat.le_of_ble_eq_true rfl) ⟨Nat.le_of_ble_eq_true rfl, Nat.le_of_ble_eq_true rfl⟩ dX11_goOnFrom_16 (fun v ty' w' hp hk' => ?_)
  obtain ⟨I1955, A1955, hI1955, hA1955, hV1955, rfl, rfl⟩ := hp
  show GW κ 2 0 0 (wX q d I1955 A1955) 19 [(0, .ref (q 0)), (1, .ref (q 4))] []
  refine g_aload_n hk dX11_goOnFrom_19 rfl ?_
  refine gX_r0_5 hk hin11 (List.mem_cons_of_mem _ (List.mem_append_left _ (List.mem_of_getElem? (i := 11) rfl))) dX11_goOnFrom_20 ?_
  refine g_callV (n := 0) hk (k175_X3_forget l D zt q d I1955 A1955  hV1955) (SP.same _) (fun _ h => h) (gi_V (List.mem_cons_of_mem _ (List.mem_append_left _ (List.mem_of_getElem? (i := 12) rfl))) (List.mem_cons_of_mem _ (List.mem_append_left _ (List.mem_of_getElem? (i := 13) rfl))) (List.mem_cons_of_mem _ (List.mem_append_left _ (List.mem_of_getElem? (i := 14) rfl))) (List.mem_cons_of_mem _ (List.mem_append_left _ (List.mem_of_getElem? (i := 15) rfl))) (gi_sub (fun w h => (List.mem_cons_of_mem _ (List.mem_append_right _ (List.mem_append_right _ (List.mem_append_right _ (List.mem_append_right _ (List.mem_append_right _ (List.mem_append_left _ h)))))))) zg_k175_X3_forget)) rfl rfl rfl (by decide +kernel) ⟨Nat.le_of_ble_eq_true rfl, Nat.le_of_ble_eq_true rfl⟩ 20 rfl rfl rfl rfl (Nat.le_of_ble_eq_true rfl) ⟨Nat.le_of_ble_eq_true rfl, Nat.le_of_ble_eq_true rfl⟩ dX11_goOnFrom_23 (fun v ty' w' hp hk' => ?_)
  obtain ⟨I1957, A1957, hI1957, hA1957, hV1957, rfl, rfl⟩ := hp
  show GW κ 2 0 0 (wX q d I1957 A1957) 26 [(0, .ref (q 0)), (1, .ref (q 4))] []
  exact g_vret hk hR ⟨I1957, A1957, (show Md [17, 18, 21] I I1957 from (Md.tr (Md.tr (Md.tr Md.rf hI1924 rfl) hI1955 rfl) hI1957 rfl)), (show Md [7, 10] A A1957 from (Md.tr (Md.tr (Md.tr Md.rf hA1924 rfl) hA1955 rfl) hA1957 rfl)), hV1957, rfl, rfl⟩ dX11_goOnFrom_26
def wo_k116_X11_read : List Cond := [Cond.fieldLink RX11 21 "WarpDesk" "reader" "LWarpDesk$Reader;", Cond.methodLink RX11 93 yX5_readText, Cond.instanceMethod yX5_readText, Cond.selects RX5 yX5_readText yX5_readText, Cond.initialized RX5, Cond.fieldLink RX11 10 "WarpDesk" "tape" "LWarpDesk$Tape;", Cond.fieldLink RX11 85 "WarpDesk$Tape" "size" "I", Cond.fieldLink RX11 35 "WarpDesk" "queries" "LWarpDesk$Queries;", Cond.fieldLink RX11 97 "WarpDesk$Reader" "queries" "LWarpDesk$Queries;", Cond.methodLink RX11 98 yX4_takeFrom, Cond.instanceMethod yX4_takeFrom, Cond.selects RX4 yX4_takeFrom yX4_takeFrom, Cond.initialized RX4, Cond.fieldLink RX11 102 "WarpDesk$Reader" "draft" "LWarpDesk$Stand;", Cond.methodLink RX11 106 yX11_goOnFrom, Cond.instanceMethod yX11_goOnFrom, Cond.selects RX11 yX11_goOnFrom yX11_goOnFrom, Cond.initialized RX11, Cond.fieldLink RX11 56 "WarpDesk" "slots" "[LWarpDesk$Stand;", Cond.fieldLink RX11 110 "WarpDesk$Stand" "held" "Z"]
def wz_k116_X11_read : List Cond := .code yX11_read cX11_read 3 (some .int) :: (wo_k116_X11_read ++ (wsX50 ++ (wsX80 ++ (wsX100 ++ (wsX110 ++ (wz_k117_X5_readText ++ (wz_k163_X4_takeFrom ++ (wz_k169_X11_goOnFrom ++ ([] : List Cond)))))))))
theorem zg_k116_X11_read : ∀ w ∈ wz_k116_X11_read, goodWord w = true := zg_cons rfl (zg_app (by decide +kernel) (zg_app zgU_wsX50 (zg_app zgU_wsX80 (zg_app zgU_wsX100 (zg_app zgU_wsX110 (zg_app zg_k117_X5_readText (zg_app zg_k163_X4_takeFrom (zg_app zg_k169_X11_goOnFrom zg_nil))))))))
theorem zi_k116_X11_read : ∀ w ∈ wz_k116_X11_read, w ∈ lw_tbl := zi_cons zw_533 (zi_app (zi_cons zw_488 (zi_cons zw_534 (zi_cons zw_535 (zi_cons zw_536 (zi_cons zw_105 (zi_cons zw_487 (zi_cons zw_136 (zi_cons zw_490 (zi_cons zw_234 (zi_cons zw_751 (zi_cons zw_752 (zi_cons zw_753 (zi_cons zw_108 (zi_cons zw_232 (zi_cons zw_765 (zi_cons zw_767 (zi_cons zw_22 (zi_cons zw_103 (zi_cons zw_493 (zi_cons zw_201 zi_nil)))))))))))))))))))) (zi_app inX5 (zi_app inX8 (zi_app inX10 (zi_app inX11 (zi_app zi_k117_X5_readText (zi_app zi_k163_X4_takeFrom (zi_app zi_k169_X11_goOnFrom zi_nil))))))))
set_option maxHeartbeats 4000000 in
set_option maxRecDepth 100000 in
theorem k116_X11_read (l : Launch) (D : va_G) (zt : Nat × Nat × Nat × (Nat → Nat) × (Nat → Nat)) (q : Nat → Nat) (d : Nat → ClassId) (I : Nat → Int32) (A : Nat → Nat → Int32) (hIv : IvX I A) : GM l D zt (tyX d) yX11_read wz_k116_X11_read ({ frames := 9, cells := 0, slots := 0, locals := 189 } : Room) [.ref (q 0)] (wX q d I A) (fun v _ w' => ∃ (I' : Nat → Int32) (A' : Nat → Nat → Int32), Md [0, 1, 2, 3, 4, 5, 6, 7, 8, 9, 10, 11, 12, 13, 14, 16, 17, 18, 19, 21, 23, 25, 27] I I' ∧ Md [1, 2, 3, 4, 5, 6, 7, 8, 9, 10] A A' ∧ IvX I' A' ∧ ∃ y0 : Int32, ((I' 0).toInt = 0) ∧ v = some (.int y0) ∧ w' = wX q d I' A') 0 0 := by
  refine GM.of (cc := cX11_read) (maxL := 3) (ret := (some .int)) (own := RX11) (lv := [(0, .ref (q 0))]) (by decide) rfl rfl (Nat.le_of_ble_eq_true rfl) rfl (fun κ sz hk hR hN => ?_)
  have hin5 : ∀ w ∈ u_ws RX5 TX5 13, w ∈ wz_k116_X11_read := fun w h => (List.mem_cons_of_mem _ (List.mem_append_right _ (List.mem_append_left _ h)))
  have hin8 : ∀ w ∈ u_ws RX8 TX8 4, w ∈ wz_k116_X11_read := fun w h => (List.mem_cons_of_mem _ (List.mem_append_right _ (List.mem_append_right _ (List.mem_append_left _ h))))
  have hin10 : ∀ w ∈ u_ws RX10 TX10 7, w ∈ wz_k116_X11_read := fun w h => (List.mem_cons_of_mem _ (List.mem_append_right _ (List.mem_append_right _ (List.mem_append_right _ (List.mem_append_left _ h)))))
  have hin11 : ∀ w ∈ u_ws RX11 TX11 10, w ∈ wz_k116_X11_read := fun w h => (List.mem_cons_of_mem _ (List.mem_append_right _ (List.mem_append_right _ (List.mem_append_right _ (List.mem_append_right _ (List.mem_append_left _ h))))))
  refine g_aload_n hk dX11_read_0 rfl ?_
  refine gX_r0_1 hk hin11 (List.mem_cons_of_mem _ (List.mem_append_left _ (List.mem_of_getElem? (i := 0) rfl))) dX11_read_1 ?_
  refine g_callV (n := 0) hk (k117_X5_readText l D zt q d I A  hIv) (SP.same _) (fun _ h => h) (gi_V (List.mem_cons_of_mem _ (List.mem_append_left _ (List.mem_of_getElem? (i := 1) rfl))) (List.mem_cons_of_mem _ (List.mem_append_left _ (List.mem_of_getElem? (i := 2) rfl))) (List.mem_cons_of_mem _ (List.mem_append_left _ (List.mem_of_getElem? (i := 3) rfl))) (List.mem_cons_of_mem _ (List.mem_append_left _ (List.mem_of_getElem? (i := 4) rfl))) (gi_sub (fun w h => (List.mem_cons_of_mem _ (List.mem_append_right _ (List.mem_append_right _ (List.mem_append_right _ (List.mem_append_right _ (List.mem_append_right _ (List.mem_append_left _ h)))))))) zg_k117_X5_readText)) rfl rfl rfl (by decide +kernel) ⟨Nat.le_of_ble_eq_true rfl, Nat.le_of_ble_eq_true rfl⟩ 3 rfl rfl rfl rfl (Nat.le_of_ble_eq_true rfl) ⟨Nat.le_of_ble_eq_true rfl, Nat.le_of_ble_eq_true rfl⟩ dX11_read_4 (fun v ty' w' hp hk' => ?_)
  obtain ⟨I1392, A1392, hI1392, hA1392, hV1392, y1391, rfl, rfl⟩ := hp
  show GW κ 3 0 0 (wX q d I1392 A1392) 7 [(0, .ref (q 0))] [.int y1391]
  refine g_istore_n (lv' := [(1, .int y1391), (0, .ref (q 0))]) hk dX11_read_7 (by decide) rfl ?_
  refine g_aload_n hk dX11_read_8 rfl ?_
  refine gX_r0_0 hk hin11 (List.mem_cons_of_mem _ (List.mem_append_left _ (List.mem_of_getElem? (i := 5) rfl))) dX11_read_9 ?_
  refine g_iconst (v := 0) hk dX11_read_12 (by decide) ?_
  refine pX_i0 hk hin10 (List.mem_cons_of_mem _ (List.mem_append_left _ (List.mem_of_getElem? (i := 6) rfl))) dX11_read_13 ?_
  refine g_iload_n hk dX11_read_16 rfl ?_
  have b1393l := Int32.le_toInt y1391
  have b1393h := Int32.toInt_lt y1391
  refine g_if_ne (tgt := 72) (a := y1391.toInt) hk dX11_read_17 (by decide) rfl (fun c1394 => ?_) (fun c1394 => ?_)
  · skip
    refine g_iload_n hk dX11_read_72 rfl ?_
    have k1395 : (0 : Int32).toInt = 0 := rfl
    have f1396 := IvX_f0 hIv
    exact g_iret hk hR rfl ⟨(upd I1392 0 0), A1392, (show Md [0, 1, 2, 3, 4, 5, 6, 7, 8, 9, 10, 11, 12, 13, 14, 16, 17, 18, 19, 21, 23, 25, 27] I (upd I1392 0 0) from (Md.up (Md.tr Md.rf hI1392 rfl) rfl)), (show Md [1, 2, 3, 4, 5, 6, 7, 8, 9, 10] A A1392 from (Md.tr Md.rf hA1392 rfl)), ⟨⟨by decide, by decide⟩, (IvX_f18 (I := I1392) (A := A1392) hV1392), (IvX_f30 (I := I1392) (A := A1392) hV1392), (IvX_f31 (I := I1392) (A := A1392) hV1392), (IvX_a4 (I := I1392) (A := A1392) hV1392), (IvX_a9 (I := I1392) (A := A1392) hV1392), trivial⟩, y1391, (show (0 : Int32).toInt = 0 from by omega), rfl, rfl⟩ dX11_read_73
  · skip
    refine g_aload_n hk dX11_read_20 rfl ?_
    refine gX_r0_3 hk hin11 (List.mem_cons_of_mem _ (List.mem_append_left _ (List.mem_of_getElem? (i := 7) rfl))) dX11_read_21 ?_
    refine g_aload_n hk dX11_read_24 rfl ?_
    refine gX_r0_1 hk hin11 (List.mem_cons_of_mem _ (List.mem_append_left _ (List.mem_of_getElem? (i := 0) rfl))) dX11_read_25 ?_
    refine gX_r3_2 hk hin5 (List.mem_cons_of_mem _ (List.mem_append_left _ (List.mem_of_getElem? (i := 8) rfl))) dX11_read_28 ?_
    refine g_callV (n := 1) hk (k163_X4_takeFrom l D zt q d (upd I1392 0 0) A1392  ⟨⟨by decide, by decide⟩, (IvX_f18 (I := I1392) (A := A1392) hV1392), (IvX_f30 (I := I1392) (A := A1392) hV1392), (IvX_f31 (I := I1392) (A := A1392) hV1392), (IvX_a4 (I := I1392) (A := A1392) hV1392), (IvX_a9 (I := I1392) (A := A1392) hV1392), trivial⟩) (SP.same _) (fun _ h => h) (gi_V (List.mem_cons_of_mem _ (List.mem_append_left _ (List.mem_of_getElem? (i := 9) rfl))) (List.mem_cons_of_mem _ (List.mem_append_left _ (List.mem_of_getElem? (i := 10) rfl))) (List.mem_cons_of_mem _ (List.mem_append_left _ (List.mem_of_getElem? (i := 11) rfl))) (List.mem_cons_of_mem _ (List.mem_append_left _ (List.mem_of_getElem? (i := 12) rfl))) (gi_sub (fun w h => (List.mem_cons_of_mem _ (List.mem_append_right _ (List.mem_append_right _ (List.mem_append_right _ (List.mem_append_right _ (List.mem_append_right _ (List.mem_append_right _ (List.mem_append_left _ h))))))))) zg_k163_X4_takeFrom)) rfl rfl rfl (by decide +kernel) ⟨Nat.le_of_ble_eq_true rfl, Nat.le_of_ble_eq_true rfl⟩ 15 rfl rfl rfl rfl (Nat.le_of_ble_eq_true rfl) ⟨Nat.le_of_ble_eq_true rfl, Nat.le_of_ble_eq_true rfl⟩ dX11_read_31 (fun v ty' w' hp hk' => ?_)
    obtain ⟨I1865, A1865, hI1865, hA1865, hV1865, rfl, rfl⟩ := hp
    show GW κ 3 0 0 (wX q d I1865 A1865) 34 [(1, .int y1391), (0, .ref (q 0))] []
    refine g_aload_n hk dX11_read_34 rfl ?_
    refine g_aload_n hk dX11_read_35 rfl ?_
    refine gX_r0_1 hk hin11 (List.mem_cons_of_mem _ (List.mem_append_left _ (List.mem_of_getElem? (i := 0) rfl))) dX11_read_36 ?_
    refine gX_r3_1 hk hin5 (List.mem_cons_of_mem _ (List.mem_append_left _ (List.mem_of_getElem? (i := 13) rfl))) dX11_read_39 ?_
    refine g_callV (n := 1) hk (k169_X11_goOnFrom l D zt q d I1865 A1865  hV1865) (SP.same _) (fun _ h => h) (gi_V (List.mem_cons_of_mem _ (List.mem_append_left _ (List.mem_of_getElem? (i := 14) rfl))) (List.mem_cons_of_mem _ (List.mem_append_left _ (List.mem_of_getElem? (i := 15) rfl))) (List.mem_cons_of_mem _ (List.mem_append_left _ (List.mem_of_getElem? (i := 16) rfl))) (List.mem_cons_of_mem _ (List.mem_append_left _ (List.mem_of_getElem? (i := 17) rfl))) (gi_sub (fun w h => (List.mem_cons_of_mem _ (List.mem_append_right _ (List.mem_append_right _ (List.mem_append_right _ (List.mem_append_right _ (List.mem_append_right _ (List.mem_append_right _ (List.mem_append_right _ (List.mem_append_left _ h)))))))))) zg_k169_X11_goOnFrom)) rfl rfl rfl (by decide +kernel) ⟨Nat.le_of_ble_eq_true rfl, Nat.le_of_ble_eq_true rfl⟩ 0 rfl rfl rfl rfl (Nat.le_of_ble_eq_true rfl) ⟨Nat.le_of_ble_eq_true rfl, Nat.le_of_ble_eq_true rfl⟩ dX11_read_42 (fun v ty' w' hp hk' => ?_)
    obtain ⟨I1959, A1959, hI1959, hA1959, hV1959, rfl, rfl⟩ := hp
    show GW κ 3 0 0 (wX q d I1959 A1959) 45 [(1, .int y1391), (0, .ref (q 0))] []
    refine g_iconst (v := 0) hk dX11_read_45 (by decide) ?_
    refine g_istore_n (lv' := [(2, .int 0), (1, .int y1391), (0, .ref (q 0))]) hk dX11_read_46 (by decide) rfl ?_
    have lp1975 : ∀ (n1976 : Nat) (x1960 : Int32) (I1963 : Nat → Int32) (A1963 : Nat → Nat → Int32), (Md [23, 25, 27] I1959 I1963) → (Md [] A1959 A1963) → (IvX I1963 A1963) → (0 ≤ x1960.toInt) → (x1960.toInt ≤ 3) → (3 - x1960.toInt < (n1976 : Int)) → (0 < n1976) → GW κ 3 0 0 (wX q d I1963 A1963) 47 [(2, .int x1960), (1, .int y1391), (0, .ref (q 0))] [] := by
      intro n1976
      induction n1976 with
      | zero =>
        intro x1960 I1963 A1963 hI1963 hA1963 hV1963 h1973 h1974 m1977 m1977z
        exact absurd m1977z (Nat.lt_irrefl 0)
      | succ n1976 ih =>
        intro x1960 I1963 A1963 hI1963 hA1963 hV1963 h1973 h1974 m1977 m1977z
        refine g_iload_n hk dX11_read_47 rfl ?_
        refine g_aload_n hk dX11_read_48 rfl ?_
        refine gX_r0_6 hk hin11 (List.mem_cons_of_mem _ (List.mem_append_left _ (List.mem_of_getElem? (i := 18) rfl))) dX11_read_49 ?_
        refine nX_14 hk dX11_read_52 ?_
        refine g_icmp_ge (tgt := 72) (a := x1960.toInt) (b := 3) hk dX11_read_53 (by decide) rfl rfl (fun c1978 => ?_) (fun c1978 => ?_)
        · skip
          refine g_iload_n hk dX11_read_72 rfl ?_
          have k1979 : (0 : Int32).toInt = 0 := rfl
          have f1980 := IvX_f0 hIv
          exact g_iret hk hR rfl ⟨I1963, A1963, (show Md [0, 1, 2, 3, 4, 5, 6, 7, 8, 9, 10, 11, 12, 13, 14, 16, 17, 18, 19, 21, 23, 25, 27] I I1963 from (Md.tr (Md.tr (Md.tr (Md.up (Md.tr Md.rf hI1392 rfl) rfl) hI1865 rfl) hI1959 rfl) hI1963 rfl)), (show Md [1, 2, 3, 4, 5, 6, 7, 8, 9, 10] A A1963 from (Md.tr (Md.tr (Md.tr (Md.tr Md.rf hA1392 rfl) hA1865 rfl) hA1959 rfl) hA1963 rfl)), hV1963, y1391, (by rw [show I1963 0 = 0 from ((hI1963 0 rfl).trans ((hI1959 0 rfl).trans (hI1865 0 rfl)))]; omega), rfl, rfl⟩ dX11_read_73
        · skip
          refine g_aload_n hk dX11_read_56 rfl ?_
          refine gX_r0_6 hk hin11 (List.mem_cons_of_mem _ (List.mem_append_left _ (List.mem_of_getElem? (i := 18) rfl))) dX11_read_57 ?_
          refine g_iload_n hk dX11_read_60 rfl ?_
          by_cases c1981 : x1960.toInt = 0
          · have ec1981 : x1960 = 0 := Int32.toInt_inj.mp c1981
            rw [ec1981]
            show GW κ 3 0 0 (wX q d I1963 A1963) 61 [(2, .int 0), (1, .int y1391), (0, .ref (q 0))] [.int 0, .ref (q 24)]
            refine lX_14 hk (vp_in_iff.mpr ⟨by decide, by decide⟩) rfl dX11_read_61 ?_
            refine g_iconst (v := 0) hk dX11_read_62 (by decide) ?_
            refine pX_i23 hk hin8 (List.mem_cons_of_mem _ (List.mem_append_left _ (List.mem_of_getElem? (i := 19) rfl))) ⟨rfl, rfl⟩ dX11_read_63 ?_
            refine g_iinc (v := 1) (lv' := [(2, .int 1), (1, .int y1391), (0, .ref (q 0))]) hk 0 dX11_read_66 rfl (by decide) (by decide) rfl ?_
            refine g_goto (tgt := 47) hk dX11_read_69 (by decide) ?_
            have k1982 : (1 : Int32).toInt = 1 := rfl
            exact g_lv (List.forall_mem_cons.mpr ⟨List.mem_of_getElem? (i := 0) rfl, (List.forall_mem_cons.mpr ⟨List.mem_of_getElem? (i := 1) rfl, (List.forall_mem_cons.mpr ⟨List.mem_of_getElem? (i := 2) rfl, (fun _ h => absurd h List.not_mem_nil)⟩)⟩)⟩) (ih 1 (upd I1963 23 0) A1963 (show Md [23, 25, 27] I1959 (upd I1963 23 0) from Md.tr hI1963 (show Md [23, 25, 27] I1963 (upd I1963 23 0) from (Md.up Md.rf rfl)) rfl) (show Md [] A1959 A1963 from Md.tr hA1963 (show Md [] A1963 A1963 from Md.rf) rfl) ⟨(IvX_f0 (I := I1963) (A := A1963) hV1963), (IvX_f18 (I := I1963) (A := A1963) hV1963), (IvX_f30 (I := I1963) (A := A1963) hV1963), (IvX_f31 (I := I1963) (A := A1963) hV1963), (IvX_a4 (I := I1963) (A := A1963) hV1963), (IvX_a9 (I := I1963) (A := A1963) hV1963), trivial⟩ (by omega) (by omega) (by omega) (by omega))
          by_cases c1983 : x1960.toInt = 1
          · have ec1983 : x1960 = 1 := Int32.toInt_inj.mp c1983
            rw [ec1983]
            show GW κ 3 0 0 (wX q d I1963 A1963) 61 [(2, .int 1), (1, .int y1391), (0, .ref (q 0))] [.int 1, .ref (q 24)]
            refine lX_14 hk (vp_in_iff.mpr ⟨by decide, by decide⟩) rfl dX11_read_61 ?_
            refine g_iconst (v := 0) hk dX11_read_62 (by decide) ?_
            refine pX_i25 hk hin8 (List.mem_cons_of_mem _ (List.mem_append_left _ (List.mem_of_getElem? (i := 19) rfl))) ⟨rfl, rfl⟩ dX11_read_63 ?_
            refine g_iinc (v := 2) (lv' := [(2, .int 2), (1, .int y1391), (0, .ref (q 0))]) hk 0 dX11_read_66 rfl (by decide) (by decide) rfl ?_
            refine g_goto (tgt := 47) hk dX11_read_69 (by decide) ?_
            have k1984 : (2 : Int32).toInt = 2 := rfl
            exact g_lv (List.forall_mem_cons.mpr ⟨List.mem_of_getElem? (i := 0) rfl, (List.forall_mem_cons.mpr ⟨List.mem_of_getElem? (i := 1) rfl, (List.forall_mem_cons.mpr ⟨List.mem_of_getElem? (i := 2) rfl, (fun _ h => absurd h List.not_mem_nil)⟩)⟩)⟩) (ih 2 (upd I1963 25 0) A1963 (show Md [23, 25, 27] I1959 (upd I1963 25 0) from Md.tr hI1963 (show Md [23, 25, 27] I1963 (upd I1963 25 0) from (Md.up Md.rf rfl)) rfl) (show Md [] A1959 A1963 from Md.tr hA1963 (show Md [] A1963 A1963 from Md.rf) rfl) ⟨(IvX_f0 (I := I1963) (A := A1963) hV1963), (IvX_f18 (I := I1963) (A := A1963) hV1963), (IvX_f30 (I := I1963) (A := A1963) hV1963), (IvX_f31 (I := I1963) (A := A1963) hV1963), (IvX_a4 (I := I1963) (A := A1963) hV1963), (IvX_a9 (I := I1963) (A := A1963) hV1963), trivial⟩ (by omega) (by omega) (by omega) (by omega))
          by_cases c1985 : x1960.toInt = 2
          · have ec1985 : x1960 = 2 := Int32.toInt_inj.mp c1985
            rw [ec1985]
            show GW κ 3 0 0 (wX q d I1963 A1963) 61 [(2, .int 2), (1, .int y1391), (0, .ref (q 0))] [.int 2, .ref (q 24)]
            refine lX_14 hk (vp_in_iff.mpr ⟨by decide, by decide⟩) rfl dX11_read_61 ?_
            refine g_iconst (v := 0) hk dX11_read_62 (by decide) ?_
            refine pX_i27 hk hin8 (List.mem_cons_of_mem _ (List.mem_append_left _ (List.mem_of_getElem? (i := 19) rfl))) ⟨rfl, rfl⟩ dX11_read_63 ?_
            refine g_iinc (v := 3) (lv' := [(2, .int 3), (1, .int y1391), (0, .ref (q 0))]) hk 0 dX11_read_66 rfl (by decide) (by decide) rfl ?_
            refine g_goto (tgt := 47) hk dX11_read_69 (by decide) ?_
            have k1986 : (3 : Int32).toInt = 3 := rfl
            exact g_lv (List.forall_mem_cons.mpr ⟨List.mem_of_getElem? (i := 0) rfl, (List.forall_mem_cons.mpr ⟨List.mem_of_getElem? (i := 1) rfl, (List.forall_mem_cons.mpr ⟨List.mem_of_getElem? (i := 2) rfl, (fun _ h => absurd h List.not_mem_nil)⟩)⟩)⟩) (ih 3 (upd I1963 27 0) A1963 (show Md [23, 25, 27] I1959 (upd I1963 27 0) from Md.tr hI1963 (show Md [23, 25, 27] I1963 (upd I1963 27 0) from (Md.up Md.rf rfl)) rfl) (show Md [] A1959 A1963 from Md.tr hA1963 (show Md [] A1963 A1963 from Md.rf) rfl) ⟨(IvX_f0 (I := I1963) (A := A1963) hV1963), (IvX_f18 (I := I1963) (A := A1963) hV1963), (IvX_f30 (I := I1963) (A := A1963) hV1963), (IvX_f31 (I := I1963) (A := A1963) hV1963), (IvX_a4 (I := I1963) (A := A1963) hV1963), (IvX_a9 (I := I1963) (A := A1963) hV1963), trivial⟩ (by omega) (by omega) (by omega) (by omega))
          exfalso; omega
    have k1988 : (0 : Int32).toInt = 0 := rfl
    obtain ⟨n1987, n1987a, n1987b⟩ : ∃ n : Nat, 3 - 0 < (n : Int) ∧ 0 < n := ⟨((3 - 0 : Int)).toNat + 1, by omega, by omega⟩
    exact lp1975 n1987 0 I1959 A1959 Md.rf Md.rf hV1959 (by omega) (by omega) n1987a n1987b
def wo_k176_X11_place : List Cond := [Cond.fieldLink RX11 21 "WarpDesk" "reader" "LWarpDesk$Reader;", Cond.fieldLink RX11 114 "WarpDesk$Reader" "faultPlace" "I"]
def wz_k176_X11_place : List Cond := .code yX11_place cX11_place 1 (some .int) :: (wo_k176_X11_place ++ (wsX50 ++ (wsX110 ++ ([] : List Cond))))
theorem zg_k176_X11_place : ∀ w ∈ wz_k176_X11_place, goodWord w = true := zg_cons rfl (zg_app (by decide +kernel) (zg_app zgU_wsX50 (zg_app zgU_wsX110 zg_nil)))
theorem zi_k176_X11_place : ∀ w ∈ wz_k176_X11_place, w ∈ lw_tbl := zi_cons zw_797 (zi_app (zi_cons zw_488 (zi_cons zw_244 zi_nil)) (zi_app inX5 (zi_app inX11 zi_nil)))
set_option maxHeartbeats 4000000 in
set_option maxRecDepth 100000 in
theorem k176_X11_place (l : Launch) (D : va_G) (zt : Nat × Nat × Nat × (Nat → Nat) × (Nat → Nat)) (q : Nat → Nat) (d : Nat → ClassId) (I : Nat → Int32) (A : Nat → Nat → Int32) (hIv : IvX I A) : GM l D zt (tyX d) yX11_place wz_k176_X11_place ({ frames := 0, cells := 0, slots := 0, locals := 0 } : Room) [.ref (q 0)] (wX q d I A) (fun v _ w' => ∃ y0 : Int32, v = some (.int y0) ∧ w' = wX q d I A) 0 0 := by
  refine GM.of (cc := cX11_place) (maxL := 1) (ret := (some .int)) (own := RX11) (lv := [(0, .ref (q 0))]) (by decide) rfl rfl (Nat.le_of_ble_eq_true rfl) rfl (fun κ sz hk hR hN => ?_)
  have hin5 : ∀ w ∈ u_ws RX5 TX5 13, w ∈ wz_k176_X11_place := fun w h => (List.mem_cons_of_mem _ (List.mem_append_right _ (List.mem_append_left _ h)))
  have hin11 : ∀ w ∈ u_ws RX11 TX11 10, w ∈ wz_k176_X11_place := fun w h => (List.mem_cons_of_mem _ (List.mem_append_right _ (List.mem_append_right _ (List.mem_append_left _ h))))
  refine g_aload_n hk dX11_place_0 rfl ?_
  refine gX_r0_1 hk hin11 (List.mem_cons_of_mem _ (List.mem_append_left _ (List.mem_of_getElem? (i := 0) rfl))) dX11_place_1 ?_
  refine gX_i12 (v := (I 12)) hk hin5 (List.mem_cons_of_mem _ (List.mem_append_left _ (List.mem_of_getElem? (i := 1) rfl))) dX11_place_4 rfl ?_
  have b1989l := Int32.le_toInt (I 12)
  have b1989h := Int32.toInt_lt (I 12)
  exact g_iret hk hR rfl ⟨(I 12), rfl, rfl⟩ dX11_place_7
def wo_k177_X11_cause : List Cond := [Cond.fieldLink RX11 21 "WarpDesk" "reader" "LWarpDesk$Reader;", Cond.fieldLink RX11 117 "WarpDesk$Reader" "faultCause" "I"]
def wz_k177_X11_cause : List Cond := .code yX11_cause cX11_cause 1 (some .int) :: (wo_k177_X11_cause ++ (wsX50 ++ (wsX110 ++ ([] : List Cond))))
theorem zg_k177_X11_cause : ∀ w ∈ wz_k177_X11_cause, goodWord w = true := zg_cons rfl (zg_app (by decide +kernel) (zg_app zgU_wsX50 (zg_app zgU_wsX110 zg_nil)))
theorem zi_k177_X11_cause : ∀ w ∈ wz_k177_X11_cause, w ∈ lw_tbl := zi_cons zw_801 (zi_app (zi_cons zw_488 (zi_cons zw_246 zi_nil)) (zi_app inX5 (zi_app inX11 zi_nil)))
set_option maxHeartbeats 4000000 in
set_option maxRecDepth 100000 in
theorem k177_X11_cause (l : Launch) (D : va_G) (zt : Nat × Nat × Nat × (Nat → Nat) × (Nat → Nat)) (q : Nat → Nat) (d : Nat → ClassId) (I : Nat → Int32) (A : Nat → Nat → Int32) (hIv : IvX I A) : GM l D zt (tyX d) yX11_cause wz_k177_X11_cause ({ frames := 0, cells := 0, slots := 0, locals := 0 } : Room) [.ref (q 0)] (wX q d I A) (fun v _ w' => ∃ y0 : Int32, v = some (.int y0) ∧ w' = wX q d I A) 0 0 := by
  refine GM.of (cc := cX11_cause) (maxL := 1) (ret := (some .int)) (own := RX11) (lv := [(0, .ref (q 0))]) (by decide) rfl rfl (Nat.le_of_ble_eq_true rfl) rfl (fun κ sz hk hR hN => ?_)
  have hin5 : ∀ w ∈ u_ws RX5 TX5 13, w ∈ wz_k177_X11_cause := fun w h => (List.mem_cons_of_mem _ (List.mem_append_right _ (List.mem_append_left _ h)))
  have hin11 : ∀ w ∈ u_ws RX11 TX11 10, w ∈ wz_k177_X11_cause := fun w h => (List.mem_cons_of_mem _ (List.mem_append_right _ (List.mem_append_right _ (List.mem_append_left _ h))))
  refine g_aload_n hk dX11_cause_0 rfl ?_
  refine gX_r0_1 hk hin11 (List.mem_cons_of_mem _ (List.mem_append_left _ (List.mem_of_getElem? (i := 0) rfl))) dX11_cause_1 ?_
  refine gX_i13 (v := (I 13)) hk hin5 (List.mem_cons_of_mem _ (List.mem_append_left _ (List.mem_of_getElem? (i := 1) rfl))) dX11_cause_4 rfl ?_
  have b1990l := Int32.le_toInt (I 13)
  have b1990h := Int32.toInt_lt (I 13)
  exact g_iret hk hR rfl ⟨(I 13), rfl, rfl⟩ dX11_cause_7
def wo_k179_X6_valueAt : List Cond := [Cond.fieldLink RX6 19 "WarpDesk$Series" "size" "I", Cond.fieldLink RX6 11 "WarpDesk$Series" "ring" "[I", Cond.fieldLink RX6 15 "WarpDesk$Series" "first" "I"]
def wz_k179_X6_valueAt : List Cond := .code yX6_valueAt cX6_valueAt 2 (some .int) :: (wo_k179_X6_valueAt ++ (wsX60 ++ ([] : List Cond)))
theorem zg_k179_X6_valueAt : ∀ w ∈ wz_k179_X6_valueAt, goodWord w = true := zg_cons rfl (zg_app (by decide +kernel) (zg_app zgU_wsX60 zg_nil))
theorem zi_k179_X6_valueAt : ∀ w ∈ wz_k179_X6_valueAt, w ∈ lw_tbl := zi_cons zw_809 (zi_app (zi_cons zw_282 (zi_cons zw_280 (zi_cons zw_281 zi_nil))) (zi_app inX6 zi_nil))
set_option maxHeartbeats 4000000 in
set_option maxRecDepth 100000 in
theorem k179_X6_valueAt (l : Launch) (D : va_G) (zt : Nat × Nat × Nat × (Nat → Nat) × (Nat → Nat)) (q : Nat → Nat) (d : Nat → ClassId) (I : Nat → Int32) (A : Nat → Nat → Int32) (z1 : Int32) (hIv : IvX I A) : GM l D zt (tyX d) yX6_valueAt wz_k179_X6_valueAt ({ frames := 0, cells := 0, slots := 0, locals := 0 } : Room) [.ref (q 13), .int z1] (wX q d I A) (fun v _ w' => ∃ y0 : Int32, v = some (.int y0) ∧ w' = wX q d I A) 0 0 := by
  refine GM.of (cc := cX6_valueAt) (maxL := 2) (ret := (some .int)) (own := RX6) (lv := [(0, .ref (q 13)), (1, .int z1)]) (by decide) rfl rfl (Nat.le_of_ble_eq_true rfl) rfl (fun κ sz hk hR hN => ?_)
  have hin6 : ∀ w ∈ u_ws RX6 TX6 3, w ∈ wz_k179_X6_valueAt := fun w h => (List.mem_cons_of_mem _ (List.mem_append_right _ (List.mem_append_left _ h)))
  refine g_iload_n hk dX6_valueAt_0 rfl ?_
  have b1991l := Int32.le_toInt z1
  have b1991h := Int32.toInt_lt z1
  refine g_if_lt (tgt := 30) (a := z1.toInt) hk dX6_valueAt_1 (by decide) rfl (fun c1992 => ?_) (fun c1992 => ?_)
  · skip
    refine g_sipush (v := (-1000)) hk dX6_valueAt_30 (by decide) ?_
    exact g_iret hk hR rfl ⟨(-1000), rfl, rfl⟩ dX6_valueAt_33
  · skip
    refine g_iload_n hk dX6_valueAt_4 rfl ?_
    refine g_aload_n hk dX6_valueAt_5 rfl ?_
    refine gX_i18 (v := (I 18)) hk hin6 (List.mem_cons_of_mem _ (List.mem_append_left _ (List.mem_of_getElem? (i := 0) rfl))) dX6_valueAt_6 rfl ?_
    have f1993 := IvX_f18 hIv
    refine g_icmp_ge (tgt := 30) (a := z1.toInt) (b := (I 18).toInt) hk dX6_valueAt_9 (by decide) rfl rfl (fun c1994 => ?_) (fun c1994 => ?_)
    · skip
      refine g_sipush (v := (-1000)) hk dX6_valueAt_30 (by decide) ?_
      exact g_iret hk hR rfl ⟨(-1000), rfl, rfl⟩ dX6_valueAt_33
    · skip
      refine g_aload_n hk dX6_valueAt_12 rfl ?_
      refine gX_r13_0 hk hin6 (List.mem_cons_of_mem _ (List.mem_append_left _ (List.mem_of_getElem? (i := 1) rfl))) dX6_valueAt_13 ?_
      refine g_aload_n hk dX6_valueAt_16 rfl ?_
      refine gX_i17 (v := (I 17)) hk hin6 (List.mem_cons_of_mem _ (List.mem_append_left _ (List.mem_of_getElem? (i := 2) rfl))) dX6_valueAt_17 rfl ?_
      refine g_iload_n hk dX6_valueAt_20 rfl ?_
      have b1995l := Int32.le_toInt (I 17)
      have b1995h := Int32.toInt_lt (I 17)
      refine g_iadd hk dX6_valueAt_21 ?_
      refine g_topi (fun y1996 ey1996 => ?_)
      refine g_sipush (v := 255) hk dX6_valueAt_22 (by decide) ?_
      have b1997l := Int32.le_toInt y1996
      have b1997h := Int32.toInt_lt y1996
      refine g_iand hk dX6_valueAt_25 ?_
      refine g_topi (fun y1998 ey1998 => ?_)
      have hy1998 : 0 ≤ y1998.toInt ∧ y1998.toInt ≤ 255 := i32_mask 8 ey1998 (by decide) (by decide)
      refine lX_7 (v := (A 7 y1998.toNatClampNeg)) hk (vp_in_iff.mpr ⟨by omega, by omega⟩) rfl dX6_valueAt_26 ?_
      refine g_goto (tgt := 33) hk dX6_valueAt_27 (by decide) ?_
      have b1999l := Int32.le_toInt (A 7 y1998.toNatClampNeg)
      have b1999h := Int32.toInt_lt (A 7 y1998.toNatClampNeg)
      exact g_iret hk hR rfl ⟨(A 7 y1998.toNatClampNeg), rfl, rfl⟩ dX6_valueAt_33
def wo_k178_X11_at : List Cond := [Cond.fieldLink RX11 28 "WarpDesk" "series" "LWarpDesk$Series;", Cond.methodLink RX11 120 yX6_valueAt, Cond.instanceMethod yX6_valueAt, Cond.selects RX6 yX6_valueAt yX6_valueAt, Cond.initialized RX6]
def wz_k178_X11_at : List Cond := .code yX11_at cX11_at 2 (some .int) :: (wo_k178_X11_at ++ (wsX110 ++ (wz_k179_X6_valueAt ++ ([] : List Cond))))
theorem zg_k178_X11_at : ∀ w ∈ wz_k178_X11_at, goodWord w = true := zg_cons rfl (zg_app (by decide +kernel) (zg_app zgU_wsX110 (zg_app zg_k179_X6_valueAt zg_nil)))
theorem zi_k178_X11_at : ∀ w ∈ wz_k178_X11_at, w ∈ lw_tbl := zi_cons zw_805 (zi_app (zi_cons zw_489 (zi_cons zw_806 (zi_cons zw_807 (zi_cons zw_808 (zi_cons zw_109 zi_nil))))) (zi_app inX11 (zi_app zi_k179_X6_valueAt zi_nil)))
set_option maxHeartbeats 4000000 in
set_option maxRecDepth 100000 in
theorem k178_X11_at (l : Launch) (D : va_G) (zt : Nat × Nat × Nat × (Nat → Nat) × (Nat → Nat)) (q : Nat → Nat) (d : Nat → ClassId) (I : Nat → Int32) (A : Nat → Nat → Int32) (z1 : Int32) (hIv : IvX I A) : GM l D zt (tyX d) yX11_at wz_k178_X11_at ({ frames := 1, cells := 0, slots := 0, locals := 21 } : Room) [.ref (q 0), .int z1] (wX q d I A) (fun v _ w' => ∃ y0 : Int32, v = some (.int y0) ∧ w' = wX q d I A) 0 0 := by
  refine GM.of (cc := cX11_at) (maxL := 2) (ret := (some .int)) (own := RX11) (lv := [(0, .ref (q 0)), (1, .int z1)]) (by decide) rfl rfl (Nat.le_of_ble_eq_true rfl) rfl (fun κ sz hk hR hN => ?_)
  have hin11 : ∀ w ∈ u_ws RX11 TX11 10, w ∈ wz_k178_X11_at := fun w h => (List.mem_cons_of_mem _ (List.mem_append_right _ (List.mem_append_left _ h)))
  refine g_aload_n hk dX11_at_0 rfl ?_
  refine gX_r0_2 hk hin11 (List.mem_cons_of_mem _ (List.mem_append_left _ (List.mem_of_getElem? (i := 0) rfl))) dX11_at_1 ?_
  refine g_iload_n hk dX11_at_4 rfl ?_
  refine g_callV (n := 1) hk (k179_X6_valueAt l D zt q d I A z1 hIv) (SP.same _) (fun _ h => h) (gi_V (List.mem_cons_of_mem _ (List.mem_append_left _ (List.mem_of_getElem? (i := 1) rfl))) (List.mem_cons_of_mem _ (List.mem_append_left _ (List.mem_of_getElem? (i := 2) rfl))) (List.mem_cons_of_mem _ (List.mem_append_left _ (List.mem_of_getElem? (i := 3) rfl))) (List.mem_cons_of_mem _ (List.mem_append_left _ (List.mem_of_getElem? (i := 4) rfl))) (gi_sub (fun w h => (List.mem_cons_of_mem _ (List.mem_append_right _ (List.mem_append_right _ (List.mem_append_left _ h))))) zg_k179_X6_valueAt)) rfl rfl rfl (by decide +kernel) ⟨Nat.le_of_ble_eq_true rfl, Nat.le_of_ble_eq_true rfl⟩ 13 rfl rfl rfl rfl (Nat.le_of_ble_eq_true rfl) ⟨Nat.le_of_ble_eq_true rfl, Nat.le_of_ble_eq_true rfl⟩ dX11_at_5 (fun v ty' w' hp hk' => ?_)
  obtain ⟨y2000, rfl, rfl⟩ := hp
  show GW κ 2 0 0 (wX q d I A) 8 [(0, .ref (q 0)), (1, .int z1)] [.int y2000]
  have b2001l := Int32.le_toInt y2000
  have b2001h := Int32.toInt_lt y2000
  exact g_iret hk hR rfl ⟨y2000, rfl, rfl⟩ dX11_at_8
def wo_k182_X4_lengthOf : List Cond := [Cond.methodLink RX4 22 yX4_has, Cond.instanceMethod yX4_has, Cond.selects RX4 yX4_has yX4_has, Cond.initialized RX4, Cond.fieldLink RX4 15 "WarpDesk$Queries" "lengths" "[I"]
def wz_k182_X4_lengthOf : List Cond := .code yX4_lengthOf cX4_lengthOf 2 (some .int) :: (wo_k182_X4_lengthOf ++ (wsX40 ++ (wz_k168_X4_has ++ ([] : List Cond))))
theorem zg_k182_X4_lengthOf : ∀ w ∈ wz_k182_X4_lengthOf, goodWord w = true := zg_cons rfl (zg_app (by decide +kernel) (zg_app zgU_wsX40 (zg_app zg_k168_X4_has zg_nil)))
theorem zi_k182_X4_lengthOf : ∀ w ∈ wz_k182_X4_lengthOf, w ∈ lw_tbl := zi_cons zw_759 (zi_app (zi_cons zw_746 (zi_cons zw_747 (zi_cons zw_748 (zi_cons zw_108 (zi_cons zw_218 zi_nil))))) (zi_app inX4 (zi_app zi_k168_X4_has zi_nil)))
set_option maxHeartbeats 4000000 in
set_option maxRecDepth 100000 in
theorem k182_X4_lengthOf (l : Launch) (D : va_G) (zt : Nat × Nat × Nat × (Nat → Nat) × (Nat → Nat)) (q : Nat → Nat) (d : Nat → ClassId) (I : Nat → Int32) (A : Nat → Nat → Int32) (z1 : Int32) (hIv : IvX I A) : GM l D zt (tyX d) yX4_lengthOf wz_k182_X4_lengthOf ({ frames := 1, cells := 0, slots := 0, locals := 21 } : Room) [.ref (q 15), .int z1] (wX q d I A) (fun v _ w' => (v = some (.int 0) ∧ w' = wX q d I A) ∨ (∃ y0 : Int32, (¬ (z1.toInt < 0)) ∧ (¬ (5 ≤ z1.toInt)) ∧ (0 ≤ z1.toInt) ∧ (z1.toInt ≤ 4) ∧ (0 ≤ z1.toInt) ∧ (z1.toInt ≤ 4) ∧ (0 ≤ y0.toInt) ∧ (y0.toInt ≤ 16) ∧ v = some (.int y0) ∧ w' = wX q d I A)) 0 0 := by
  refine GM.of (cc := cX4_lengthOf) (maxL := 2) (ret := (some .int)) (own := RX4) (lv := [(0, .ref (q 15)), (1, .int z1)]) (by decide) rfl rfl (Nat.le_of_ble_eq_true rfl) rfl (fun κ sz hk hR hN => ?_)
  have hin4 : ∀ w ∈ u_ws RX4 TX4 3, w ∈ wz_k182_X4_lengthOf := fun w h => (List.mem_cons_of_mem _ (List.mem_append_right _ (List.mem_append_left _ h)))
  refine g_aload_n hk dX4_lengthOf_0 rfl ?_
  refine g_iload_n hk dX4_lengthOf_1 rfl ?_
  refine g_callV (n := 1) hk (k168_X4_has l D zt q d I A z1 hIv) (SP.same _) (fun _ h => h) (gi_V (List.mem_cons_of_mem _ (List.mem_append_left _ (List.mem_of_getElem? (i := 0) rfl))) (List.mem_cons_of_mem _ (List.mem_append_left _ (List.mem_of_getElem? (i := 1) rfl))) (List.mem_cons_of_mem _ (List.mem_append_left _ (List.mem_of_getElem? (i := 2) rfl))) (List.mem_cons_of_mem _ (List.mem_append_left _ (List.mem_of_getElem? (i := 3) rfl))) (gi_sub (fun w h => (List.mem_cons_of_mem _ (List.mem_append_right _ (List.mem_append_right _ (List.mem_append_left _ h))))) zg_k168_X4_has)) rfl rfl rfl (by decide +kernel) ⟨Nat.le_of_ble_eq_true rfl, Nat.le_of_ble_eq_true rfl⟩ 15 rfl rfl rfl rfl (Nat.le_of_ble_eq_true rfl) ⟨Nat.le_of_ble_eq_true rfl, Nat.le_of_ble_eq_true rfl⟩ dX4_lengthOf_2 (fun v ty' w' hp hk' => ?_)
  rcases hp with ⟨rfl, rfl⟩ | ⟨c2006, c2007, c2008, c2009, rfl, rfl⟩
  · skip
    show GW κ 2 0 0 (wX q d I A) 5 [(0, .ref (q 15)), (1, .int z1)] [.int 0]
    refine g_if_eq (tgt := 17) (a := 0) hk dX4_lengthOf_5 (by decide) rfl (fun _ => ?_) (fun z9 => absurd (show (0 : Int) = (0 : Int) from by decide) z9)
    refine g_iconst (v := 0) hk dX4_lengthOf_17 (by decide) ?_
    exact g_iret hk hR rfl (Or.inl ⟨rfl, rfl⟩) dX4_lengthOf_18
  · skip
    show GW κ 2 0 0 (wX q d I A) 5 [(0, .ref (q 15)), (1, .int z1)] [.int 1]
    refine g_if_eq (tgt := 17) (a := 1) hk dX4_lengthOf_5 (by decide) rfl (fun z9 => absurd z9 (show ¬ ((1 : Int) = (0 : Int)) from by decide)) (fun _ => ?_)
    refine g_aload_n hk dX4_lengthOf_8 rfl ?_
    refine gX_r15_1 hk hin4 (List.mem_cons_of_mem _ (List.mem_append_left _ (List.mem_of_getElem? (i := 4) rfl))) dX4_lengthOf_9 ?_
    refine g_iload_n hk dX4_lengthOf_12 rfl ?_
    refine lX_9 (v := (A 9 z1.toNatClampNeg)) hk (vp_in_iff.mpr ⟨by omega, by omega⟩) rfl dX4_lengthOf_13 ?_
    have f2011 := IvX_a9 hIv (z1.toNatClampNeg)
    refine g_goto (tgt := 18) hk dX4_lengthOf_14 (by decide) ?_
    exact g_iret hk hR rfl (Or.inr (⟨(A 9 z1.toNatClampNeg), c2006, c2007, c2008, c2009, (by omega), (by omega), (by omega), (by omega), rfl, rfl⟩)) dX4_lengthOf_18
