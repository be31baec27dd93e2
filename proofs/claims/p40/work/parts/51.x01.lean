def wo_k154_X4_append : List Cond := [Cond.fieldLink RX4 18 "WarpDesk$Queries" "size" "I", Cond.methodLink RX4 22 yX4_has, Cond.instanceMethod yX4_has, Cond.selects RX4 yX4_has yX4_has, Cond.initialized RX4, Cond.fieldLink RX4 15 "WarpDesk$Queries" "lengths" "[I", Cond.fieldLink RX4 9 "WarpDesk$Queries" "readings" "[I"]
def wz_k154_X4_append : List Cond := .code yX4_append cX4_append 3 none :: (wo_k154_X4_append ++ (wsX40 ++ (wz_k155_X4_has ++ ([] : List Cond))))
theorem zg_k154_X4_append : ∀ w ∈ wz_k154_X4_append, goodWord w = true := zg_cons rfl (zg_app (by decide +kernel) (zg_app zgU_wsX40 (zg_app zg_k155_X4_has zg_nil)))
theorem zi_k154_X4_append : ∀ w ∈ wz_k154_X4_append, w ∈ lw_tbl := zi_cons zw_745 (zi_app (zi_cons zw_219 (zi_cons zw_746 (zi_cons zw_747 (zi_cons zw_748 (zi_cons zw_108 (zi_cons zw_218 (zi_cons zw_217 zi_nil))))))) (zi_app inX4 (zi_app zi_k155_X4_has zi_nil)))
set_option maxHeartbeats 4000000 in
set_option maxRecDepth 100000 in
theorem k154_X4_append (l : Launch) (D : va_G) (zt : Nat × Nat × Nat × (Nat → Nat) × (Nat → Nat)) (q : Nat → Nat) (d : Nat → ClassId) (I : Nat → Int32) (A : Nat → Nat → Int32) (z1 : Int32) (hIv : IvX I A) : GM l D zt (tyX d) yX4_append wz_k154_X4_append ({ frames := 1, cells := 0, slots := 0, locals := 21 } : Room) [.ref (q 8), .int z1] (wX q d I A) (fun v _ w' => ∃ (I' : Nat → Int32) (A' : Nat → Nat → Int32), Md [] I I' ∧ Md [3, 4] A A' ∧ IvX I' A' ∧ v = none ∧ w' = wX q d I' A') 0 0 := by
  refine GM.of (cc := cX4_append) (maxL := 3) (ret := none) (own := RX4) (lv := [(0, .ref (q 8)), (1, .int z1)]) (by decide) rfl rfl (Nat.le_of_ble_eq_true rfl) rfl (fun κ sz hk hR hN => ?_)
  have hin4 : ∀ w ∈ u_ws RX4 TX4 3, w ∈ wz_k154_X4_append := fun w h => (List.mem_cons_of_mem _ (List.mem_append_right _ (List.mem_append_left _ h)))
  refine g_aload_n hk dX4_append_0 rfl ?_
  refine gX_i16 (v := (I 16)) hk hin4 (List.mem_cons_of_mem _ (List.mem_append_left _ (List.mem_of_getElem? (i := 0) rfl))) dX4_append_1 rfl ?_
  refine g_iconst (v := 1) hk dX4_append_4 (by decide) ?_
  have b944l := Int32.le_toInt (I 16)
  have b944h := Int32.toInt_lt (I 16)
  refine g_isub hk dX4_append_5 ?_
  refine g_topi (fun y945 ey945 => ?_)
  have hy945 := i32_sub0 ey945
  refine g_istore_n (lv' := [(2, .int y945), (0, .ref (q 8)), (1, .int z1)]) hk dX4_append_6 (by decide) rfl ?_
  refine g_aload_n hk dX4_append_7 rfl ?_
  refine g_iload_n hk dX4_append_8 rfl ?_
  refine g_callV (n := 1) hk (k155_X4_has l D zt q d I A y945 hIv) (SP.same _) (fun _ h => h) (gi_V (List.mem_cons_of_mem _ (List.mem_append_left _ (List.mem_of_getElem? (i := 1) rfl))) (List.mem_cons_of_mem _ (List.mem_append_left _ (List.mem_of_getElem? (i := 2) rfl))) (List.mem_cons_of_mem _ (List.mem_append_left _ (List.mem_of_getElem? (i := 3) rfl))) (List.mem_cons_of_mem _ (List.mem_append_left _ (List.mem_of_getElem? (i := 4) rfl))) (gi_sub (fun w h => (List.mem_cons_of_mem _ (List.mem_append_right _ (List.mem_append_right _ (List.mem_append_left _ h))))) zg_k155_X4_has)) rfl rfl rfl (by decide +kernel) ⟨Nat.le_of_ble_eq_true rfl, Nat.le_of_ble_eq_true rfl⟩ 8 rfl rfl rfl rfl (Nat.le_of_ble_eq_true rfl) ⟨Nat.le_of_ble_eq_true rfl, Nat.le_of_ble_eq_true rfl⟩ dX4_append_9 (fun v ty' w' hp hk' => ?_)
  rcases hp with ⟨rfl, rfl⟩ | ⟨c952, c953, c954, c955, rfl, rfl⟩
  · skip
    show GW κ 3 0 0 (wX q d I A) 12 [(2, .int y945), (0, .ref (q 8)), (1, .int z1)] [.int 0]
    refine g_if_eq (tgt := 53) (a := 0) hk dX4_append_12 (by decide) rfl (fun _ => ?_) (fun z9 => absurd (show (0 : Int) = (0 : Int) from by decide) z9)
    exact g_vret hk hR ⟨I, A, (show Md [] I I from Md.rf), (show Md [3, 4] A A from Md.rf), hIv, rfl, rfl⟩ dX4_append_53
  · skip
    show GW κ 3 0 0 (wX q d I A) 12 [(2, .int y945), (0, .ref (q 8)), (1, .int z1)] [.int 1]
    refine g_if_eq (tgt := 53) (a := 1) hk dX4_append_12 (by decide) rfl (fun z9 => absurd z9 (show ¬ ((1 : Int) = (0 : Int)) from by decide)) (fun _ => ?_)
    refine g_aload_n hk dX4_append_15 rfl ?_
    refine gX_r8_1 hk hin4 (List.mem_cons_of_mem _ (List.mem_append_left _ (List.mem_of_getElem? (i := 5) rfl))) dX4_append_16 ?_
    refine g_iload_n hk dX4_append_19 rfl ?_
    refine lX_4 (v := (A 4 y945.toNatClampNeg)) hk (vp_in_iff.mpr ⟨by omega, by omega⟩) rfl dX4_append_20 ?_
    have f957 := IvX_a4 hIv (y945.toNatClampNeg)
    refine g_bipush (v := 16) hk dX4_append_21 (by decide) ?_
    refine g_icmp_ge (tgt := 53) (a := (A 4 y945.toNatClampNeg).toInt) (b := 16) hk dX4_append_23 (by decide) rfl rfl (fun c958 => ?_) (fun c958 => ?_)
    · skip
      exact g_vret hk hR ⟨I, A, (show Md [] I I from Md.rf), (show Md [3, 4] A A from Md.rf), hIv, rfl, rfl⟩ dX4_append_53
    · skip
      refine g_aload_n hk dX4_append_26 rfl ?_
      refine gX_r8_0 hk hin4 (List.mem_cons_of_mem _ (List.mem_append_left _ (List.mem_of_getElem? (i := 6) rfl))) dX4_append_27 ?_
      refine g_iload_n hk dX4_append_30 rfl ?_
      refine g_bipush (v := 16) hk dX4_append_31 (by decide) ?_
      refine g_imul hk dX4_append_33 ?_
      refine g_topi (fun y959 ey959 => ?_)
      have hy959 : y959.toInt = y945.toInt * 16 := i32_mul ey959 rfl rfl (by omega) (by omega)
      refine g_aload_n hk dX4_append_34 rfl ?_
      refine gX_r8_1 hk hin4 (List.mem_cons_of_mem _ (List.mem_append_left _ (List.mem_of_getElem? (i := 5) rfl))) dX4_append_35 ?_
      refine g_iload_n hk dX4_append_38 rfl ?_
      refine lX_4 (v := (A 4 y945.toNatClampNeg)) hk (vp_in_iff.mpr ⟨by omega, by omega⟩) rfl dX4_append_39 ?_
      refine g_iadd hk dX4_append_40 ?_
      refine g_topi (fun y960 ey960 => ?_)
      have hy960 : y960.toInt = y959.toInt + (A 4 y945.toNatClampNeg).toInt := i32_add ey960 rfl rfl (by omega) (by omega)
      refine g_iload_n hk dX4_append_41 rfl ?_
      refine sX_3 (j := y960.toNatClampNeg) hk (vp_in_iff.mpr ⟨by omega, by omega⟩) rfl dX4_append_42 ?_
      refine g_aload_n hk dX4_append_43 rfl ?_
      refine gX_r8_1 hk hin4 (List.mem_cons_of_mem _ (List.mem_append_left _ (List.mem_of_getElem? (i := 5) rfl))) dX4_append_44 ?_
      refine g_iload_n hk dX4_append_47 rfl ?_
      refine g_dup2 hk dX4_append_48 rfl rfl ?_
      refine lX_4 (v := (A 4 y945.toNatClampNeg)) hk (vp_in_iff.mpr ⟨by omega, by omega⟩) rfl dX4_append_49 ?_
      refine g_iconst (v := 1) hk dX4_append_50 (by decide) ?_
      refine g_iadd hk dX4_append_51 ?_
      refine g_topi (fun y961 ey961 => ?_)
      have hy961 : y961.toInt = (A 4 y945.toNatClampNeg).toInt + 1 := i32_add ey961 rfl rfl (by omega) (by omega)
      refine sX_4 (j := y945.toNatClampNeg) hk (vp_in_iff.mpr ⟨by omega, by omega⟩) rfl dX4_append_52 ?_
      have hA962 : ∀ j, 0 ≤ ((up3 (up3 A 3 (y960.toNatClampNeg) z1) 4 (y945.toNatClampNeg) y961) 4 j).toInt ∧ ((up3 (up3 A 3 (y960.toNatClampNeg) z1) 4 (y945.toNatClampNeg) y961) 4 j).toInt ≤ 16 := ai_st ((IvX_a4 hIv)) ⟨by omega, by omega⟩
      exact g_vret hk hR ⟨I, (up3 (up3 A 3 (y960.toNatClampNeg) z1) 4 (y945.toNatClampNeg) y961), (show Md [] I I from Md.rf), (show Md [3, 4] A (up3 (up3 A 3 (y960.toNatClampNeg) z1) 4 (y945.toNatClampNeg) y961) from (Md.up3 (Md.up3 Md.rf rfl) rfl)), ⟨(IvX_f0 (I := I) (A := A) hIv), (IvX_f18 (I := I) (A := A) hIv), (IvX_f30 (I := I) (A := A) hIv), (IvX_f31 (I := I) (A := A) hIv), hA962, (IvX_a9 (I := I) (A := A) hIv), trivial⟩, rfl, rfl⟩ dX4_append_53
def wo_k156_X8_append : List Cond := [Cond.fieldLink RX8 22 "WarpDesk$Stand" "size" "I", Cond.fieldLink RX8 9 "WarpDesk$Stand" "places" "[I"]
def wz_k156_X8_append : List Cond := .code yX8_append cX8_append 2 none :: (wo_k156_X8_append ++ (wsX80 ++ ([] : List Cond)))
theorem zg_k156_X8_append : ∀ w ∈ wz_k156_X8_append, goodWord w = true := zg_cons rfl (zg_app (by decide +kernel) (zg_app zgU_wsX80 zg_nil))
theorem zi_k156_X8_append : ∀ w ∈ wz_k156_X8_append, w ∈ lw_tbl := zi_cons zw_741 (zi_app (zi_cons zw_195 (zi_cons zw_194 zi_nil)) (zi_app inX8 zi_nil))
set_option maxHeartbeats 4000000 in
set_option maxRecDepth 100000 in
theorem k156_X8_append (l : Launch) (D : va_G) (zt : Nat × Nat × Nat × (Nat → Nat) × (Nat → Nat)) (q : Nat → Nat) (d : Nat → ClassId) (I : Nat → Int32) (A : Nat → Nat → Int32) (z1 : Int32) (hIv : IvX I A) : GM l D zt (tyX d) yX8_append wz_k156_X8_append ({ frames := 0, cells := 0, slots := 0, locals := 0 } : Room) [.ref (q 4), .int z1] (wX q d I A) (fun v _ w' => ∃ (I' : Nat → Int32) (A' : Nat → Nat → Int32), Md [14] I I' ∧ Md [1] A A' ∧ IvX I' A' ∧ v = none ∧ w' = wX q d I' A') 0 0 := by
  refine GM.of (cc := cX8_append) (maxL := 2) (ret := none) (own := RX8) (lv := [(0, .ref (q 4)), (1, .int z1)]) (by decide) rfl rfl (Nat.le_of_ble_eq_true rfl) rfl (fun κ sz hk hR hN => ?_)
  have hin8 : ∀ w ∈ u_ws RX8 TX8 4, w ∈ wz_k156_X8_append := fun w h => (List.mem_cons_of_mem _ (List.mem_append_right _ (List.mem_append_left _ h)))
  refine g_aload_n hk dX8_append_0 rfl ?_
  refine gX_i14 (v := (I 14)) hk hin8 (List.mem_cons_of_mem _ (List.mem_append_left _ (List.mem_of_getElem? (i := 0) rfl))) dX8_append_1 rfl ?_
  have b967l := Int32.le_toInt (I 14)
  have b967h := Int32.toInt_lt (I 14)
  refine g_if_lt (tgt := 39) (a := (I 14).toInt) hk dX8_append_4 (by decide) rfl (fun c968 => ?_) (fun c968 => ?_)
  · skip
    exact g_vret hk hR ⟨I, A, (show Md [14] I I from Md.rf), (show Md [1] A A from Md.rf), hIv, rfl, rfl⟩ dX8_append_39
  · skip
    refine g_aload_n hk dX8_append_7 rfl ?_
    refine gX_i14 (v := (I 14)) hk hin8 (List.mem_cons_of_mem _ (List.mem_append_left _ (List.mem_of_getElem? (i := 0) rfl))) dX8_append_8 rfl ?_
    refine g_aload_n hk dX8_append_11 rfl ?_
    refine gX_r4_0 hk hin8 (List.mem_cons_of_mem _ (List.mem_append_left _ (List.mem_of_getElem? (i := 1) rfl))) dX8_append_12 ?_
    refine nX_1 hk dX8_append_15 ?_
    refine g_icmp_ge (tgt := 39) (a := (I 14).toInt) (b := 160) hk dX8_append_16 (by decide) rfl rfl (fun c969 => ?_) (fun c969 => ?_)
    · skip
      exact g_vret hk hR ⟨I, A, (show Md [14] I I from Md.rf), (show Md [1] A A from Md.rf), hIv, rfl, rfl⟩ dX8_append_39
    · skip
      refine g_aload_n hk dX8_append_19 rfl ?_
      refine gX_r4_0 hk hin8 (List.mem_cons_of_mem _ (List.mem_append_left _ (List.mem_of_getElem? (i := 1) rfl))) dX8_append_20 ?_
      refine g_aload_n hk dX8_append_23 rfl ?_
      refine gX_i14 (v := (I 14)) hk hin8 (List.mem_cons_of_mem _ (List.mem_append_left _ (List.mem_of_getElem? (i := 0) rfl))) dX8_append_24 rfl ?_
      refine g_iload_n hk dX8_append_27 rfl ?_
      refine sX_1 (j := (I 14).toNatClampNeg) hk (vp_in_iff.mpr ⟨by omega, by omega⟩) rfl dX8_append_28 ?_
      refine g_aload_n hk dX8_append_29 rfl ?_
      refine g_dup hk dX8_append_30 rfl ?_
      refine gX_i14 (v := (I 14)) hk hin8 (List.mem_cons_of_mem _ (List.mem_append_left _ (List.mem_of_getElem? (i := 0) rfl))) dX8_append_31 rfl ?_
      refine g_iconst (v := 1) hk dX8_append_34 (by decide) ?_
      refine g_iadd hk dX8_append_35 ?_
      refine g_topi (fun y970 ey970 => ?_)
      have hy970 : y970.toInt = (I 14).toInt + 1 := i32_add ey970 rfl rfl (by omega) (by omega)
      refine pX_i14 hk hin8 (List.mem_cons_of_mem _ (List.mem_append_left _ (List.mem_of_getElem? (i := 0) rfl))) dX8_append_36 ?_
      exact g_vret hk hR ⟨(upd I 14 y970), (up3 A 1 ((I 14).toNatClampNeg) z1), (show Md [14] I (upd I 14 y970) from (Md.up Md.rf rfl)), (show Md [1] A (up3 A 1 ((I 14).toNatClampNeg) z1) from (Md.up3 Md.rf rfl)), ⟨(IvX_f0 (I := I) (A := A) hIv), (IvX_f18 (I := I) (A := A) hIv), (IvX_f30 (I := I) (A := A) hIv), (IvX_f31 (I := I) (A := A) hIv), (IvX_a4 (I := I) (A := A) hIv), (IvX_a9 (I := I) (A := A) hIv), trivial⟩, rfl, rfl⟩ dX8_append_39
def wo_k153_X5_keepInRow : List Cond := [Cond.fieldLink RX5 75 "WarpDesk$Reader" "state" "I", Cond.fieldLink RX5 21 "WarpDesk$Reader" "queries" "LWarpDesk$Queries;", Cond.methodLink RX5 202 yX4_append, Cond.instanceMethod yX4_append, Cond.selects RX4 yX4_append yX4_append, Cond.initialized RX4, Cond.fieldLink RX5 32 "WarpDesk$Reader" "told" "I", Cond.fieldLink RX5 87 "WarpDesk$Reader" "isNegative" "Z", Cond.fieldLink RX5 12 "WarpDesk$Reader" "draft" "LWarpDesk$Stand;", Cond.methodLink RX5 199 yX8_append, Cond.instanceMethod yX8_append, Cond.selects RX8 yX8_append yX8_append, Cond.initialized RX8]
def wz_k153_X5_keepInRow : List Cond := .code yX5_keepInRow cX5_keepInRow 2 none :: (wo_k153_X5_keepInRow ++ (wsX50 ++ (wz_k154_X4_append ++ (wz_k156_X8_append ++ ([] : List Cond)))))
theorem zg_k153_X5_keepInRow : ∀ w ∈ wz_k153_X5_keepInRow, goodWord w = true := zg_cons rfl (zg_app (by decide +kernel) (zg_app zgU_wsX50 (zg_app zg_k154_X4_append (zg_app zg_k156_X8_append zg_nil))))
theorem zi_k153_X5_keepInRow : ∀ w ∈ wz_k153_X5_keepInRow, w ∈ lw_tbl := zi_cons zw_737 (zi_app (zi_cons zw_237 (zi_cons zw_233 (zi_cons zw_742 (zi_cons zw_743 (zi_cons zw_744 (zi_cons zw_108 (zi_cons zw_240 (zi_cons zw_239 (zi_cons zw_231 (zi_cons zw_738 (zi_cons zw_739 (zi_cons zw_740 (zi_cons zw_106 zi_nil))))))))))))) (zi_app inX5 (zi_app zi_k154_X4_append (zi_app zi_k156_X8_append zi_nil))))
set_option maxHeartbeats 4000000 in
set_option maxRecDepth 100000 in
theorem k153_X5_keepInRow (l : Launch) (D : va_G) (zt : Nat × Nat × Nat × (Nat → Nat) × (Nat → Nat)) (q : Nat → Nat) (d : Nat → ClassId) (I : Nat → Int32) (A : Nat → Nat → Int32) (z1 : Int32) (hIv : IvX I A) : GM l D zt (tyX d) yX5_keepInRow wz_k153_X5_keepInRow ({ frames := 2, cells := 0, slots := 0, locals := 43 } : Room) [.ref (q 3), .int z1] (wX q d I A) (fun v _ w' => ∃ (I' : Nat → Int32) (A' : Nat → Nat → Int32), Md [8, 9, 14] I I' ∧ Md [1, 3, 4] A A' ∧ IvX I' A' ∧ v = none ∧ w' = wX q d I' A') 0 0 := by
  refine GM.of (cc := cX5_keepInRow) (maxL := 2) (ret := none) (own := RX5) (lv := [(0, .ref (q 3)), (1, .int z1)]) (by decide) rfl rfl (Nat.le_of_ble_eq_true rfl) rfl (fun κ sz hk hR hN => ?_)
  have hin5 : ∀ w ∈ u_ws RX5 TX5 13, w ∈ wz_k153_X5_keepInRow := fun w h => (List.mem_cons_of_mem _ (List.mem_append_right _ (List.mem_append_left _ h)))
  refine g_aload_n hk dX5_keepInRow_0 rfl ?_
  refine gX_i6 (v := (I 6)) hk hin5 (List.mem_cons_of_mem _ (List.mem_append_left _ (List.mem_of_getElem? (i := 0) rfl))) dX5_keepInRow_1 rfl ?_
  refine g_iconst (v := 1) hk dX5_keepInRow_4 (by decide) ?_
  have b942l := Int32.le_toInt (I 6)
  have b942h := Int32.toInt_lt (I 6)
  refine g_icmp_ne (tgt := 19) (a := (I 6).toInt) (b := 1) hk dX5_keepInRow_5 (by decide) rfl rfl (fun c943 => ?_) (fun c943 => ?_)
  · skip
    refine g_aload_n hk dX5_keepInRow_19 rfl ?_
    refine gX_r3_2 hk hin5 (List.mem_cons_of_mem _ (List.mem_append_left _ (List.mem_of_getElem? (i := 1) rfl))) dX5_keepInRow_20 ?_
    refine g_iload_n hk dX5_keepInRow_23 rfl ?_
    refine g_callV (n := 1) hk (k154_X4_append l D zt q d I A z1 hIv) (SP.same _) (fun _ h => h) (gi_V (List.mem_cons_of_mem _ (List.mem_append_left _ (List.mem_of_getElem? (i := 2) rfl))) (List.mem_cons_of_mem _ (List.mem_append_left _ (List.mem_of_getElem? (i := 3) rfl))) (List.mem_cons_of_mem _ (List.mem_append_left _ (List.mem_of_getElem? (i := 4) rfl))) (List.mem_cons_of_mem _ (List.mem_append_left _ (List.mem_of_getElem? (i := 5) rfl))) (gi_sub (fun w h => (List.mem_cons_of_mem _ (List.mem_append_right _ (List.mem_append_right _ (List.mem_append_left _ h))))) zg_k154_X4_append)) rfl rfl rfl (by decide +kernel) ⟨Nat.le_of_ble_eq_true rfl, Nat.le_of_ble_eq_true rfl⟩ 8 rfl rfl rfl rfl (Nat.le_of_ble_eq_true rfl) ⟨Nat.le_of_ble_eq_true rfl, Nat.le_of_ble_eq_true rfl⟩ dX5_keepInRow_24 (fun v ty' w' hp hk' => ?_)
    obtain ⟨I964, A964, hI964, hA964, hV964, rfl, rfl⟩ := hp
    show GW κ 2 0 0 (wX q d I964 A964) 27 [(0, .ref (q 3)), (1, .int z1)] []
    refine g_aload_n hk dX5_keepInRow_27 rfl ?_
    refine g_dup hk dX5_keepInRow_28 rfl ?_
    refine gX_i9 (v := (I 9)) hk hin5 (List.mem_cons_of_mem _ (List.mem_append_left _ (List.mem_of_getElem? (i := 6) rfl))) dX5_keepInRow_29 (hI964 9 rfl) ?_
    refine g_iconst (v := 1) hk dX5_keepInRow_32 (by decide) ?_
    have b965l := Int32.le_toInt (I 9)
    have b965h := Int32.toInt_lt (I 9)
    refine g_iadd hk dX5_keepInRow_33 ?_
    refine g_topi (fun y966 ey966 => ?_)
    refine pX_i9 hk hin5 (List.mem_cons_of_mem _ (List.mem_append_left _ (List.mem_of_getElem? (i := 6) rfl))) dX5_keepInRow_34 ?_
    refine g_aload_n hk dX5_keepInRow_37 rfl ?_
    refine g_iconst (v := 0) hk dX5_keepInRow_38 (by decide) ?_
    refine pX_i8 hk hin5 (List.mem_cons_of_mem _ (List.mem_append_left _ (List.mem_of_getElem? (i := 7) rfl))) ⟨rfl, rfl⟩ dX5_keepInRow_39 ?_
    exact g_vret hk hR ⟨(upd (upd I964 9 y966) 8 0), A964, (show Md [8, 9, 14] I (upd (upd I964 9 y966) 8 0) from (Md.up (Md.up (Md.tr Md.rf hI964 rfl) rfl) rfl)), (show Md [1, 3, 4] A A964 from (Md.tr Md.rf hA964 rfl)), ⟨(IvX_f0 (I := I964) (A := A964) hV964), (IvX_f18 (I := I964) (A := A964) hV964), (IvX_f30 (I := I964) (A := A964) hV964), (IvX_f31 (I := I964) (A := A964) hV964), (IvX_a4 (I := I964) (A := A964) hV964), (IvX_a9 (I := I964) (A := A964) hV964), trivial⟩, rfl, rfl⟩ dX5_keepInRow_42
  · skip
    refine g_aload_n hk dX5_keepInRow_8 rfl ?_
    refine gX_r3_1 hk hin5 (List.mem_cons_of_mem _ (List.mem_append_left _ (List.mem_of_getElem? (i := 8) rfl))) dX5_keepInRow_9 ?_
    refine g_iload_n hk dX5_keepInRow_12 rfl ?_
    refine g_callV (n := 1) hk (k156_X8_append l D zt q d I A z1 hIv) (SP.same _) (fun _ h => h) (gi_V (List.mem_cons_of_mem _ (List.mem_append_left _ (List.mem_of_getElem? (i := 9) rfl))) (List.mem_cons_of_mem _ (List.mem_append_left _ (List.mem_of_getElem? (i := 10) rfl))) (List.mem_cons_of_mem _ (List.mem_append_left _ (List.mem_of_getElem? (i := 11) rfl))) (List.mem_cons_of_mem _ (List.mem_append_left _ (List.mem_of_getElem? (i := 12) rfl))) (gi_sub (fun w h => (List.mem_cons_of_mem _ (List.mem_append_right _ (List.mem_append_right _ (List.mem_append_right _ (List.mem_append_left _ h)))))) zg_k156_X8_append)) rfl rfl rfl (by decide +kernel) ⟨Nat.le_of_ble_eq_true rfl, Nat.le_of_ble_eq_true rfl⟩ 4 rfl rfl rfl rfl (Nat.le_of_ble_eq_true rfl) ⟨Nat.le_of_ble_eq_true rfl, Nat.le_of_ble_eq_true rfl⟩ dX5_keepInRow_13 (fun v ty' w' hp hk' => ?_)
    obtain ⟨I972, A972, hI972, hA972, hV972, rfl, rfl⟩ := hp
    show GW κ 2 0 0 (wX q d I972 A972) 16 [(0, .ref (q 3)), (1, .int z1)] []
    refine g_goto (tgt := 27) hk dX5_keepInRow_16 (by decide) ?_
    refine g_aload_n hk dX5_keepInRow_27 rfl ?_
    refine g_dup hk dX5_keepInRow_28 rfl ?_
    refine gX_i9 (v := (I 9)) hk hin5 (List.mem_cons_of_mem _ (List.mem_append_left _ (List.mem_of_getElem? (i := 6) rfl))) dX5_keepInRow_29 (hI972 9 rfl) ?_
    refine g_iconst (v := 1) hk dX5_keepInRow_32 (by decide) ?_
    have b973l := Int32.le_toInt (I 9)
    have b973h := Int32.toInt_lt (I 9)
    refine g_iadd hk dX5_keepInRow_33 ?_
    refine g_topi (fun y974 ey974 => ?_)
    refine pX_i9 hk hin5 (List.mem_cons_of_mem _ (List.mem_append_left _ (List.mem_of_getElem? (i := 6) rfl))) dX5_keepInRow_34 ?_
    refine g_aload_n hk dX5_keepInRow_37 rfl ?_
    refine g_iconst (v := 0) hk dX5_keepInRow_38 (by decide) ?_
    refine pX_i8 hk hin5 (List.mem_cons_of_mem _ (List.mem_append_left _ (List.mem_of_getElem? (i := 7) rfl))) ⟨rfl, rfl⟩ dX5_keepInRow_39 ?_
    exact g_vret hk hR ⟨(upd (upd I972 9 y974) 8 0), A972, (show Md [8, 9, 14] I (upd (upd I972 9 y974) 8 0) from (Md.up (Md.up (Md.tr Md.rf hI972 rfl) rfl) rfl)), (show Md [1, 3, 4] A A972 from (Md.tr Md.rf hA972 rfl)), ⟨(IvX_f0 (I := I972) (A := A972) hV972), (IvX_f18 (I := I972) (A := A972) hV972), (IvX_f30 (I := I972) (A := A972) hV972), (IvX_f31 (I := I972) (A := A972) hV972), (IvX_a4 (I := I972) (A := A972) hV972), (IvX_a9 (I := I972) (A := A972) hV972), trivial⟩, rfl, rfl⟩ dX5_keepInRow_42
def wo_k157_X5_mark : List Cond := [Cond.fieldLink RX5 78 "WarpDesk$Reader" "fault" "I", Cond.methodLink RX5 93 yX5_keepFault, Cond.instanceMethod yX5_keepFault, Cond.selects RX5 yX5_keepFault yX5_keepFault, Cond.initialized RX5]
def wz_k157_X5_mark : List Cond := .code yX5_mark cX5_mark 2 none :: (wo_k157_X5_mark ++ (wsX50 ++ (wz_k131_X5_keepFault ++ ([] : List Cond))))
theorem zg_k157_X5_mark : ∀ w ∈ wz_k157_X5_mark, goodWord w = true := zg_cons rfl (zg_app (by decide +kernel) (zg_app zgU_wsX50 (zg_app zg_k131_X5_keepFault zg_nil)))
theorem zi_k157_X5_mark : ∀ w ∈ wz_k157_X5_mark, w ∈ lw_tbl := zi_cons zw_712 (zi_app (zi_cons zw_242 (zi_cons zw_685 (zi_cons zw_687 (zi_cons zw_13 (zi_cons zw_105 zi_nil))))) (zi_app inX5 (zi_app zi_k131_X5_keepFault zi_nil)))
set_option maxHeartbeats 4000000 in
set_option maxRecDepth 100000 in
theorem k157_X5_mark (l : Launch) (D : va_G) (zt : Nat × Nat × Nat × (Nat → Nat) × (Nat → Nat)) (q : Nat → Nat) (d : Nat → ClassId) (I : Nat → Int32) (A : Nat → Nat → Int32) (z1 : Int32) (hIv : IvX I A) : GM l D zt (tyX d) yX5_mark wz_k157_X5_mark ({ frames := 1, cells := 0, slots := 0, locals := 21 } : Room) [.ref (q 3), .int z1] (wX q d I A) (fun v _ w' => ∃ (I' : Nat → Int32) (A' : Nat → Nat → Int32), Md [11, 12, 13] I I' ∧ Md [] A A' ∧ IvX I' A' ∧ v = none ∧ w' = wX q d I' A') 0 0 := by
  refine GM.of (cc := cX5_mark) (maxL := 2) (ret := none) (own := RX5) (lv := [(0, .ref (q 3)), (1, .int z1)]) (by decide) rfl rfl (Nat.le_of_ble_eq_true rfl) rfl (fun κ sz hk hR hN => ?_)
  have hin5 : ∀ w ∈ u_ws RX5 TX5 13, w ∈ wz_k157_X5_mark := fun w h => (List.mem_cons_of_mem _ (List.mem_append_right _ (List.mem_append_left _ h)))
  refine g_aload_n hk dX5_mark_0 rfl ?_
  refine gX_i11 (v := (I 11)) hk hin5 (List.mem_cons_of_mem _ (List.mem_append_left _ (List.mem_of_getElem? (i := 0) rfl))) dX5_mark_1 rfl ?_
  have b987l := Int32.le_toInt (I 11)
  have b987h := Int32.toInt_lt (I 11)
  refine g_if_ne (tgt := 12) (a := (I 11).toInt) hk dX5_mark_4 (by decide) rfl (fun c988 => ?_) (fun c988 => ?_)
  · skip
    exact g_vret hk hR ⟨I, A, (show Md [11, 12, 13] I I from Md.rf), (show Md [] A A from Md.rf), hIv, rfl, rfl⟩ dX5_mark_12
  · skip
    refine g_aload_n hk dX5_mark_7 rfl ?_
    refine g_iload_n hk dX5_mark_8 rfl ?_
    refine g_callV (n := 1) hk (k131_X5_keepFault l D zt q d I A z1 hIv) (SP.same _) (fun _ h => h) (gi_V (List.mem_cons_of_mem _ (List.mem_append_left _ (List.mem_of_getElem? (i := 1) rfl))) (List.mem_cons_of_mem _ (List.mem_append_left _ (List.mem_of_getElem? (i := 2) rfl))) (List.mem_cons_of_mem _ (List.mem_append_left _ (List.mem_of_getElem? (i := 3) rfl))) (List.mem_cons_of_mem _ (List.mem_append_left _ (List.mem_of_getElem? (i := 4) rfl))) (gi_sub (fun w h => (List.mem_cons_of_mem _ (List.mem_append_right _ (List.mem_append_right _ (List.mem_append_left _ h))))) zg_k131_X5_keepFault)) rfl rfl rfl (by decide +kernel) ⟨Nat.le_of_ble_eq_true rfl, Nat.le_of_ble_eq_true rfl⟩ 3 rfl rfl rfl rfl (Nat.le_of_ble_eq_true rfl) ⟨Nat.le_of_ble_eq_true rfl, Nat.le_of_ble_eq_true rfl⟩ dX5_mark_9 (fun v ty' w' hp hk' => ?_)
    obtain ⟨I990, A990, hI990, hA990, hV990, rfl, rfl⟩ := hp
    show GW κ 2 0 0 (wX q d I990 A990) 12 [(0, .ref (q 3)), (1, .int z1)] []
    exact g_vret hk hR ⟨I990, A990, (show Md [11, 12, 13] I I990 from (Md.tr Md.rf hI990 rfl)), (show Md [] A A990 from (Md.tr Md.rf hA990 rfl)), hV990, rfl, rfl⟩ dX5_mark_12
def wo_k152_X5_acceptInRow : List Cond := [Cond.fieldLink RX5 42 "WarpDesk$Reader" "tape" "LWarpDesk$Tape;", Cond.fieldLink RX5 53 "WarpDesk$Tape" "kind" "I", Cond.methodLink RX5 196 yX5_keepInRow, Cond.instanceMethod yX5_keepInRow, Cond.selects RX5 yX5_keepInRow yX5_keepInRow, Cond.initialized RX5, Cond.fieldLink RX5 190 "WarpDesk$Tape" "value" "I", Cond.fieldLink RX5 87 "WarpDesk$Reader" "isNegative" "Z", Cond.methodLink RX5 181 yX5_mark, Cond.instanceMethod yX5_mark, Cond.selects RX5 yX5_mark yX5_mark, Cond.fieldLink RX5 75 "WarpDesk$Reader" "state" "I", Cond.fieldLink RX5 32 "WarpDesk$Reader" "told" "I"]
def wz_k152_X5_acceptInRow : List Cond := .code yX5_acceptInRow cX5_acceptInRow 1 none :: (wo_k152_X5_acceptInRow ++ (wsX50 ++ (wsX100 ++ (wz_k153_X5_keepInRow ++ (wz_k157_X5_mark ++ ([] : List Cond))))))
theorem zg_k152_X5_acceptInRow : ∀ w ∈ wz_k152_X5_acceptInRow, goodWord w = true := zg_cons rfl (zg_app (by decide +kernel) (zg_app zgU_wsX50 (zg_app zgU_wsX100 (zg_app zg_k153_X5_keepInRow (zg_app zg_k157_X5_mark zg_nil)))))
theorem zi_k152_X5_acceptInRow : ∀ w ∈ wz_k152_X5_acceptInRow, w ∈ lw_tbl := zi_cons zw_733 (zi_app (zi_cons zw_230 (zi_cons zw_138 (zi_cons zw_734 (zi_cons zw_736 (zi_cons zw_21 (zi_cons zw_105 (zi_cons zw_143 (zi_cons zw_239 (zi_cons zw_709 (zi_cons zw_711 (zi_cons zw_18 (zi_cons zw_237 (zi_cons zw_240 zi_nil))))))))))))) (zi_app inX5 (zi_app inX10 (zi_app zi_k153_X5_keepInRow (zi_app zi_k157_X5_mark zi_nil)))))
set_option maxHeartbeats 4000000 in
set_option maxRecDepth 100000 in
theorem k152_X5_acceptInRow (l : Launch) (D : va_G) (zt : Nat × Nat × Nat × (Nat → Nat) × (Nat → Nat)) (q : Nat → Nat) (d : Nat → ClassId) (I : Nat → Int32) (A : Nat → Nat → Int32) (hIv : IvX I A) : GM l D zt (tyX d) yX5_acceptInRow wz_k152_X5_acceptInRow ({ frames := 3, cells := 0, slots := 0, locals := 64 } : Room) [.ref (q 3)] (wX q d I A) (fun v _ w' => ∃ (I' : Nat → Int32) (A' : Nat → Nat → Int32), Md [6, 8, 9, 11, 12, 13, 14] I I' ∧ Md [1, 3, 4] A A' ∧ IvX I' A' ∧ v = none ∧ w' = wX q d I' A') 0 0 := by
  refine GM.of (cc := cX5_acceptInRow) (maxL := 1) (ret := none) (own := RX5) (lv := [(0, .ref (q 3))]) (by decide) rfl rfl (Nat.le_of_ble_eq_true rfl) rfl (fun κ sz hk hR hN => ?_)
  have hin5 : ∀ w ∈ u_ws RX5 TX5 13, w ∈ wz_k152_X5_acceptInRow := fun w h => (List.mem_cons_of_mem _ (List.mem_append_right _ (List.mem_append_left _ h)))
  have hin10 : ∀ w ∈ u_ws RX10 TX10 7, w ∈ wz_k152_X5_acceptInRow := fun w h => (List.mem_cons_of_mem _ (List.mem_append_right _ (List.mem_append_right _ (List.mem_append_left _ h))))
  refine g_aload_n hk dX5_acceptInRow_0 rfl ?_
  refine gX_r3_0 hk hin5 (List.mem_cons_of_mem _ (List.mem_append_left _ (List.mem_of_getElem? (i := 0) rfl))) dX5_acceptInRow_1 ?_
  refine gX_i1 (v := (I 1)) hk hin10 (List.mem_cons_of_mem _ (List.mem_append_left _ (List.mem_of_getElem? (i := 1) rfl))) dX5_acceptInRow_4 rfl ?_
  refine g_iconst (v := 3) hk dX5_acceptInRow_7 (by decide) ?_
  have b938l := Int32.le_toInt (I 1)
  have b938h := Int32.toInt_lt (I 1)
  refine g_icmp_ne (tgt := 47) (a := (I 1).toInt) (b := 3) hk dX5_acceptInRow_8 (by decide) rfl rfl (fun c939 => ?_) (fun c939 => ?_)
  · skip
    refine g_aload_n hk dX5_acceptInRow_47 rfl ?_
    refine gX_r3_0 hk hin5 (List.mem_cons_of_mem _ (List.mem_append_left _ (List.mem_of_getElem? (i := 0) rfl))) dX5_acceptInRow_48 ?_
    refine gX_i1 (v := (I 1)) hk hin10 (List.mem_cons_of_mem _ (List.mem_append_left _ (List.mem_of_getElem? (i := 1) rfl))) dX5_acceptInRow_51 rfl ?_
    refine g_iconst (v := 4) hk dX5_acceptInRow_54 (by decide) ?_
    refine g_icmp_ne (tgt := 66) (a := (I 1).toInt) (b := 4) hk dX5_acceptInRow_55 (by decide) rfl rfl (fun c940 => ?_) (fun c940 => ?_)
    · skip
      refine g_aload_n hk dX5_acceptInRow_66 rfl ?_
      refine gX_r3_0 hk hin5 (List.mem_cons_of_mem _ (List.mem_append_left _ (List.mem_of_getElem? (i := 0) rfl))) dX5_acceptInRow_67 ?_
      refine gX_i1 (v := (I 1)) hk hin10 (List.mem_cons_of_mem _ (List.mem_append_left _ (List.mem_of_getElem? (i := 1) rfl))) dX5_acceptInRow_70 rfl ?_
      refine g_iconst (v := 2) hk dX5_acceptInRow_73 (by decide) ?_
      refine g_icmp_ne (tgt := 127) (a := (I 1).toInt) (b := 2) hk dX5_acceptInRow_74 (by decide) rfl rfl (fun c941 => ?_) (fun c941 => ?_)
      · skip
        refine g_aload_n hk dX5_acceptInRow_127 rfl ?_
        refine g_sipush (v := (-1000)) hk dX5_acceptInRow_128 (by decide) ?_
        have k975 : ((-1000) : Int32).toInt = (-1000) := rfl
        refine g_callV (n := 1) hk (k153_X5_keepInRow l D zt q d I A (-1000) hIv) (SP.same _) (fun _ h => h) (gi_V (List.mem_cons_of_mem _ (List.mem_append_left _ (List.mem_of_getElem? (i := 2) rfl))) (List.mem_cons_of_mem _ (List.mem_append_left _ (List.mem_of_getElem? (i := 3) rfl))) (List.mem_cons_of_mem _ (List.mem_append_left _ (List.mem_of_getElem? (i := 4) rfl))) (List.mem_cons_of_mem _ (List.mem_append_left _ (List.mem_of_getElem? (i := 5) rfl))) (gi_sub (fun w h => (List.mem_cons_of_mem _ (List.mem_append_right _ (List.mem_append_right _ (List.mem_append_right _ (List.mem_append_left _ h)))))) zg_k153_X5_keepInRow)) rfl rfl rfl (by decide +kernel) ⟨Nat.le_of_ble_eq_true rfl, Nat.le_of_ble_eq_true rfl⟩ 3 rfl rfl rfl rfl (Nat.le_of_ble_eq_true rfl) ⟨Nat.le_of_ble_eq_true rfl, Nat.le_of_ble_eq_true rfl⟩ dX5_acceptInRow_131 (fun v ty' w' hp hk' => ?_)
        obtain ⟨I977, A977, hI977, hA977, hV977, rfl, rfl⟩ := hp
        show GW κ 1 0 0 (wX q d I977 A977) 134 [(0, .ref (q 3))] []
        exact g_vret hk hR ⟨I977, A977, (show Md [6, 8, 9, 11, 12, 13, 14] I I977 from (Md.tr Md.rf hI977 rfl)), (show Md [1, 3, 4] A A977 from (Md.tr Md.rf hA977 rfl)), hV977, rfl, rfl⟩ dX5_acceptInRow_134
      · skip
        refine g_aload_n hk dX5_acceptInRow_77 rfl ?_
        refine gX_r3_0 hk hin5 (List.mem_cons_of_mem _ (List.mem_append_left _ (List.mem_of_getElem? (i := 0) rfl))) dX5_acceptInRow_78 ?_
        refine gX_i3 (v := (I 3)) hk hin10 (List.mem_cons_of_mem _ (List.mem_append_left _ (List.mem_of_getElem? (i := 6) rfl))) dX5_acceptInRow_81 rfl ?_
        refine g_sipush (v := 999) hk dX5_acceptInRow_84 (by decide) ?_
        have b978l := Int32.le_toInt (I 3)
        have b978h := Int32.toInt_lt (I 3)
        refine g_icmp_le (tgt := 95) (a := (I 3).toInt) (b := 999) hk dX5_acceptInRow_87 (by decide) rfl rfl (fun c979 => ?_) (fun c979 => ?_)
        · skip
          refine g_aload_n hk dX5_acceptInRow_95 rfl ?_
          refine g_aload_n hk dX5_acceptInRow_96 rfl ?_
          refine gX_i8 (v := (I 8)) hk hin5 (List.mem_cons_of_mem _ (List.mem_append_left _ (List.mem_of_getElem? (i := 7) rfl))) dX5_acceptInRow_97 rfl ?_
          have b980l := Int32.le_toInt (I 8)
          have b980h := Int32.toInt_lt (I 8)
          refine g_if_eq (tgt := 114) (a := (I 8).toInt) hk dX5_acceptInRow_100 (by decide) rfl (fun c981 => ?_) (fun c981 => ?_)
          · skip
            refine g_aload_n hk dX5_acceptInRow_114 rfl ?_
            refine gX_r3_0 hk hin5 (List.mem_cons_of_mem _ (List.mem_append_left _ (List.mem_of_getElem? (i := 0) rfl))) dX5_acceptInRow_115 ?_
            refine gX_i3 (v := (I 3)) hk hin10 (List.mem_cons_of_mem _ (List.mem_append_left _ (List.mem_of_getElem? (i := 6) rfl))) dX5_acceptInRow_118 rfl ?_
            refine g_callV (n := 1) hk (k153_X5_keepInRow l D zt q d I A (I 3) hIv) (SP.same _) (fun _ h => h) (gi_V (List.mem_cons_of_mem _ (List.mem_append_left _ (List.mem_of_getElem? (i := 2) rfl))) (List.mem_cons_of_mem _ (List.mem_append_left _ (List.mem_of_getElem? (i := 3) rfl))) (List.mem_cons_of_mem _ (List.mem_append_left _ (List.mem_of_getElem? (i := 4) rfl))) (List.mem_cons_of_mem _ (List.mem_append_left _ (List.mem_of_getElem? (i := 5) rfl))) (gi_sub (fun w h => (List.mem_cons_of_mem _ (List.mem_append_right _ (List.mem_append_right _ (List.mem_append_right _ (List.mem_append_left _ h)))))) zg_k153_X5_keepInRow)) rfl rfl rfl (by decide +kernel) ⟨Nat.le_of_ble_eq_true rfl, Nat.le_of_ble_eq_true rfl⟩ 3 rfl rfl rfl rfl (Nat.le_of_ble_eq_true rfl) ⟨Nat.le_of_ble_eq_true rfl, Nat.le_of_ble_eq_true rfl⟩ dX5_acceptInRow_121 (fun v ty' w' hp hk' => ?_)
            obtain ⟨I983, A983, hI983, hA983, hV983, rfl, rfl⟩ := hp
            show GW κ 1 0 0 (wX q d I983 A983) 124 [(0, .ref (q 3))] []
            refine g_goto (tgt := 134) hk dX5_acceptInRow_124 (by decide) ?_
            exact g_vret hk hR ⟨I983, A983, (show Md [6, 8, 9, 11, 12, 13, 14] I I983 from (Md.tr Md.rf hI983 rfl)), (show Md [1, 3, 4] A A983 from (Md.tr Md.rf hA983 rfl)), hV983, rfl, rfl⟩ dX5_acceptInRow_134
          · skip
            refine g_aload_n hk dX5_acceptInRow_103 rfl ?_
            refine gX_r3_0 hk hin5 (List.mem_cons_of_mem _ (List.mem_append_left _ (List.mem_of_getElem? (i := 0) rfl))) dX5_acceptInRow_104 ?_
            refine gX_i3 (v := (I 3)) hk hin10 (List.mem_cons_of_mem _ (List.mem_append_left _ (List.mem_of_getElem? (i := 6) rfl))) dX5_acceptInRow_107 rfl ?_
            refine g_ineg hk dX5_acceptInRow_110 ?_
            refine g_topi (fun y984 ey984 => ?_)
            refine g_goto (tgt := 121) hk dX5_acceptInRow_111 (by decide) ?_
            refine g_callV (n := 1) hk (k153_X5_keepInRow l D zt q d I A y984 hIv) (SP.same _) (fun _ h => h) (gi_V (List.mem_cons_of_mem _ (List.mem_append_left _ (List.mem_of_getElem? (i := 2) rfl))) (List.mem_cons_of_mem _ (List.mem_append_left _ (List.mem_of_getElem? (i := 3) rfl))) (List.mem_cons_of_mem _ (List.mem_append_left _ (List.mem_of_getElem? (i := 4) rfl))) (List.mem_cons_of_mem _ (List.mem_append_left _ (List.mem_of_getElem? (i := 5) rfl))) (gi_sub (fun w h => (List.mem_cons_of_mem _ (List.mem_append_right _ (List.mem_append_right _ (List.mem_append_right _ (List.mem_append_left _ h)))))) zg_k153_X5_keepInRow)) rfl rfl rfl (by decide +kernel) ⟨Nat.le_of_ble_eq_true rfl, Nat.le_of_ble_eq_true rfl⟩ 3 rfl rfl rfl rfl (Nat.le_of_ble_eq_true rfl) ⟨Nat.le_of_ble_eq_true rfl, Nat.le_of_ble_eq_true rfl⟩ dX5_acceptInRow_121 (fun v ty' w' hp hk' => ?_)
            obtain ⟨I986, A986, hI986, hA986, hV986, rfl, rfl⟩ := hp
            show GW κ 1 0 0 (wX q d I986 A986) 124 [(0, .ref (q 3))] []
            refine g_goto (tgt := 134) hk dX5_acceptInRow_124 (by decide) ?_
            exact g_vret hk hR ⟨I986, A986, (show Md [6, 8, 9, 11, 12, 13, 14] I I986 from (Md.tr Md.rf hI986 rfl)), (show Md [1, 3, 4] A A986 from (Md.tr Md.rf hA986 rfl)), hV986, rfl, rfl⟩ dX5_acceptInRow_134
        · skip
          refine g_aload_n hk dX5_acceptInRow_90 rfl ?_
          refine g_iconst (v := 5) hk dX5_acceptInRow_91 (by decide) ?_
          have k991 : (5 : Int32).toInt = 5 := rfl
          refine g_callV (n := 1) hk (k157_X5_mark l D zt q d I A 5 hIv) (SP.same _) (fun _ h => h) (gi_V (List.mem_cons_of_mem _ (List.mem_append_left _ (List.mem_of_getElem? (i := 8) rfl))) (List.mem_cons_of_mem _ (List.mem_append_left _ (List.mem_of_getElem? (i := 9) rfl))) (List.mem_cons_of_mem _ (List.mem_append_left _ (List.mem_of_getElem? (i := 10) rfl))) (List.mem_cons_of_mem _ (List.mem_append_left _ (List.mem_of_getElem? (i := 5) rfl))) (gi_sub (fun w h => (List.mem_cons_of_mem _ (List.mem_append_right _ (List.mem_append_right _ (List.mem_append_right _ (List.mem_append_right _ (List.mem_append_left _ h))))))) zg_k157_X5_mark)) rfl rfl rfl (by decide +kernel) ⟨Nat.le_of_ble_eq_true rfl, Nat.le_of_ble_eq_true rfl⟩ 3 rfl rfl rfl rfl (Nat.le_of_ble_eq_true rfl) ⟨Nat.le_of_ble_eq_true rfl, Nat.le_of_ble_eq_true rfl⟩ dX5_acceptInRow_92 (fun v ty' w' hp hk' => ?_)
          obtain ⟨I993, A993, hI993, hA993, hV993, rfl, rfl⟩ := hp
          show GW κ 1 0 0 (wX q d I993 A993) 95 [(0, .ref (q 3))] []
          refine g_aload_n hk dX5_acceptInRow_95 rfl ?_
          refine g_aload_n hk dX5_acceptInRow_96 rfl ?_
          refine gX_i8 (v := (I 8)) hk hin5 (List.mem_cons_of_mem _ (List.mem_append_left _ (List.mem_of_getElem? (i := 7) rfl))) dX5_acceptInRow_97 (hI993 8 rfl) ?_
          have b994l := Int32.le_toInt (I 8)
          have b994h := Int32.toInt_lt (I 8)
          refine g_if_eq (tgt := 114) (a := (I 8).toInt) hk dX5_acceptInRow_100 (by decide) rfl (fun c995 => ?_) (fun c995 => ?_)
          · skip
            refine g_aload_n hk dX5_acceptInRow_114 rfl ?_
            refine gX_r3_0 hk hin5 (List.mem_cons_of_mem _ (List.mem_append_left _ (List.mem_of_getElem? (i := 0) rfl))) dX5_acceptInRow_115 ?_
            refine gX_i3 (v := (I 3)) hk hin10 (List.mem_cons_of_mem _ (List.mem_append_left _ (List.mem_of_getElem? (i := 6) rfl))) dX5_acceptInRow_118 (hI993 3 rfl) ?_
            refine g_callV (n := 1) hk (k153_X5_keepInRow l D zt q d I993 A993 (I 3) hV993) (SP.same _) (fun _ h => h) (gi_V (List.mem_cons_of_mem _ (List.mem_append_left _ (List.mem_of_getElem? (i := 2) rfl))) (List.mem_cons_of_mem _ (List.mem_append_left _ (List.mem_of_getElem? (i := 3) rfl))) (List.mem_cons_of_mem _ (List.mem_append_left _ (List.mem_of_getElem? (i := 4) rfl))) (List.mem_cons_of_mem _ (List.mem_append_left _ (List.mem_of_getElem? (i := 5) rfl))) (gi_sub (fun w h => (List.mem_cons_of_mem _ (List.mem_append_right _ (List.mem_append_right _ (List.mem_append_right _ (List.mem_append_left _ h)))))) zg_k153_X5_keepInRow)) rfl rfl rfl (by decide +kernel) ⟨Nat.le_of_ble_eq_true rfl, Nat.le_of_ble_eq_true rfl⟩ 3 rfl rfl rfl rfl (Nat.le_of_ble_eq_true rfl) ⟨Nat.le_of_ble_eq_true rfl, Nat.le_of_ble_eq_true rfl⟩ dX5_acceptInRow_121 (fun v ty' w' hp hk' => ?_)
            obtain ⟨I997, A997, hI997, hA997, hV997, rfl, rfl⟩ := hp
            show GW κ 1 0 0 (wX q d I997 A997) 124 [(0, .ref (q 3))] []
            refine g_goto (tgt := 134) hk dX5_acceptInRow_124 (by decide) ?_
            exact g_vret hk hR ⟨I997, A997, (show Md [6, 8, 9, 11, 12, 13, 14] I I997 from (Md.tr (Md.tr Md.rf hI993 rfl) hI997 rfl)), (show Md [1, 3, 4] A A997 from (Md.tr (Md.tr Md.rf hA993 rfl) hA997 rfl)), hV997, rfl, rfl⟩ dX5_acceptInRow_134
          · skip
            refine g_aload_n hk dX5_acceptInRow_103 rfl ?_
            refine gX_r3_0 hk hin5 (List.mem_cons_of_mem _ (List.mem_append_left _ (List.mem_of_getElem? (i := 0) rfl))) dX5_acceptInRow_104 ?_
            refine gX_i3 (v := (I 3)) hk hin10 (List.mem_cons_of_mem _ (List.mem_append_left _ (List.mem_of_getElem? (i := 6) rfl))) dX5_acceptInRow_107 (hI993 3 rfl) ?_
            refine g_ineg hk dX5_acceptInRow_110 ?_
            refine g_topi (fun y998 ey998 => ?_)
            refine g_goto (tgt := 121) hk dX5_acceptInRow_111 (by decide) ?_
            refine g_callV (n := 1) hk (k153_X5_keepInRow l D zt q d I993 A993 y998 hV993) (SP.same _) (fun _ h => h) (gi_V (List.mem_cons_of_mem _ (List.mem_append_left _ (List.mem_of_getElem? (i := 2) rfl))) (List.mem_cons_of_mem _ (List.mem_append_left _ (List.mem_of_getElem? (i := 3) rfl))) (List.mem_cons_of_mem _ (List.mem_append_left _ (List.mem_of_getElem? (i := 4) rfl))) (List.mem_cons_of_mem _ (List.mem_append_left _ (List.mem_of_getElem? (i := 5) rfl))) (gi_sub (fun w h => (List.mem_cons_of_mem _ (List.mem_append_right _ (List.mem_append_right _ (List.mem_append_right _ (List.mem_append_left _ h)))))) zg_k153_X5_keepInRow)) rfl rfl rfl (by decide +kernel) ⟨Nat.le_of_ble_eq_true rfl, Nat.le_of_ble_eq_true rfl⟩ 3 rfl rfl rfl rfl (Nat.le_of_ble_eq_true rfl) ⟨Nat.le_of_ble_eq_true rfl, Nat.le_of_ble_eq_true rfl⟩ dX5_acceptInRow_121 (fun v ty' w' hp hk' => ?_)
            obtain ⟨I1000, A1000, hI1000, hA1000, hV1000, rfl, rfl⟩ := hp
            show GW κ 1 0 0 (wX q d I1000 A1000) 124 [(0, .ref (q 3))] []
            refine g_goto (tgt := 134) hk dX5_acceptInRow_124 (by decide) ?_
            exact g_vret hk hR ⟨I1000, A1000, (show Md [6, 8, 9, 11, 12, 13, 14] I I1000 from (Md.tr (Md.tr Md.rf hI993 rfl) hI1000 rfl)), (show Md [1, 3, 4] A A1000 from (Md.tr (Md.tr Md.rf hA993 rfl) hA1000 rfl)), hV1000, rfl, rfl⟩ dX5_acceptInRow_134
    · skip
      refine g_aload_n hk dX5_acceptInRow_58 rfl ?_
      refine g_iconst (v := 1) hk dX5_acceptInRow_59 (by decide) ?_
      refine pX_i8 hk hin5 (List.mem_cons_of_mem _ (List.mem_append_left _ (List.mem_of_getElem? (i := 7) rfl))) ⟨rfl, rfl⟩ dX5_acceptInRow_60 ?_
      refine g_goto (tgt := 134) hk dX5_acceptInRow_63 (by decide) ?_
      exact g_vret hk hR ⟨(upd I 8 1), A, (show Md [6, 8, 9, 11, 12, 13, 14] I (upd I 8 1) from (Md.up Md.rf rfl)), (show Md [1, 3, 4] A A from Md.rf), ⟨(IvX_f0 (I := I) (A := A) hIv), (IvX_f18 (I := I) (A := A) hIv), (IvX_f30 (I := I) (A := A) hIv), (IvX_f31 (I := I) (A := A) hIv), (IvX_a4 (I := I) (A := A) hIv), (IvX_a9 (I := I) (A := A) hIv), trivial⟩, rfl, rfl⟩ dX5_acceptInRow_134
  · skip
    refine g_aload_n hk dX5_acceptInRow_11 rfl ?_
    refine gX_i6 (v := (I 6)) hk hin5 (List.mem_cons_of_mem _ (List.mem_append_left _ (List.mem_of_getElem? (i := 11) rfl))) dX5_acceptInRow_12 rfl ?_
    refine g_iconst (v := 3) hk dX5_acceptInRow_15 (by decide) ?_
    have b1001l := Int32.le_toInt (I 6)
    have b1001h := Int32.toInt_lt (I 6)
    refine g_icmp_ne (tgt := 33) (a := (I 6).toInt) (b := 3) hk dX5_acceptInRow_16 (by decide) rfl rfl (fun c1002 => ?_) (fun c1002 => ?_)
    · skip
      refine g_aload_n hk dX5_acceptInRow_33 rfl ?_
      refine g_iconst (v := 0) hk dX5_acceptInRow_34 (by decide) ?_
      refine pX_i6 hk hin5 (List.mem_cons_of_mem _ (List.mem_append_left _ (List.mem_of_getElem? (i := 11) rfl))) dX5_acceptInRow_35 ?_
      refine g_aload_n hk dX5_acceptInRow_38 rfl ?_
      refine g_bipush (v := (-2)) hk dX5_acceptInRow_39 (by decide) ?_
      refine pX_i9 hk hin5 (List.mem_cons_of_mem _ (List.mem_append_left _ (List.mem_of_getElem? (i := 12) rfl))) dX5_acceptInRow_41 ?_
      refine g_goto (tgt := 134) hk dX5_acceptInRow_44 (by decide) ?_
      exact g_vret hk hR ⟨(upd (upd I 6 0) 9 (-2)), A, (show Md [6, 8, 9, 11, 12, 13, 14] I (upd (upd I 6 0) 9 (-2)) from (Md.up (Md.up Md.rf rfl) rfl)), (show Md [1, 3, 4] A A from Md.rf), ⟨(IvX_f0 (I := I) (A := A) hIv), (IvX_f18 (I := I) (A := A) hIv), (IvX_f30 (I := I) (A := A) hIv), (IvX_f31 (I := I) (A := A) hIv), (IvX_a4 (I := I) (A := A) hIv), (IvX_a9 (I := I) (A := A) hIv), trivial⟩, rfl, rfl⟩ dX5_acceptInRow_134
    · skip
      refine g_aload_n hk dX5_acceptInRow_19 rfl ?_
      refine gX_i9 (v := (I 9)) hk hin5 (List.mem_cons_of_mem _ (List.mem_append_left _ (List.mem_of_getElem? (i := 12) rfl))) dX5_acceptInRow_20 rfl ?_
      refine g_iconst (v := 2) hk dX5_acceptInRow_23 (by decide) ?_
      have b1003l := Int32.le_toInt (I 9)
      have b1003h := Int32.toInt_lt (I 9)
      refine g_icmp_ge (tgt := 33) (a := (I 9).toInt) (b := 2) hk dX5_acceptInRow_24 (by decide) rfl rfl (fun c1004 => ?_) (fun c1004 => ?_)
      · skip
        refine g_aload_n hk dX5_acceptInRow_33 rfl ?_
        refine g_iconst (v := 0) hk dX5_acceptInRow_34 (by decide) ?_
        refine pX_i6 hk hin5 (List.mem_cons_of_mem _ (List.mem_append_left _ (List.mem_of_getElem? (i := 11) rfl))) dX5_acceptInRow_35 ?_
        refine g_aload_n hk dX5_acceptInRow_38 rfl ?_
        refine g_bipush (v := (-2)) hk dX5_acceptInRow_39 (by decide) ?_
        refine pX_i9 hk hin5 (List.mem_cons_of_mem _ (List.mem_append_left _ (List.mem_of_getElem? (i := 12) rfl))) dX5_acceptInRow_41 ?_
        refine g_goto (tgt := 134) hk dX5_acceptInRow_44 (by decide) ?_
        exact g_vret hk hR ⟨(upd (upd I 6 0) 9 (-2)), A, (show Md [6, 8, 9, 11, 12, 13, 14] I (upd (upd I 6 0) 9 (-2)) from (Md.up (Md.up Md.rf rfl) rfl)), (show Md [1, 3, 4] A A from Md.rf), ⟨(IvX_f0 (I := I) (A := A) hIv), (IvX_f18 (I := I) (A := A) hIv), (IvX_f30 (I := I) (A := A) hIv), (IvX_f31 (I := I) (A := A) hIv), (IvX_a4 (I := I) (A := A) hIv), (IvX_a9 (I := I) (A := A) hIv), trivial⟩, rfl, rfl⟩ dX5_acceptInRow_134
      · skip
        refine g_aload_n hk dX5_acceptInRow_27 rfl ?_
        refine g_bipush (v := 6) hk dX5_acceptInRow_28 (by decide) ?_
        have k1005 : (6 : Int32).toInt = 6 := rfl
        refine g_callV (n := 1) hk (k157_X5_mark l D zt q d I A 6 hIv) (SP.same _) (fun _ h => h) (gi_V (List.mem_cons_of_mem _ (List.mem_append_left _ (List.mem_of_getElem? (i := 8) rfl))) (List.mem_cons_of_mem _ (List.mem_append_left _ (List.mem_of_getElem? (i := 9) rfl))) (List.mem_cons_of_mem _ (List.mem_append_left _ (List.mem_of_getElem? (i := 10) rfl))) (List.mem_cons_of_mem _ (List.mem_append_left _ (List.mem_of_getElem? (i := 5) rfl))) (gi_sub (fun w h => (List.mem_cons_of_mem _ (List.mem_append_right _ (List.mem_append_right _ (List.mem_append_right _ (List.mem_append_right _ (List.mem_append_left _ h))))))) zg_k157_X5_mark)) rfl rfl rfl (by decide +kernel) ⟨Nat.le_of_ble_eq_true rfl, Nat.le_of_ble_eq_true rfl⟩ 3 rfl rfl rfl rfl (Nat.le_of_ble_eq_true rfl) ⟨Nat.le_of_ble_eq_true rfl, Nat.le_of_ble_eq_true rfl⟩ dX5_acceptInRow_30 (fun v ty' w' hp hk' => ?_)
        obtain ⟨I1007, A1007, hI1007, hA1007, hV1007, rfl, rfl⟩ := hp
        show GW κ 1 0 0 (wX q d I1007 A1007) 33 [(0, .ref (q 3))] []
        refine g_aload_n hk dX5_acceptInRow_33 rfl ?_
        refine g_iconst (v := 0) hk dX5_acceptInRow_34 (by decide) ?_
        refine pX_i6 hk hin5 (List.mem_cons_of_mem _ (List.mem_append_left _ (List.mem_of_getElem? (i := 11) rfl))) dX5_acceptInRow_35 ?_
        refine g_aload_n hk dX5_acceptInRow_38 rfl ?_
        refine g_bipush (v := (-2)) hk dX5_acceptInRow_39 (by decide) ?_
        refine pX_i9 hk hin5 (List.mem_cons_of_mem _ (List.mem_append_left _ (List.mem_of_getElem? (i := 12) rfl))) dX5_acceptInRow_41 ?_
        refine g_goto (tgt := 134) hk dX5_acceptInRow_44 (by decide) ?_
        exact g_vret hk hR ⟨(upd (upd I1007 6 0) 9 (-2)), A1007, (show Md [6, 8, 9, 11, 12, 13, 14] I (upd (upd I1007 6 0) 9 (-2)) from (Md.up (Md.up (Md.tr Md.rf hI1007 rfl) rfl) rfl)), (show Md [1, 3, 4] A A1007 from (Md.tr Md.rf hA1007 rfl)), ⟨(IvX_f0 (I := I1007) (A := A1007) hV1007), (IvX_f18 (I := I1007) (A := A1007) hV1007), (IvX_f30 (I := I1007) (A := A1007) hV1007), (IvX_f31 (I := I1007) (A := A1007) hV1007), (IvX_a4 (I := I1007) (A := A1007) hV1007), (IvX_a9 (I := I1007) (A := A1007) hV1007), trivial⟩, rfl, rfl⟩ dX5_acceptInRow_134
def wo_k159_X4_open : List Cond := [Cond.fieldLink RX4 18 "WarpDesk$Queries" "size" "I", Cond.fieldLink RX4 15 "WarpDesk$Queries" "lengths" "[I"]
def wz_k159_X4_open : List Cond := .code yX4_open cX4_open 1 none :: (wo_k159_X4_open ++ (wsX40 ++ ([] : List Cond)))
theorem zg_k159_X4_open : ∀ w ∈ wz_k159_X4_open, goodWord w = true := zg_cons rfl (zg_app (by decide +kernel) (zg_app zgU_wsX40 zg_nil))
theorem zi_k159_X4_open : ∀ w ∈ wz_k159_X4_open, w ∈ lw_tbl := zi_cons zw_717 (zi_app (zi_cons zw_219 (zi_cons zw_218 zi_nil)) (zi_app inX4 zi_nil))
set_option maxHeartbeats 4000000 in
set_option maxRecDepth 100000 in
theorem k159_X4_open (l : Launch) (D : va_G) (zt : Nat × Nat × Nat × (Nat → Nat) × (Nat → Nat)) (q : Nat → Nat) (d : Nat → ClassId) (I : Nat → Int32) (A : Nat → Nat → Int32) (hIv : IvX I A) : GM l D zt (tyX d) yX4_open wz_k159_X4_open ({ frames := 0, cells := 0, slots := 0, locals := 0 } : Room) [.ref (q 8)] (wX q d I A) (fun v _ w' => ∃ (I' : Nat → Int32) (A' : Nat → Nat → Int32), Md [16] I I' ∧ Md [4] A A' ∧ IvX I' A' ∧ v = none ∧ w' = wX q d I' A') 0 0 := by
  refine GM.of (cc := cX4_open) (maxL := 1) (ret := none) (own := RX4) (lv := [(0, .ref (q 8))]) (by decide) rfl rfl (Nat.le_of_ble_eq_true rfl) rfl (fun κ sz hk hR hN => ?_)
  have hin4 : ∀ w ∈ u_ws RX4 TX4 3, w ∈ wz_k159_X4_open := fun w h => (List.mem_cons_of_mem _ (List.mem_append_right _ (List.mem_append_left _ h)))
  refine g_aload_n hk dX4_open_0 rfl ?_
  refine gX_i16 (v := (I 16)) hk hin4 (List.mem_cons_of_mem _ (List.mem_append_left _ (List.mem_of_getElem? (i := 0) rfl))) dX4_open_1 rfl ?_
  have b1019l := Int32.le_toInt (I 16)
  have b1019h := Int32.toInt_lt (I 16)
  refine g_if_lt (tgt := 35) (a := (I 16).toInt) hk dX4_open_4 (by decide) rfl (fun c1020 => ?_) (fun c1020 => ?_)
  · skip
    exact g_vret hk hR ⟨I, A, (show Md [16] I I from Md.rf), (show Md [4] A A from Md.rf), hIv, rfl, rfl⟩ dX4_open_35
  · skip
    refine g_aload_n hk dX4_open_7 rfl ?_
    refine gX_i16 (v := (I 16)) hk hin4 (List.mem_cons_of_mem _ (List.mem_append_left _ (List.mem_of_getElem? (i := 0) rfl))) dX4_open_8 rfl ?_
    refine g_iconst (v := 5) hk dX4_open_11 (by decide) ?_
    refine g_icmp_ge (tgt := 35) (a := (I 16).toInt) (b := 5) hk dX4_open_12 (by decide) rfl rfl (fun c1021 => ?_) (fun c1021 => ?_)
    · skip
      exact g_vret hk hR ⟨I, A, (show Md [16] I I from Md.rf), (show Md [4] A A from Md.rf), hIv, rfl, rfl⟩ dX4_open_35
    · skip
      refine g_aload_n hk dX4_open_15 rfl ?_
      refine gX_r8_1 hk hin4 (List.mem_cons_of_mem _ (List.mem_append_left _ (List.mem_of_getElem? (i := 1) rfl))) dX4_open_16 ?_
      refine g_aload_n hk dX4_open_19 rfl ?_
      refine gX_i16 (v := (I 16)) hk hin4 (List.mem_cons_of_mem _ (List.mem_append_left _ (List.mem_of_getElem? (i := 0) rfl))) dX4_open_20 rfl ?_
      refine g_iconst (v := 0) hk dX4_open_23 (by decide) ?_
      have k1022 : (0 : Int32).toInt = 0 := rfl
      refine sX_4 (j := (I 16).toNatClampNeg) hk (vp_in_iff.mpr ⟨by omega, by omega⟩) rfl dX4_open_24 ?_
      have hA1023 : ∀ j, 0 ≤ ((up3 A 4 ((I 16).toNatClampNeg) 0) 4 j).toInt ∧ ((up3 A 4 ((I 16).toNatClampNeg) 0) 4 j).toInt ≤ 16 := ai_st ((IvX_a4 hIv)) ⟨by omega, by omega⟩
      refine g_aload_n hk dX4_open_25 rfl ?_
      refine g_dup hk dX4_open_26 rfl ?_
      refine gX_i16 (v := (I 16)) hk hin4 (List.mem_cons_of_mem _ (List.mem_append_left _ (List.mem_of_getElem? (i := 0) rfl))) dX4_open_27 rfl ?_
      refine g_iconst (v := 1) hk dX4_open_30 (by decide) ?_
      refine g_iadd hk dX4_open_31 ?_
      refine g_topi (fun y1024 ey1024 => ?_)
      have hy1024 : y1024.toInt = (I 16).toInt + 1 := i32_add ey1024 rfl rfl (by omega) (by omega)
      refine pX_i16 hk hin4 (List.mem_cons_of_mem _ (List.mem_append_left _ (List.mem_of_getElem? (i := 0) rfl))) dX4_open_32 ?_
      exact g_vret hk hR ⟨(upd I 16 y1024), (up3 A 4 ((I 16).toNatClampNeg) 0), (show Md [16] I (upd I 16 y1024) from (Md.up Md.rf rfl)), (show Md [4] A (up3 A 4 ((I 16).toNatClampNeg) 0) from (Md.up3 Md.rf rfl)), ⟨(IvX_f0 (I := I) (A := A) hIv), (IvX_f18 (I := I) (A := A) hIv), (IvX_f30 (I := I) (A := A) hIv), (IvX_f31 (I := I) (A := A) hIv), hA1023, (IvX_a9 (I := I) (A := A) hIv), trivial⟩, rfl, rfl⟩ dX4_open_35
def wo_k160_X10_isSameAsAt : List Cond := [Cond.methodLink RX10 57 yX10_lengthAtHand, Cond.instanceMethod yX10_lengthAtHand, Cond.selects RX10 yX10_lengthAtHand yX10_lengthAtHand, Cond.initialized RX10, Cond.fieldLink RX10 32 "WarpDesk$Tape" "start" "I", Cond.methodLink RX10 38 yX10_byteAt, Cond.instanceMethod yX10_byteAt, Cond.selects RX10 yX10_byteAt yX10_byteAt]
def wz_k160_X10_isSameAsAt : List Cond := .code yX10_isSameAsAt cX10_isSameAsAt 4 (some .boolean) :: (wo_k160_X10_isSameAsAt ++ (wsX100 ++ (wz_k135_X10_lengthAtHand ++ (wz_k125_X10_byteAt ++ ([] : List Cond)))))
theorem zg_k160_X10_isSameAsAt : ∀ w ∈ wz_k160_X10_isSameAsAt, goodWord w = true := zg_cons rfl (zg_app (by decide +kernel) (zg_app zgU_wsX100 (zg_app zg_k135_X10_lengthAtHand (zg_app zg_k125_X10_byteAt zg_nil))))
theorem zi_k160_X10_isSameAsAt : ∀ w ∈ wz_k160_X10_isSameAsAt, w ∈ lw_tbl := zi_cons zw_708 (zi_app (zi_cons zw_597 (zi_cons zw_598 (zi_cons zw_599 (zi_cons zw_104 (zi_cons zw_140 (zi_cons zw_566 (zi_cons zw_568 (zi_cons zw_2 zi_nil)))))))) (zi_app inX10 (zi_app zi_k135_X10_lengthAtHand (zi_app zi_k125_X10_byteAt zi_nil))))
set_option maxHeartbeats 4000000 in
set_option maxRecDepth 100000 in
theorem k160_X10_isSameAsAt (l : Launch) (D : va_G) (zt : Nat × Nat × Nat × (Nat → Nat) × (Nat → Nat)) (q : Nat → Nat) (d : Nat → ClassId) (I : Nat → Int32) (A : Nat → Nat → Int32) (z1 : Int32) (z2 : Int32) (hIv : IvX I A) : GM l D zt (tyX d) yX10_isSameAsAt wz_k160_X10_isSameAsAt ({ frames := 1, cells := 0, slots := 0, locals := 21 } : Room) [.ref (q 1), .int z1, .int z2] (wX q d I A) (fun v _ w' => (v = some (.int 0) ∧ w' = wX q d I A) ∨ (v = some (.int 1) ∧ w' = wX q d I A)) 0 0 := by
  refine GM.of (cc := cX10_isSameAsAt) (maxL := 4) (ret := (some .boolean)) (own := RX10) (lv := [(0, .ref (q 1)), (1, .int z1), (2, .int z2)]) (by decide) rfl rfl (Nat.le_of_ble_eq_true rfl) rfl (fun κ sz hk hR hN => ?_)
  have hin10 : ∀ w ∈ u_ws RX10 TX10 7, w ∈ wz_k160_X10_isSameAsAt := fun w h => (List.mem_cons_of_mem _ (List.mem_append_right _ (List.mem_append_left _ h)))
  refine g_iload_n hk dX10_isSameAsAt_0 rfl ?_
  refine g_aload_n hk dX10_isSameAsAt_1 rfl ?_
  refine g_callV (n := 0) hk (k135_X10_lengthAtHand l D zt q d I A  hIv) (SP.same _) (fun _ h => h) (gi_V (List.mem_cons_of_mem _ (List.mem_append_left _ (List.mem_of_getElem? (i := 0) rfl))) (List.mem_cons_of_mem _ (List.mem_append_left _ (List.mem_of_getElem? (i := 1) rfl))) (List.mem_cons_of_mem _ (List.mem_append_left _ (List.mem_of_getElem? (i := 2) rfl))) (List.mem_cons_of_mem _ (List.mem_append_left _ (List.mem_of_getElem? (i := 3) rfl))) (gi_sub (fun w h => (List.mem_cons_of_mem _ (List.mem_append_right _ (List.mem_append_right _ (List.mem_append_left _ h))))) zg_k135_X10_lengthAtHand)) rfl rfl rfl (by decide +kernel) ⟨Nat.le_of_ble_eq_true rfl, Nat.le_of_ble_eq_true rfl⟩ 1 rfl rfl rfl rfl (Nat.le_of_ble_eq_true rfl) ⟨Nat.le_of_ble_eq_true rfl, Nat.le_of_ble_eq_true rfl⟩ dX10_isSameAsAt_2 (fun v ty' w' hp hk' => ?_)
  obtain ⟨y1027, rfl, rfl⟩ := hp
  show GW κ 4 0 0 (wX q d I A) 5 [(0, .ref (q 1)), (1, .int z1), (2, .int z2)] [.int y1027, .int z2]
  have b1028l := Int32.le_toInt z2
  have b1028h := Int32.toInt_lt z2
  have b1029l := Int32.le_toInt y1027
  have b1029h := Int32.toInt_lt y1027
  refine g_icmp_eq (tgt := 10) (a := z2.toInt) (b := y1027.toInt) hk dX10_isSameAsAt_5 (by decide) rfl rfl (fun c1030 => ?_) (fun c1030 => ?_)
  · skip
    refine g_iconst (v := 0) hk dX10_isSameAsAt_10 (by decide) ?_
    refine g_istore_n (lv' := [(3, .int 0), (0, .ref (q 1)), (1, .int z1), (2, .int z2)]) hk dX10_isSameAsAt_11 (by decide) rfl ?_
    have lp1070 : ∀ (n1071 : Nat) (x1031 : Int32), (0 ≤ x1031.toInt) → (z2.toInt + 1 - x1031.toInt < (n1071 : Int)) → (0 < n1071) → GW κ 4 0 0 (wX q d I A) 12 [(3, .int x1031), (0, .ref (q 1)), (1, .int z1), (2, .int z2)] [] := by
      intro n1071
      induction n1071 with
      | zero =>
        intro x1031 h1069 m1072 m1072z
        exact absurd m1072z (Nat.lt_irrefl 0)
      | succ n1071 ih1073 =>
        intro x1031 h1069 m1072 m1072z
        refine g_iload_n hk dX10_isSameAsAt_12 rfl ?_
        refine g_iload_n hk dX10_isSameAsAt_13 rfl ?_
        have b1074l := Int32.le_toInt x1031
        have b1074h := Int32.toInt_lt x1031
        refine g_icmp_ge (tgt := 45) (a := x1031.toInt) (b := z2.toInt) hk dX10_isSameAsAt_14 (by decide) rfl rfl (fun c1075 => ?_) (fun c1075 => ?_)
        · skip
          refine g_iconst (v := 1) hk dX10_isSameAsAt_45 (by decide) ?_
          exact g_iret hk hR rfl (Or.inr (⟨rfl, rfl⟩)) dX10_isSameAsAt_46
        · skip
          refine g_aload_n hk dX10_isSameAsAt_17 rfl ?_
          refine g_aload_n hk dX10_isSameAsAt_18 rfl ?_
          refine gX_i2 (v := (I 2)) hk hin10 (List.mem_cons_of_mem _ (List.mem_append_left _ (List.mem_of_getElem? (i := 4) rfl))) dX10_isSameAsAt_19 rfl ?_
          refine g_iload_n hk dX10_isSameAsAt_22 rfl ?_
          have b1076l := Int32.le_toInt (I 2)
          have b1076h := Int32.toInt_lt (I 2)
          refine g_iadd hk dX10_isSameAsAt_23 ?_
          refine g_topi (fun y1077 ey1077 => ?_)
          refine g_callV (n := 1) hk (k125_X10_byteAt l D zt q d I A y1077 hIv) (SP.same _) (fun _ h => h) (gi_V (List.mem_cons_of_mem _ (List.mem_append_left _ (List.mem_of_getElem? (i := 5) rfl))) (List.mem_cons_of_mem _ (List.mem_append_left _ (List.mem_of_getElem? (i := 6) rfl))) (List.mem_cons_of_mem _ (List.mem_append_left _ (List.mem_of_getElem? (i := 7) rfl))) (List.mem_cons_of_mem _ (List.mem_append_left _ (List.mem_of_getElem? (i := 3) rfl))) (gi_sub (fun w h => (List.mem_cons_of_mem _ (List.mem_append_right _ (List.mem_append_right _ (List.mem_append_right _ (List.mem_append_left _ h)))))) zg_k125_X10_byteAt)) rfl rfl rfl (by decide +kernel) ⟨Nat.le_of_ble_eq_true rfl, Nat.le_of_ble_eq_true rfl⟩ 1 rfl rfl rfl rfl (Nat.le_of_ble_eq_true rfl) ⟨Nat.le_of_ble_eq_true rfl, Nat.le_of_ble_eq_true rfl⟩ dX10_isSameAsAt_24 (fun v ty' w' hp hk' => ?_)
          obtain ⟨y1078, rfl, rfl⟩ := hp
          show GW κ 4 0 0 (wX q d I A) 27 [(3, .int x1031), (0, .ref (q 1)), (1, .int z1), (2, .int z2)] [.int y1078]
          refine g_aload_n hk dX10_isSameAsAt_27 rfl ?_
          refine g_iload_n hk dX10_isSameAsAt_28 rfl ?_
          refine g_iload_n hk dX10_isSameAsAt_29 rfl ?_
          have b1079l := Int32.le_toInt z1
          have b1079h := Int32.toInt_lt z1
          refine g_iadd hk dX10_isSameAsAt_30 ?_
          refine g_topi (fun y1080 ey1080 => ?_)
          refine g_callV (n := 1) hk (k125_X10_byteAt l D zt q d I A y1080 hIv) (SP.same _) (fun _ h => h) (gi_V (List.mem_cons_of_mem _ (List.mem_append_left _ (List.mem_of_getElem? (i := 5) rfl))) (List.mem_cons_of_mem _ (List.mem_append_left _ (List.mem_of_getElem? (i := 6) rfl))) (List.mem_cons_of_mem _ (List.mem_append_left _ (List.mem_of_getElem? (i := 7) rfl))) (List.mem_cons_of_mem _ (List.mem_append_left _ (List.mem_of_getElem? (i := 3) rfl))) (gi_sub (fun w h => (List.mem_cons_of_mem _ (List.mem_append_right _ (List.mem_append_right _ (List.mem_append_right _ (List.mem_append_left _ h)))))) zg_k125_X10_byteAt)) rfl rfl rfl (by decide +kernel) ⟨Nat.le_of_ble_eq_true rfl, Nat.le_of_ble_eq_true rfl⟩ 1 rfl rfl rfl rfl (Nat.le_of_ble_eq_true rfl) ⟨Nat.le_of_ble_eq_true rfl, Nat.le_of_ble_eq_true rfl⟩ dX10_isSameAsAt_31 (fun v ty' w' hp hk' => ?_)
          obtain ⟨y1081, rfl, rfl⟩ := hp
          show GW κ 4 0 0 (wX q d I A) 34 [(3, .int x1031), (0, .ref (q 1)), (1, .int z1), (2, .int z2)] [.int y1081, .int y1078]
          have b1082l := Int32.le_toInt y1078
          have b1082h := Int32.toInt_lt y1078
          have b1083l := Int32.le_toInt y1081
          have b1083h := Int32.toInt_lt y1081
          refine g_icmp_eq (tgt := 39) (a := y1078.toInt) (b := y1081.toInt) hk dX10_isSameAsAt_34 (by decide) rfl rfl (fun c1084 => ?_) (fun c1084 => ?_)
          · skip
            obtain ⟨y1085, ey1085⟩ : ∃ y : Int32, y = x1031 + Int32.ofInt 1 := ⟨_, rfl⟩
            have hy1085 : y1085.toInt = x1031.toInt + 1 := i32_add ey1085 rfl (by decide) (by omega) (by omega)
            refine g_iinc (v := y1085) (lv' := [(3, .int y1085), (0, .ref (q 1)), (1, .int z1), (2, .int z2)]) hk 0 dX10_isSameAsAt_39 rfl ey1085.symm (by decide) rfl ?_
            refine g_goto (tgt := 12) hk dX10_isSameAsAt_42 (by decide) ?_
            exact g_lv (List.forall_mem_cons.mpr ⟨List.mem_of_getElem? (i := 0) rfl, (List.forall_mem_cons.mpr ⟨List.mem_of_getElem? (i := 1) rfl, (List.forall_mem_cons.mpr ⟨List.mem_of_getElem? (i := 2) rfl, (List.forall_mem_cons.mpr ⟨List.mem_of_getElem? (i := 3) rfl, (fun _ h => absurd h List.not_mem_nil)⟩)⟩)⟩)⟩) (ih1073 y1085 (by omega) (by omega) (by omega))
          · skip
            refine g_iconst (v := 0) hk dX10_isSameAsAt_37 (by decide) ?_
            exact g_iret hk hR rfl (Or.inl ⟨rfl, rfl⟩) dX10_isSameAsAt_38
    have k1087 : (0 : Int32).toInt = 0 := rfl
    obtain ⟨n1086, n1086a, n1086b⟩ : ∃ n : Nat, z2.toInt + 1 - 0 < (n : Int) ∧ 0 < n := ⟨((z2.toInt + 1 - 0 : Int)).toNat + 1, by omega, by omega⟩
    exact lp1070 n1086 0 (by omega) n1086a n1086b
  · skip
    refine g_iconst (v := 0) hk dX10_isSameAsAt_8 (by decide) ?_
    exact g_iret hk hR rfl (Or.inl ⟨rfl, rfl⟩) dX10_isSameAsAt_9
def wo_k158_X5_acceptName : List Cond := [Cond.fieldLink RX5 21 "WarpDesk$Reader" "queries" "LWarpDesk$Queries;", Cond.fieldLink RX5 84 "WarpDesk$Queries" "size" "I", Cond.fieldLink RX5 75 "WarpDesk$Reader" "state" "I", Cond.fieldLink RX5 25 "WarpDesk$Reader" "nameStarts" "[I", Cond.fieldLink RX5 42 "WarpDesk$Reader" "tape" "LWarpDesk$Tape;", Cond.fieldLink RX5 96 "WarpDesk$Tape" "start" "I", Cond.fieldLink RX5 29 "WarpDesk$Reader" "nameLengths" "[I", Cond.methodLink RX5 184 yX10_lengthAtHand, Cond.instanceMethod yX10_lengthAtHand, Cond.selects RX10 yX10_lengthAtHand yX10_lengthAtHand, Cond.initialized RX10, Cond.methodLink RX5 187 yX4_open, Cond.instanceMethod yX4_open, Cond.selects RX4 yX4_open yX4_open, Cond.initialized RX4, Cond.methodLink RX5 177 yX10_isSameAsAt, Cond.instanceMethod yX10_isSameAsAt, Cond.selects RX10 yX10_isSameAsAt yX10_isSameAsAt, Cond.methodLink RX5 181 yX5_mark, Cond.instanceMethod yX5_mark, Cond.selects RX5 yX5_mark yX5_mark, Cond.initialized RX5]
def wz_k158_X5_acceptName : List Cond := .code yX5_acceptName cX5_acceptName 3 none :: (wo_k158_X5_acceptName ++ (wsX40 ++ (wsX50 ++ (wsX100 ++ (wz_k135_X10_lengthAtHand ++ (wz_k159_X4_open ++ (wz_k160_X10_isSameAsAt ++ (wz_k157_X5_mark ++ ([] : List Cond)))))))))
theorem zg_k158_X5_acceptName : ∀ w ∈ wz_k158_X5_acceptName, goodWord w = true := zg_cons rfl (zg_app (by decide +kernel) (zg_app zgU_wsX40 (zg_app zgU_wsX50 (zg_app zgU_wsX100 (zg_app zg_k135_X10_lengthAtHand (zg_app zg_k159_X4_open (zg_app zg_k160_X10_isSameAsAt (zg_app zg_k157_X5_mark zg_nil))))))))
theorem zi_k158_X5_acceptName : ∀ w ∈ wz_k158_X5_acceptName, w ∈ lw_tbl := zi_cons zw_704 (zi_app (zi_cons zw_233 (zi_cons zw_220 (zi_cons zw_237 (zi_cons zw_235 (zi_cons zw_230 (zi_cons zw_141 (zi_cons zw_236 (zi_cons zw_713 (zi_cons zw_598 (zi_cons zw_599 (zi_cons zw_104 (zi_cons zw_714 (zi_cons zw_715 (zi_cons zw_716 (zi_cons zw_108 (zi_cons zw_705 (zi_cons zw_706 (zi_cons zw_707 (zi_cons zw_709 (zi_cons zw_711 (zi_cons zw_18 (zi_cons zw_105 zi_nil)))))))))))))))))))))) (zi_app inX4 (zi_app inX5 (zi_app inX10 (zi_app zi_k135_X10_lengthAtHand (zi_app zi_k159_X4_open (zi_app zi_k160_X10_isSameAsAt (zi_app zi_k157_X5_mark zi_nil))))))))
set_option maxHeartbeats 4000000 in
set_option maxRecDepth 100000 in
theorem k158_X5_acceptName (l : Launch) (D : va_G) (zt : Nat × Nat × Nat × (Nat → Nat) × (Nat → Nat)) (q : Nat → Nat) (d : Nat → ClassId) (I : Nat → Int32) (A : Nat → Nat → Int32) (hIv : IvX I A) : GM l D zt (tyX d) yX5_acceptName wz_k158_X5_acceptName ({ frames := 2, cells := 0, slots := 0, locals := 44 } : Room) [.ref (q 3)] (wX q d I A) (fun v _ w' => ∃ (I' : Nat → Int32) (A' : Nat → Nat → Int32), Md [6, 11, 12, 13, 16] I I' ∧ Md [4, 5, 6] A A' ∧ IvX I' A' ∧ v = none ∧ w' = wX q d I' A') 0 0 := by
  refine GM.of (cc := cX5_acceptName) (maxL := 3) (ret := none) (own := RX5) (lv := [(0, .ref (q 3))]) (by decide) rfl rfl (Nat.le_of_ble_eq_true rfl) rfl (fun κ sz hk hR hN => ?_)
  have hin4 : ∀ w ∈ u_ws RX4 TX4 3, w ∈ wz_k158_X5_acceptName := fun w h => (List.mem_cons_of_mem _ (List.mem_append_right _ (List.mem_append_left _ h)))
  have hin5 : ∀ w ∈ u_ws RX5 TX5 13, w ∈ wz_k158_X5_acceptName := fun w h => (List.mem_cons_of_mem _ (List.mem_append_right _ (List.mem_append_right _ (List.mem_append_left _ h))))
  have hin10 : ∀ w ∈ u_ws RX10 TX10 7, w ∈ wz_k158_X5_acceptName := fun w h => (List.mem_cons_of_mem _ (List.mem_append_right _ (List.mem_append_right _ (List.mem_append_right _ (List.mem_append_left _ h)))))
  refine g_aload_n hk dX5_acceptName_0 rfl ?_
  refine gX_r3_2 hk hin5 (List.mem_cons_of_mem _ (List.mem_append_left _ (List.mem_of_getElem? (i := 0) rfl))) dX5_acceptName_1 ?_
  refine gX_i16 (v := (I 16)) hk hin4 (List.mem_cons_of_mem _ (List.mem_append_left _ (List.mem_of_getElem? (i := 1) rfl))) dX5_acceptName_4 rfl ?_
  refine g_istore_n (lv' := [(1, .int (I 16)), (0, .ref (q 3))]) hk dX5_acceptName_7 (by decide) rfl ?_
  refine g_iconst (v := 0) hk dX5_acceptName_8 (by decide) ?_
  refine g_istore_n (lv' := [(2, .int 0), (1, .int (I 16)), (0, .ref (q 3))]) hk dX5_acceptName_9 (by decide) rfl ?_
  have lp1147 : ∀ (n1148 : Nat) (x1011 : Int32) (I1014 : Nat → Int32) (A1014 : Nat → Nat → Int32), (Md [11, 12, 13] I I1014) → (Md [] A A1014) → (IvX I1014 A1014) → (0 ≤ x1011.toInt) → (x1011.toInt ≤ 5) → ((I 16).toInt + 1 - x1011.toInt < (n1148 : Int)) → (0 < n1148) → GW κ 3 0 0 (wX q d I1014 A1014) 10 [(2, .int x1011), (1, .int (I 16)), (0, .ref (q 3))] [] := by
    intro n1148
    induction n1148 with
    | zero =>
      intro x1011 I1014 A1014 hI1014 hA1014 hV1014 h1145 h1146 m1149 m1149z
      exact absurd m1149z (Nat.lt_irrefl 0)
    | succ n1148 ih1150 =>
      intro x1011 I1014 A1014 hI1014 hA1014 hV1014 h1145 h1146 m1149 m1149z
      refine g_iload_n hk dX5_acceptName_10 rfl ?_
      refine g_iload_n hk dX5_acceptName_11 rfl ?_
      have b1151l := Int32.le_toInt (I 16)
      have b1151h := Int32.toInt_lt (I 16)
      refine g_icmp_ge (tgt := 53) (a := x1011.toInt) (b := (I 16).toInt) hk dX5_acceptName_12 (by decide) rfl rfl (fun c1152 => ?_) (fun c1152 => ?_)
      · skip
        refine g_iload_n hk dX5_acceptName_53 rfl ?_
        refine g_if_lt (tgt := 95) (a := (I 16).toInt) hk dX5_acceptName_54 (by decide) rfl (fun c1153 => ?_) (fun c1153 => ?_)
        · skip
          refine g_aload_n hk dX5_acceptName_95 rfl ?_
          refine g_iconst (v := 3) hk dX5_acceptName_96 (by decide) ?_
          refine pX_i6 hk hin5 (List.mem_cons_of_mem _ (List.mem_append_left _ (List.mem_of_getElem? (i := 2) rfl))) dX5_acceptName_97 ?_
          exact g_vret hk hR ⟨(upd I1014 6 3), A1014, (show Md [6, 11, 12, 13, 16] I (upd I1014 6 3) from (Md.up (Md.tr Md.rf hI1014 rfl) rfl)), (show Md [4, 5, 6] A A1014 from (Md.tr Md.rf hA1014 rfl)), ⟨(IvX_f0 (I := I1014) (A := A1014) hV1014), (IvX_f18 (I := I1014) (A := A1014) hV1014), (IvX_f30 (I := I1014) (A := A1014) hV1014), (IvX_f31 (I := I1014) (A := A1014) hV1014), (IvX_a4 (I := I1014) (A := A1014) hV1014), (IvX_a9 (I := I1014) (A := A1014) hV1014), trivial⟩, rfl, rfl⟩ dX5_acceptName_100
        · skip
          refine g_iload_n hk dX5_acceptName_57 rfl ?_
          refine g_iconst (v := 5) hk dX5_acceptName_58 (by decide) ?_
          refine g_icmp_ge (tgt := 95) (a := (I 16).toInt) (b := 5) hk dX5_acceptName_59 (by decide) rfl rfl (fun c1154 => ?_) (fun c1154 => ?_)
          · skip
            refine g_aload_n hk dX5_acceptName_95 rfl ?_
            refine g_iconst (v := 3) hk dX5_acceptName_96 (by decide) ?_
            refine pX_i6 hk hin5 (List.mem_cons_of_mem _ (List.mem_append_left _ (List.mem_of_getElem? (i := 2) rfl))) dX5_acceptName_97 ?_
            exact g_vret hk hR ⟨(upd I1014 6 3), A1014, (show Md [6, 11, 12, 13, 16] I (upd I1014 6 3) from (Md.up (Md.tr Md.rf hI1014 rfl) rfl)), (show Md [4, 5, 6] A A1014 from (Md.tr Md.rf hA1014 rfl)), ⟨(IvX_f0 (I := I1014) (A := A1014) hV1014), (IvX_f18 (I := I1014) (A := A1014) hV1014), (IvX_f30 (I := I1014) (A := A1014) hV1014), (IvX_f31 (I := I1014) (A := A1014) hV1014), (IvX_a4 (I := I1014) (A := A1014) hV1014), (IvX_a9 (I := I1014) (A := A1014) hV1014), trivial⟩, rfl, rfl⟩ dX5_acceptName_100
          · skip
            refine g_aload_n hk dX5_acceptName_62 rfl ?_
            refine gX_r3_3 hk hin5 (List.mem_cons_of_mem _ (List.mem_append_left _ (List.mem_of_getElem? (i := 3) rfl))) dX5_acceptName_63 ?_
            refine g_iload_n hk dX5_acceptName_66 rfl ?_
            refine g_aload_n hk dX5_acceptName_67 rfl ?_
            refine gX_r3_0 hk hin5 (List.mem_cons_of_mem _ (List.mem_append_left _ (List.mem_of_getElem? (i := 4) rfl))) dX5_acceptName_68 ?_
            refine gX_i2 (v := (I 2)) hk hin10 (List.mem_cons_of_mem _ (List.mem_append_left _ (List.mem_of_getElem? (i := 5) rfl))) dX5_acceptName_71 (hI1014 2 rfl) ?_
            refine sX_5 (j := (I 16).toNatClampNeg) hk (vp_in_iff.mpr ⟨by omega, by omega⟩) rfl dX5_acceptName_74 ?_
            refine g_aload_n hk dX5_acceptName_75 rfl ?_
            refine gX_r3_4 hk hin5 (List.mem_cons_of_mem _ (List.mem_append_left _ (List.mem_of_getElem? (i := 6) rfl))) dX5_acceptName_76 ?_
            refine g_iload_n hk dX5_acceptName_79 rfl ?_
            refine g_aload_n hk dX5_acceptName_80 rfl ?_
            refine gX_r3_0 hk hin5 (List.mem_cons_of_mem _ (List.mem_append_left _ (List.mem_of_getElem? (i := 4) rfl))) dX5_acceptName_81 ?_
            refine g_callV (n := 0) hk (k135_X10_lengthAtHand l D zt q d I1014 (up3 A1014 5 ((I 16).toNatClampNeg) (I 2))  ⟨(IvX_f0 (I := I1014) (A := A1014) hV1014), (IvX_f18 (I := I1014) (A := A1014) hV1014), (IvX_f30 (I := I1014) (A := A1014) hV1014), (IvX_f31 (I := I1014) (A := A1014) hV1014), (IvX_a4 (I := I1014) (A := A1014) hV1014), (IvX_a9 (I := I1014) (A := A1014) hV1014), trivial⟩) (SP.same _) (fun _ h => h) (gi_V (List.mem_cons_of_mem _ (List.mem_append_left _ (List.mem_of_getElem? (i := 7) rfl))) (List.mem_cons_of_mem _ (List.mem_append_left _ (List.mem_of_getElem? (i := 8) rfl))) (List.mem_cons_of_mem _ (List.mem_append_left _ (List.mem_of_getElem? (i := 9) rfl))) (List.mem_cons_of_mem _ (List.mem_append_left _ (List.mem_of_getElem? (i := 10) rfl))) (gi_sub (fun w h => (List.mem_cons_of_mem _ (List.mem_append_right _ (List.mem_append_right _ (List.mem_append_right _ (List.mem_append_right _ (List.mem_append_left _ h))))))) zg_k135_X10_lengthAtHand)) rfl rfl rfl (by decide +kernel) ⟨Nat.le_of_ble_eq_true rfl, Nat.le_of_ble_eq_true rfl⟩ 1 rfl rfl rfl rfl (Nat.le_of_ble_eq_true rfl) ⟨Nat.le_of_ble_eq_true rfl, Nat.le_of_ble_eq_true rfl⟩ dX5_acceptName_84 (fun v ty' w' hp hk' => ?_)
            obtain ⟨y1155, rfl, rfl⟩ := hp
            show GW κ 3 0 0 (wX q d I1014 (up3 A1014 5 ((I 16).toNatClampNeg) (I 2))) 87 [(2, .int x1011), (1, .int (I 16)), (0, .ref (q 3))] [.int y1155, .int (I 16), .ref (q 12)]
            refine sX_6 (j := (I 16).toNatClampNeg) hk (vp_in_iff.mpr ⟨by omega, by omega⟩) rfl dX5_acceptName_87 ?_
            refine g_aload_n hk dX5_acceptName_88 rfl ?_
            refine gX_r3_2 hk hin5 (List.mem_cons_of_mem _ (List.mem_append_left _ (List.mem_of_getElem? (i := 0) rfl))) dX5_acceptName_89 ?_
            refine g_callV (n := 0) hk (k159_X4_open l D zt q d I1014 (up3 (up3 A1014 5 ((I 16).toNatClampNeg) (I 2)) 6 ((I 16).toNatClampNeg) y1155)  ⟨(IvX_f0 (I := I1014) (A := A1014) hV1014), (IvX_f18 (I := I1014) (A := A1014) hV1014), (IvX_f30 (I := I1014) (A := A1014) hV1014), (IvX_f31 (I := I1014) (A := A1014) hV1014), (IvX_a4 (I := I1014) (A := A1014) hV1014), (IvX_a9 (I := I1014) (A := A1014) hV1014), trivial⟩) (SP.same _) (fun _ h => h) (gi_V (List.mem_cons_of_mem _ (List.mem_append_left _ (List.mem_of_getElem? (i := 11) rfl))) (List.mem_cons_of_mem _ (List.mem_append_left _ (List.mem_of_getElem? (i := 12) rfl))) (List.mem_cons_of_mem _ (List.mem_append_left _ (List.mem_of_getElem? (i := 13) rfl))) (List.mem_cons_of_mem _ (List.mem_append_left _ (List.mem_of_getElem? (i := 14) rfl))) (gi_sub (fun w h => (List.mem_cons_of_mem _ (List.mem_append_right _ (List.mem_append_right _ (List.mem_append_right _ (List.mem_append_right _ (List.mem_append_right _ (List.mem_append_left _ h)))))))) zg_k159_X4_open)) rfl rfl rfl (by decide +kernel) ⟨Nat.le_of_ble_eq_true rfl, Nat.le_of_ble_eq_true rfl⟩ 8 rfl rfl rfl rfl (Nat.le_of_ble_eq_true rfl) ⟨Nat.le_of_ble_eq_true rfl, Nat.le_of_ble_eq_true rfl⟩ dX5_acceptName_92 (fun v ty' w' hp hk' => ?_)
            obtain ⟨I1157, A1157, hI1157, hA1157, hV1157, rfl, rfl⟩ := hp
            show GW κ 3 0 0 (wX q d I1157 A1157) 95 [(2, .int x1011), (1, .int (I 16)), (0, .ref (q 3))] []
            refine g_aload_n hk dX5_acceptName_95 rfl ?_
            refine g_iconst (v := 3) hk dX5_acceptName_96 (by decide) ?_
            refine pX_i6 hk hin5 (List.mem_cons_of_mem _ (List.mem_append_left _ (List.mem_of_getElem? (i := 2) rfl))) dX5_acceptName_97 ?_
            exact g_vret hk hR ⟨(upd I1157 6 3), A1157, (show Md [6, 11, 12, 13, 16] I (upd I1157 6 3) from (Md.up (Md.tr (Md.tr Md.rf hI1014 rfl) hI1157 rfl) rfl)), (show Md [4, 5, 6] A A1157 from (Md.tr (Md.up3 (Md.up3 (Md.tr Md.rf hA1014 rfl) rfl) rfl) hA1157 rfl)), ⟨(IvX_f0 (I := I1157) (A := A1157) hV1157), (IvX_f18 (I := I1157) (A := A1157) hV1157), (IvX_f30 (I := I1157) (A := A1157) hV1157), (IvX_f31 (I := I1157) (A := A1157) hV1157), (IvX_a4 (I := I1157) (A := A1157) hV1157), (IvX_a9 (I := I1157) (A := A1157) hV1157), trivial⟩, rfl, rfl⟩ dX5_acceptName_100
      · skip
        refine g_iload_n hk dX5_acceptName_15 rfl ?_
        refine g_iconst (v := 5) hk dX5_acceptName_16 (by decide) ?_
        refine g_icmp_ge (tgt := 53) (a := x1011.toInt) (b := 5) hk dX5_acceptName_17 (by decide) rfl rfl (fun c1158 => ?_) (fun c1158 => ?_)
        · skip
          refine g_iload_n hk dX5_acceptName_53 rfl ?_
          refine g_if_lt (tgt := 95) (a := (I 16).toInt) hk dX5_acceptName_54 (by decide) rfl (fun z9 => absurd z9 (show ¬ ((I 16).toInt < 0) from by omega)) (fun _ => ?_)
          refine g_iload_n hk dX5_acceptName_57 rfl ?_
          refine g_iconst (v := 5) hk dX5_acceptName_58 (by decide) ?_
          refine g_icmp_ge (tgt := 95) (a := (I 16).toInt) (b := 5) hk dX5_acceptName_59 (by decide) rfl rfl (fun c1159 => ?_) (fun c1159 => ?_)
          · skip
            refine g_aload_n hk dX5_acceptName_95 rfl ?_
            refine g_iconst (v := 3) hk dX5_acceptName_96 (by decide) ?_
            refine pX_i6 hk hin5 (List.mem_cons_of_mem _ (List.mem_append_left _ (List.mem_of_getElem? (i := 2) rfl))) dX5_acceptName_97 ?_
            exact g_vret hk hR ⟨(upd I1014 6 3), A1014, (show Md [6, 11, 12, 13, 16] I (upd I1014 6 3) from (Md.up (Md.tr Md.rf hI1014 rfl) rfl)), (show Md [4, 5, 6] A A1014 from (Md.tr Md.rf hA1014 rfl)), ⟨(IvX_f0 (I := I1014) (A := A1014) hV1014), (IvX_f18 (I := I1014) (A := A1014) hV1014), (IvX_f30 (I := I1014) (A := A1014) hV1014), (IvX_f31 (I := I1014) (A := A1014) hV1014), (IvX_a4 (I := I1014) (A := A1014) hV1014), (IvX_a9 (I := I1014) (A := A1014) hV1014), trivial⟩, rfl, rfl⟩ dX5_acceptName_100
          · skip
            refine g_aload_n hk dX5_acceptName_62 rfl ?_
            refine gX_r3_3 hk hin5 (List.mem_cons_of_mem _ (List.mem_append_left _ (List.mem_of_getElem? (i := 3) rfl))) dX5_acceptName_63 ?_
            refine g_iload_n hk dX5_acceptName_66 rfl ?_
            refine g_aload_n hk dX5_acceptName_67 rfl ?_
            refine gX_r3_0 hk hin5 (List.mem_cons_of_mem _ (List.mem_append_left _ (List.mem_of_getElem? (i := 4) rfl))) dX5_acceptName_68 ?_
            refine gX_i2 (v := (I 2)) hk hin10 (List.mem_cons_of_mem _ (List.mem_append_left _ (List.mem_of_getElem? (i := 5) rfl))) dX5_acceptName_71 (hI1014 2 rfl) ?_
            refine sX_5 (j := (I 16).toNatClampNeg) hk (vp_in_iff.mpr ⟨by omega, by omega⟩) rfl dX5_acceptName_74 ?_
            refine g_aload_n hk dX5_acceptName_75 rfl ?_
            refine gX_r3_4 hk hin5 (List.mem_cons_of_mem _ (List.mem_append_left _ (List.mem_of_getElem? (i := 6) rfl))) dX5_acceptName_76 ?_
            refine g_iload_n hk dX5_acceptName_79 rfl ?_
            refine g_aload_n hk dX5_acceptName_80 rfl ?_
            refine gX_r3_0 hk hin5 (List.mem_cons_of_mem _ (List.mem_append_left _ (List.mem_of_getElem? (i := 4) rfl))) dX5_acceptName_81 ?_
            refine g_callV (n := 0) hk (k135_X10_lengthAtHand l D zt q d I1014 (up3 A1014 5 ((I 16).toNatClampNeg) (I 2))  ⟨(IvX_f0 (I := I1014) (A := A1014) hV1014), (IvX_f18 (I := I1014) (A := A1014) hV1014), (IvX_f30 (I := I1014) (A := A1014) hV1014), (IvX_f31 (I := I1014) (A := A1014) hV1014), (IvX_a4 (I := I1014) (A := A1014) hV1014), (IvX_a9 (I := I1014) (A := A1014) hV1014), trivial⟩) (SP.same _) (fun _ h => h) (gi_V (List.mem_cons_of_mem _ (List.mem_append_left _ (List.mem_of_getElem? (i := 7) rfl))) (List.mem_cons_of_mem _ (List.mem_append_left _ (List.mem_of_getElem? (i := 8) rfl))) (List.mem_cons_of_mem _ (List.mem_append_left _ (List.mem_of_getElem? (i := 9) rfl))) (List.mem_cons_of_mem _ (List.mem_append_left _ (List.mem_of_getElem? (i := 10) rfl))) (gi_sub (fun w h => (List.mem_cons_of_mem _ (List.mem_append_right _ (List.mem_append_right _ (List.mem_append_right _ (List.mem_append_right _ (List.mem_append_left _ h))))))) zg_k135_X10_lengthAtHand)) rfl rfl rfl (by decide +kernel) ⟨Nat.le_of_ble_eq_true rfl, Nat.le_of_ble_eq_true rfl⟩ 1 rfl rfl rfl rfl (Nat.le_of_ble_eq_true rfl) ⟨Nat.le_of_ble_eq_true rfl, Nat.le_of_ble_eq_true rfl⟩ dX5_acceptName_84 (fun v ty' w' hp hk' => ?_)
            obtain ⟨y1160, rfl, rfl⟩ := hp
            show GW κ 3 0 0 (wX q d I1014 (up3 A1014 5 ((I 16).toNatClampNeg) (I 2))) 87 [(2, .int x1011), (1, .int (I 16)), (0, .ref (q 3))] [.int y1160, .int (I 16), .ref (q 12)]
            refine sX_6 (j := (I 16).toNatClampNeg) hk (vp_in_iff.mpr ⟨by omega, by omega⟩) rfl dX5_acceptName_87 ?_
            refine g_aload_n hk dX5_acceptName_88 rfl ?_
            refine gX_r3_2 hk hin5 (List.mem_cons_of_mem _ (List.mem_append_left _ (List.mem_of_getElem? (i := 0) rfl))) dX5_acceptName_89 ?_
            refine g_callV (n := 0) hk (k159_X4_open l D zt q d I1014 (up3 (up3 A1014 5 ((I 16).toNatClampNeg) (I 2)) 6 ((I 16).toNatClampNeg) y1160)  ⟨(IvX_f0 (I := I1014) (A := A1014) hV1014), (IvX_f18 (I := I1014) (A := A1014) hV1014), (IvX_f30 (I := I1014) (A := A1014) hV1014), (IvX_f31 (I := I1014) (A := A1014) hV1014), (IvX_a4 (I := I1014) (A := A1014) hV1014), (IvX_a9 (I := I1014) (A := A1014) hV1014), trivial⟩) (SP.same _) (fun _ h => h) (gi_V (List.mem_cons_of_mem _ (List.mem_append_left _ (List.mem_of_getElem? (i := 11) rfl))) (List.mem_cons_of_mem _ (List.mem_append_left _ (List.mem_of_getElem? (i := 12) rfl))) (List.mem_cons_of_mem _ (List.mem_append_left _ (List.mem_of_getElem? (i := 13) rfl))) (List.mem_cons_of_mem _ (List.mem_append_left _ (List.mem_of_getElem? (i := 14) rfl))) (gi_sub (fun w h => (List.mem_cons_of_mem _ (List.mem_append_right _ (List.mem_append_right _ (List.mem_append_right _ (List.mem_append_right _ (List.mem_append_right _ (List.mem_append_left _ h)))))))) zg_k159_X4_open)) rfl rfl rfl (by decide +kernel) ⟨Nat.le_of_ble_eq_true rfl, Nat.le_of_ble_eq_true rfl⟩ 8 rfl rfl rfl rfl (Nat.le_of_ble_eq_true rfl) ⟨Nat.le_of_ble_eq_true rfl, Nat.le_of_ble_eq_true rfl⟩ dX5_acceptName_92 (fun v ty' w' hp hk' => ?_)
            obtain ⟨I1162, A1162, hI1162, hA1162, hV1162, rfl, rfl⟩ := hp
            show GW κ 3 0 0 (wX q d I1162 A1162) 95 [(2, .int x1011), (1, .int (I 16)), (0, .ref (q 3))] []
            refine g_aload_n hk dX5_acceptName_95 rfl ?_
            refine g_iconst (v := 3) hk dX5_acceptName_96 (by decide) ?_
            refine pX_i6 hk hin5 (List.mem_cons_of_mem _ (List.mem_append_left _ (List.mem_of_getElem? (i := 2) rfl))) dX5_acceptName_97 ?_
            exact g_vret hk hR ⟨(upd I1162 6 3), A1162, (show Md [6, 11, 12, 13, 16] I (upd I1162 6 3) from (Md.up (Md.tr (Md.tr Md.rf hI1014 rfl) hI1162 rfl) rfl)), (show Md [4, 5, 6] A A1162 from (Md.tr (Md.up3 (Md.up3 (Md.tr Md.rf hA1014 rfl) rfl) rfl) hA1162 rfl)), ⟨(IvX_f0 (I := I1162) (A := A1162) hV1162), (IvX_f18 (I := I1162) (A := A1162) hV1162), (IvX_f30 (I := I1162) (A := A1162) hV1162), (IvX_f31 (I := I1162) (A := A1162) hV1162), (IvX_a4 (I := I1162) (A := A1162) hV1162), (IvX_a9 (I := I1162) (A := A1162) hV1162), trivial⟩, rfl, rfl⟩ dX5_acceptName_100
        · skip
          refine g_aload_n hk dX5_acceptName_20 rfl ?_
          refine gX_r3_0 hk hin5 (List.mem_cons_of_mem _ (List.mem_append_left _ (List.mem_of_getElem? (i := 4) rfl))) dX5_acceptName_21 ?_
          refine g_aload_n hk dX5_acceptName_24 rfl ?_
          refine gX_r3_3 hk hin5 (List.mem_cons_of_mem _ (List.mem_append_left _ (List.mem_of_getElem? (i := 3) rfl))) dX5_acceptName_25 ?_
          refine g_iload_n hk dX5_acceptName_28 rfl ?_
          refine lX_5 (v := (A 5 x1011.toNatClampNeg)) hk (vp_in_iff.mpr ⟨by omega, by omega⟩) (congrFun (hA1014 5 rfl) _) dX5_acceptName_29 ?_
          refine g_aload_n hk dX5_acceptName_30 rfl ?_
          refine gX_r3_4 hk hin5 (List.mem_cons_of_mem _ (List.mem_append_left _ (List.mem_of_getElem? (i := 6) rfl))) dX5_acceptName_31 ?_
          refine g_iload_n hk dX5_acceptName_34 rfl ?_
          refine lX_6 (v := (A 6 x1011.toNatClampNeg)) hk (vp_in_iff.mpr ⟨by omega, by omega⟩) (congrFun (hA1014 6 rfl) _) dX5_acceptName_35 ?_
          refine g_callV (n := 2) hk (k160_X10_isSameAsAt l D zt q d I1014 A1014 (A 5 x1011.toNatClampNeg) (A 6 x1011.toNatClampNeg) hV1014) (SP.same _) (fun _ h => h) (gi_V (List.mem_cons_of_mem _ (List.mem_append_left _ (List.mem_of_getElem? (i := 15) rfl))) (List.mem_cons_of_mem _ (List.mem_append_left _ (List.mem_of_getElem? (i := 16) rfl))) (List.mem_cons_of_mem _ (List.mem_append_left _ (List.mem_of_getElem? (i := 17) rfl))) (List.mem_cons_of_mem _ (List.mem_append_left _ (List.mem_of_getElem? (i := 10) rfl))) (gi_sub (fun w h => (List.mem_cons_of_mem _ (List.mem_append_right _ (List.mem_append_right _ (List.mem_append_right _ (List.mem_append_right _ (List.mem_append_right _ (List.mem_append_right _ (List.mem_append_left _ h))))))))) zg_k160_X10_isSameAsAt)) rfl rfl rfl (by decide +kernel) ⟨Nat.le_of_ble_eq_true rfl, Nat.le_of_ble_eq_true rfl⟩ 1 rfl rfl rfl rfl (Nat.le_of_ble_eq_true rfl) ⟨Nat.le_of_ble_eq_true rfl, Nat.le_of_ble_eq_true rfl⟩ dX5_acceptName_36 (fun v ty' w' hp hk' => ?_)
          rcases hp with ⟨rfl, rfl⟩ | ⟨rfl, rfl⟩
          · skip
            show GW κ 3 0 0 (wX q d I1014 A1014) 39 [(2, .int x1011), (1, .int (I 16)), (0, .ref (q 3))] [.int 0]
            refine g_if_eq (tgt := 47) (a := 0) hk dX5_acceptName_39 (by decide) rfl (fun _ => ?_) (fun z9 => absurd (show (0 : Int) = (0 : Int) from by decide) z9)
            obtain ⟨y1165, ey1165⟩ : ∃ y : Int32, y = x1011 + Int32.ofInt 1 := ⟨_, rfl⟩
            have hy1165 : y1165.toInt = x1011.toInt + 1 := i32_add ey1165 rfl (by decide) (by omega) (by omega)
            refine g_iinc (v := y1165) (lv' := [(2, .int y1165), (1, .int (I 16)), (0, .ref (q 3))]) hk 0 dX5_acceptName_47 rfl ey1165.symm (by decide) rfl ?_
            refine g_goto (tgt := 10) hk dX5_acceptName_50 (by decide) ?_
            exact g_lv (List.forall_mem_cons.mpr ⟨List.mem_of_getElem? (i := 0) rfl, (List.forall_mem_cons.mpr ⟨List.mem_of_getElem? (i := 1) rfl, (List.forall_mem_cons.mpr ⟨List.mem_of_getElem? (i := 2) rfl, (fun _ h => absurd h List.not_mem_nil)⟩)⟩)⟩) (ih1150 y1165 I1014 A1014 (show Md [11, 12, 13] I I1014 from Md.tr hI1014 (show Md [11, 12, 13] I1014 I1014 from Md.rf) rfl) (show Md [] A A1014 from Md.tr hA1014 (show Md [] A1014 A1014 from Md.rf) rfl) hV1014 (by omega) (by omega) (by omega) (by omega))
          · skip
            show GW κ 3 0 0 (wX q d I1014 A1014) 39 [(2, .int x1011), (1, .int (I 16)), (0, .ref (q 3))] [.int 1]
            refine g_if_eq (tgt := 47) (a := 1) hk dX5_acceptName_39 (by decide) rfl (fun z9 => absurd z9 (show ¬ ((1 : Int) = (0 : Int)) from by decide)) (fun _ => ?_)
            refine g_aload_n hk dX5_acceptName_42 rfl ?_
            refine g_iconst (v := 3) hk dX5_acceptName_43 (by decide) ?_
            have k1166 : (3 : Int32).toInt = 3 := rfl
            refine g_callV (n := 1) hk (k157_X5_mark l D zt q d I1014 A1014 3 hV1014) (SP.same _) (fun _ h => h) (gi_V (List.mem_cons_of_mem _ (List.mem_append_left _ (List.mem_of_getElem? (i := 18) rfl))) (List.mem_cons_of_mem _ (List.mem_append_left _ (List.mem_of_getElem? (i := 19) rfl))) (List.mem_cons_of_mem _ (List.mem_append_left _ (List.mem_of_getElem? (i := 20) rfl))) (List.mem_cons_of_mem _ (List.mem_append_left _ (List.mem_of_getElem? (i := 21) rfl))) (gi_sub (fun w h => (List.mem_cons_of_mem _ (List.mem_append_right _ (List.mem_append_right _ (List.mem_append_right _ (List.mem_append_right _ (List.mem_append_right _ (List.mem_append_right _ (List.mem_append_right _ (List.mem_append_left _ h)))))))))) zg_k157_X5_mark)) rfl rfl rfl (by decide +kernel) ⟨Nat.le_of_ble_eq_true rfl, Nat.le_of_ble_eq_true rfl⟩ 3 rfl rfl rfl rfl (Nat.le_of_ble_eq_true rfl) ⟨Nat.le_of_ble_eq_true rfl, Nat.le_of_ble_eq_true rfl⟩ dX5_acceptName_44 (fun v ty' w' hp hk' => ?_)
            obtain ⟨I1168, A1168, hI1168, hA1168, hV1168, rfl, rfl⟩ := hp
            show GW κ 3 0 0 (wX q d I1168 A1168) 47 [(2, .int x1011), (1, .int (I 16)), (0, .ref (q 3))] []
            obtain ⟨y1169, ey1169⟩ : ∃ y : Int32, y = x1011 + Int32.ofInt 1 := ⟨_, rfl⟩
            have hy1169 : y1169.toInt = x1011.toInt + 1 := i32_add ey1169 rfl (by decide) (by omega) (by omega)
            refine g_iinc (v := y1169) (lv' := [(2, .int y1169), (1, .int (I 16)), (0, .ref (q 3))]) hk 0 dX5_acceptName_47 rfl ey1169.symm (by decide) rfl ?_
            refine g_goto (tgt := 10) hk dX5_acceptName_50 (by decide) ?_
            exact g_lv (List.forall_mem_cons.mpr ⟨List.mem_of_getElem? (i := 0) rfl, (List.forall_mem_cons.mpr ⟨List.mem_of_getElem? (i := 1) rfl, (List.forall_mem_cons.mpr ⟨List.mem_of_getElem? (i := 2) rfl, (fun _ h => absurd h List.not_mem_nil)⟩)⟩)⟩) (ih1150 y1169 I1168 A1168 (show Md [11, 12, 13] I I1168 from Md.tr hI1014 (show Md [11, 12, 13] I1014 I1168 from (Md.tr Md.rf hI1168 rfl)) rfl) (show Md [] A A1168 from Md.tr hA1014 (show Md [] A1014 A1168 from (Md.tr Md.rf hA1168 rfl)) rfl) hV1168 (by omega) (by omega) (by omega) (by omega))
  have k1171 : (0 : Int32).toInt = 0 := rfl
  obtain ⟨n1170, n1170a, n1170b⟩ : ∃ n : Nat, (I 16).toInt + 1 - 0 < (n : Int) ∧ 0 < n := ⟨(((I 16).toInt + 1 - 0 : Int)).toNat + 1, by omega, by omega⟩
  exact lp1147 n1170 0 I A Md.rf Md.rf hIv (by omega) (by omega) n1170a n1170b
def wo_k162_X7_allows : List Cond := [Cond.fieldLink RX7 23 "WarpDesk$Settings" "LOWEST" "[I", Cond.fieldLink RX7 26 "WarpDesk$Settings" "HIGHEST" "[I"]
def wz_k162_X7_allows : List Cond := .code yX7_allows cX7_allows 2 (some .boolean) :: (wo_k162_X7_allows ++ ([] : List Cond))
theorem zg_k162_X7_allows : ∀ w ∈ wz_k162_X7_allows, goodWord w = true := zg_cons rfl (zg_app (by decide +kernel) zg_nil)
theorem zi_k162_X7_allows : ∀ w ∈ wz_k162_X7_allows, w ∈ lw_tbl := zi_cons zw_724 (zi_app (zi_cons zw_725 (zi_cons zw_727 zi_nil)) zi_nil)
set_option maxHeartbeats 4000000 in
set_option maxRecDepth 100000 in
theorem k162_X7_allows (l : Launch) (D : va_G) (zt : Nat × Nat × Nat × (Nat → Nat) × (Nat → Nat)) (q : Nat → Nat) (d : Nat → ClassId) (I : Nat → Int32) (A : Nat → Nat → Int32) (z0 : Int32) (z1 : Int32) (hIv : IvX I A) : GM l D zt (tyX d) yX7_allows wz_k162_X7_allows ({ frames := 0, cells := 0, slots := 0, locals := 0 } : Room) [.int z0, .int z1] (wX q d I A) (fun v _ w' => (v = some (.int 0) ∧ w' = wX q d I A) ∨ ((¬ (z0.toInt < 0)) ∧ (¬ (4 ≤ z0.toInt)) ∧ (0 ≤ z0.toInt) ∧ (z0.toInt ≤ 3) ∧ (0 ≤ z1.toInt) ∧ (z1.toInt ≤ 99) ∧ v = some (.int 1) ∧ w' = wX q d I A)) 0 0 := by
  refine GM.of (cc := cX7_allows) (maxL := 2) (ret := (some .boolean)) (own := RX7) (lv := [(0, .int z0), (1, .int z1)]) (by decide) rfl rfl (Nat.le_of_ble_eq_true rfl) rfl (fun κ sz hk hR hN => ?_)
  refine g_iload_n hk dX7_allows_0 rfl ?_
  have b1178l := Int32.le_toInt z0
  have b1178h := Int32.toInt_lt z0
  refine g_if_lt (tgt := 42) (a := z0.toInt) hk dX7_allows_1 (by decide) rfl (fun c1179 => ?_) (fun c1179 => ?_)
  · skip
    refine g_iconst (v := 0) hk dX7_allows_42 (by decide) ?_
    exact g_iret hk hR rfl (Or.inl ⟨rfl, rfl⟩) dX7_allows_43
  · skip
    refine g_iload_n hk dX7_allows_4 rfl ?_
    refine g_getsL hk (List.mem_cons_of_mem _ (List.mem_append_left _ (List.mem_of_getElem? (i := 0) rfl))) dX7_allows_5 ?_
    refine g_lenL hk dX7_allows_8 ?_
    refine g_icmp_ge (tgt := 42) (a := z0.toInt) (b := 4) hk dX7_allows_9 (by decide) rfl rfl (fun c1180 => ?_) (fun c1180 => ?_)
    · skip
      refine g_iconst (v := 0) hk dX7_allows_42 (by decide) ?_
      exact g_iret hk hR rfl (Or.inl ⟨rfl, rfl⟩) dX7_allows_43
    · skip
      refine g_iload_n hk dX7_allows_12 rfl ?_
      refine g_getsH hk (List.mem_cons_of_mem _ (List.mem_append_left _ (List.mem_of_getElem? (i := 1) rfl))) dX7_allows_13 ?_
      refine g_lenH hk dX7_allows_16 ?_
      refine g_icmp_ge (tgt := 42) (a := z0.toInt) (b := 4) hk dX7_allows_17 (by decide) rfl rfl (fun z9 => absurd z9 (show ¬ (4 ≤ z0.toInt) from by omega)) (fun _ => ?_)
      refine g_iload_n hk dX7_allows_20 rfl ?_
      refine g_getsL hk (List.mem_cons_of_mem _ (List.mem_append_left _ (List.mem_of_getElem? (i := 0) rfl))) dX7_allows_21 ?_
      refine g_iload_n hk dX7_allows_24 rfl ?_
      by_cases c1181 : z0.toInt = 0
      · have ec1181 : z0 = 0 := Int32.toInt_inj.mp c1181
        rw [ec1181]
        show GW κ 2 0 0 (wX q d I A) 25 [(0, .int 0), (1, .int z1)] [.int 0, .ref zt.1, .int z1]
        refine g_sL (v := .int 0) hk (vp_in_iff.mpr ⟨by decide, by decide⟩) rfl dX7_allows_25 ?_
        have b1182l := Int32.le_toInt z1
        have b1182h := Int32.toInt_lt z1
        refine g_icmp_lt (tgt := 42) (a := z1.toInt) (b := 0) hk dX7_allows_26 (by decide) rfl rfl (fun c1183 => ?_) (fun c1183 => ?_)
        · skip
          refine g_iconst (v := 0) hk dX7_allows_42 (by decide) ?_
          exact g_iret hk hR rfl (Or.inl ⟨rfl, rfl⟩) dX7_allows_43
        · skip
          refine g_iload_n hk dX7_allows_29 rfl ?_
          refine g_getsH hk (List.mem_cons_of_mem _ (List.mem_append_left _ (List.mem_of_getElem? (i := 1) rfl))) dX7_allows_30 ?_
          refine g_iload_n hk dX7_allows_33 rfl ?_
          refine g_sH (v := .int 15) hk (vp_in_iff.mpr ⟨by decide, by decide⟩) rfl dX7_allows_34 ?_
          refine g_icmp_gt (tgt := 42) (a := z1.toInt) (b := 15) hk dX7_allows_35 (by decide) rfl rfl (fun c1184 => ?_) (fun c1184 => ?_)
          · skip
            refine g_iconst (v := 0) hk dX7_allows_42 (by decide) ?_
            exact g_iret hk hR rfl (Or.inl ⟨rfl, rfl⟩) dX7_allows_43
          · skip
            refine g_iconst (v := 1) hk dX7_allows_38 (by decide) ?_
            refine g_goto (tgt := 43) hk dX7_allows_39 (by decide) ?_
            exact g_iret hk hR rfl (Or.inr (⟨c1179, c1180, (by omega), (by omega), (by omega), (by omega), rfl, rfl⟩)) dX7_allows_43
      by_cases c1185 : z0.toInt = 1
      · have ec1185 : z0 = 1 := Int32.toInt_inj.mp c1185
        rw [ec1185]
        show GW κ 2 0 0 (wX q d I A) 25 [(0, .int 1), (1, .int z1)] [.int 1, .ref zt.1, .int z1]
        refine g_sL (v := .int 0) hk (vp_in_iff.mpr ⟨by decide, by decide⟩) rfl dX7_allows_25 ?_
        have b1186l := Int32.le_toInt z1
        have b1186h := Int32.toInt_lt z1
        refine g_icmp_lt (tgt := 42) (a := z1.toInt) (b := 0) hk dX7_allows_26 (by decide) rfl rfl (fun c1187 => ?_) (fun c1187 => ?_)
        · skip
          refine g_iconst (v := 0) hk dX7_allows_42 (by decide) ?_
          exact g_iret hk hR rfl (Or.inl ⟨rfl, rfl⟩) dX7_allows_43
        · skip
          refine g_iload_n hk dX7_allows_29 rfl ?_
          refine g_getsH hk (List.mem_cons_of_mem _ (List.mem_append_left _ (List.mem_of_getElem? (i := 1) rfl))) dX7_allows_30 ?_
          refine g_iload_n hk dX7_allows_33 rfl ?_
          refine g_sH (v := .int 3) hk (vp_in_iff.mpr ⟨by decide, by decide⟩) rfl dX7_allows_34 ?_
          refine g_icmp_gt (tgt := 42) (a := z1.toInt) (b := 3) hk dX7_allows_35 (by decide) rfl rfl (fun c1188 => ?_) (fun c1188 => ?_)
          · skip
            refine g_iconst (v := 0) hk dX7_allows_42 (by decide) ?_
            exact g_iret hk hR rfl (Or.inl ⟨rfl, rfl⟩) dX7_allows_43
          · skip
            refine g_iconst (v := 1) hk dX7_allows_38 (by decide) ?_
            refine g_goto (tgt := 43) hk dX7_allows_39 (by decide) ?_
            exact g_iret hk hR rfl (Or.inr (⟨c1179, c1180, (by omega), (by omega), (by omega), (by omega), rfl, rfl⟩)) dX7_allows_43
      by_cases c1189 : z0.toInt = 2
      · have ec1189 : z0 = 2 := Int32.toInt_inj.mp c1189
        rw [ec1189]
        show GW κ 2 0 0 (wX q d I A) 25 [(0, .int 2), (1, .int z1)] [.int 2, .ref zt.1, .int z1]
        refine g_sL (v := .int 0) hk (vp_in_iff.mpr ⟨by decide, by decide⟩) rfl dX7_allows_25 ?_
        have b1190l := Int32.le_toInt z1
        have b1190h := Int32.toInt_lt z1
        refine g_icmp_lt (tgt := 42) (a := z1.toInt) (b := 0) hk dX7_allows_26 (by decide) rfl rfl (fun c1191 => ?_) (fun c1191 => ?_)
        · skip
          refine g_iconst (v := 0) hk dX7_allows_42 (by decide) ?_
          exact g_iret hk hR rfl (Or.inl ⟨rfl, rfl⟩) dX7_allows_43
        · skip
          refine g_iload_n hk dX7_allows_29 rfl ?_
          refine g_getsH hk (List.mem_cons_of_mem _ (List.mem_append_left _ (List.mem_of_getElem? (i := 1) rfl))) dX7_allows_30 ?_
          refine g_iload_n hk dX7_allows_33 rfl ?_
          refine g_sH (v := .int 1) hk (vp_in_iff.mpr ⟨by decide, by decide⟩) rfl dX7_allows_34 ?_
          refine g_icmp_gt (tgt := 42) (a := z1.toInt) (b := 1) hk dX7_allows_35 (by decide) rfl rfl (fun c1192 => ?_) (fun c1192 => ?_)
          · skip
            refine g_iconst (v := 0) hk dX7_allows_42 (by decide) ?_
            exact g_iret hk hR rfl (Or.inl ⟨rfl, rfl⟩) dX7_allows_43
          · skip
            refine g_iconst (v := 1) hk dX7_allows_38 (by decide) ?_
            refine g_goto (tgt := 43) hk dX7_allows_39 (by decide) ?_
            exact g_iret hk hR rfl (Or.inr (⟨c1179, c1180, (by omega), (by omega), (by omega), (by omega), rfl, rfl⟩)) dX7_allows_43
      by_cases c1193 : z0.toInt = 3
      · have ec1193 : z0 = 3 := Int32.toInt_inj.mp c1193
        rw [ec1193]
        show GW κ 2 0 0 (wX q d I A) 25 [(0, .int 3), (1, .int z1)] [.int 3, .ref zt.1, .int z1]
        refine g_sL (v := .int 1) hk (vp_in_iff.mpr ⟨by decide, by decide⟩) rfl dX7_allows_25 ?_
        have b1194l := Int32.le_toInt z1
        have b1194h := Int32.toInt_lt z1
        refine g_icmp_lt (tgt := 42) (a := z1.toInt) (b := 1) hk dX7_allows_26 (by decide) rfl rfl (fun c1195 => ?_) (fun c1195 => ?_)
        · skip
          refine g_iconst (v := 0) hk dX7_allows_42 (by decide) ?_
          exact g_iret hk hR rfl (Or.inl ⟨rfl, rfl⟩) dX7_allows_43
        · skip
          refine g_iload_n hk dX7_allows_29 rfl ?_
          refine g_getsH hk (List.mem_cons_of_mem _ (List.mem_append_left _ (List.mem_of_getElem? (i := 1) rfl))) dX7_allows_30 ?_
          refine g_iload_n hk dX7_allows_33 rfl ?_
          refine g_sH (v := .int 99) hk (vp_in_iff.mpr ⟨by decide, by decide⟩) rfl dX7_allows_34 ?_
          refine g_icmp_gt (tgt := 42) (a := z1.toInt) (b := 99) hk dX7_allows_35 (by decide) rfl rfl (fun c1196 => ?_) (fun c1196 => ?_)
          · skip
            refine g_iconst (v := 0) hk dX7_allows_42 (by decide) ?_
            exact g_iret hk hR rfl (Or.inl ⟨rfl, rfl⟩) dX7_allows_43
          · skip
            refine g_iconst (v := 1) hk dX7_allows_38 (by decide) ?_
            refine g_goto (tgt := 43) hk dX7_allows_39 (by decide) ?_
            exact g_iret hk hR rfl (Or.inr (⟨c1179, c1180, (by omega), (by omega), (by omega), (by omega), rfl, rfl⟩)) dX7_allows_43
      exfalso; omega
def wo_k161_X5_acceptNumber : List Cond := [Cond.fieldLink RX5 141 "WarpDesk$Reader" "tell" "I", Cond.fieldLink RX5 42 "WarpDesk$Reader" "tape" "LWarpDesk$Tape;", Cond.fieldLink RX5 190 "WarpDesk$Tape" "value" "I", Cond.methodLink RX5 193 yX7_allows, Cond.static yX7_allows, Cond.initialized RX7, Cond.methodLink RX5 181 yX5_mark, Cond.instanceMethod yX5_mark, Cond.selects RX5 yX5_mark yX5_mark, Cond.initialized RX5, Cond.fieldLink RX5 12 "WarpDesk$Reader" "draft" "LWarpDesk$Stand;", Cond.fieldLink RX5 137 "WarpDesk$Stand" "settings" "LWarpDesk$Settings;", Cond.methodLink RX5 144 yX7_put, Cond.instanceMethod yX7_put, Cond.selects RX7 yX7_put yX7_put, Cond.fieldLink RX5 75 "WarpDesk$Reader" "state" "I"]
def wz_k161_X5_acceptNumber : List Cond := .code yX5_acceptNumber cX5_acceptNumber 1 none :: (wo_k161_X5_acceptNumber ++ (wsX50 ++ (wsX80 ++ (wsX100 ++ (wz_k162_X7_allows ++ (wz_k157_X5_mark ++ (wz_k121_X7_put ++ ([] : List Cond))))))))
theorem zg_k161_X5_acceptNumber : ∀ w ∈ wz_k161_X5_acceptNumber, goodWord w = true := zg_cons rfl (zg_app (by decide +kernel) (zg_app zgU_wsX50 (zg_app zgU_wsX80 (zg_app zgU_wsX100 (zg_app zg_k162_X7_allows (zg_app zg_k157_X5_mark (zg_app zg_k121_X7_put zg_nil)))))))
theorem zi_k161_X5_acceptNumber : ∀ w ∈ wz_k161_X5_acceptNumber, w ∈ lw_tbl := zi_cons zw_721 (zi_app (zi_cons zw_238 (zi_cons zw_230 (zi_cons zw_143 (zi_cons zw_722 (zi_cons zw_723 (zi_cons zw_107 (zi_cons zw_709 (zi_cons zw_711 (zi_cons zw_18 (zi_cons zw_105 (zi_cons zw_231 (zi_cons zw_199 (zi_cons zw_729 (zi_cons zw_551 (zi_cons zw_552 (zi_cons zw_237 zi_nil)))))))))))))))) (zi_app inX5 (zi_app inX8 (zi_app inX10 (zi_app zi_k162_X7_allows (zi_app zi_k157_X5_mark (zi_app zi_k121_X7_put zi_nil)))))))
set_option maxHeartbeats 4000000 in
set_option maxRecDepth 100000 in
theorem k161_X5_acceptNumber (l : Launch) (D : va_G) (zt : Nat × Nat × Nat × (Nat → Nat) × (Nat → Nat)) (q : Nat → Nat) (d : Nat → ClassId) (I : Nat → Int32) (A : Nat → Nat → Int32) (hIv : IvX I A) : GM l D zt (tyX d) yX5_acceptNumber wz_k161_X5_acceptNumber ({ frames := 2, cells := 0, slots := 0, locals := 42 } : Room) [.ref (q 3)] (wX q d I A) (fun v _ w' => ∃ (I' : Nat → Int32) (A' : Nat → Nat → Int32), Md [6, 11, 12, 13] I I' ∧ Md [2] A A' ∧ IvX I' A' ∧ v = none ∧ w' = wX q d I' A') 0 0 := by
  refine GM.of (cc := cX5_acceptNumber) (maxL := 1) (ret := none) (own := RX5) (lv := [(0, .ref (q 3))]) (by decide) rfl rfl (Nat.le_of_ble_eq_true rfl) rfl (fun κ sz hk hR hN => ?_)
  have hin5 : ∀ w ∈ u_ws RX5 TX5 13, w ∈ wz_k161_X5_acceptNumber := fun w h => (List.mem_cons_of_mem _ (List.mem_append_right _ (List.mem_append_left _ h)))
  have hin8 : ∀ w ∈ u_ws RX8 TX8 4, w ∈ wz_k161_X5_acceptNumber := fun w h => (List.mem_cons_of_mem _ (List.mem_append_right _ (List.mem_append_right _ (List.mem_append_left _ h))))
  have hin10 : ∀ w ∈ u_ws RX10 TX10 7, w ∈ wz_k161_X5_acceptNumber := fun w h => (List.mem_cons_of_mem _ (List.mem_append_right _ (List.mem_append_right _ (List.mem_append_right _ (List.mem_append_left _ h)))))
  refine g_aload_n hk dX5_acceptNumber_0 rfl ?_
  refine gX_i7 (v := (I 7)) hk hin5 (List.mem_cons_of_mem _ (List.mem_append_left _ (List.mem_of_getElem? (i := 0) rfl))) dX5_acceptNumber_1 rfl ?_
  refine g_aload_n hk dX5_acceptNumber_4 rfl ?_
  refine gX_r3_0 hk hin5 (List.mem_cons_of_mem _ (List.mem_append_left _ (List.mem_of_getElem? (i := 1) rfl))) dX5_acceptNumber_5 ?_
  refine gX_i3 (v := (I 3)) hk hin10 (List.mem_cons_of_mem _ (List.mem_append_left _ (List.mem_of_getElem? (i := 2) rfl))) dX5_acceptNumber_8 rfl ?_
  refine g_callS (n := 2) hk (k162_X7_allows l D zt q d I A (I 7) (I 3) hIv) (SP.same _) (fun _ h => h) (gi_S (List.mem_cons_of_mem _ (List.mem_append_left _ (List.mem_of_getElem? (i := 3) rfl))) (List.mem_cons_of_mem _ (List.mem_append_left _ (List.mem_of_getElem? (i := 4) rfl))) (List.mem_cons_of_mem _ (List.mem_append_left _ (List.mem_of_getElem? (i := 5) rfl))) (gi_sub (fun w h => (List.mem_cons_of_mem _ (List.mem_append_right _ (List.mem_append_right _ (List.mem_append_right _ (List.mem_append_right _ (List.mem_append_left _ h))))))) zg_k162_X7_allows)) rfl rfl rfl (by decide +kernel) ⟨Nat.le_of_ble_eq_true rfl, Nat.le_of_ble_eq_true rfl⟩ rfl rfl (Nat.le_of_ble_eq_true rfl) ⟨Nat.le_of_ble_eq_true rfl, Nat.le_of_ble_eq_true rfl⟩ dX5_acceptNumber_11 (fun v ty' w' hp hk' => ?_)
  rcases hp with ⟨rfl, rfl⟩ | ⟨c1198, c1199, c1200, c1201, c1202, c1203, rfl, rfl⟩
  · skip
    show GW κ 1 0 0 (wX q d I A) 14 [(0, .ref (q 3))] [.int 0]
    refine g_if_ne (tgt := 22) (a := 0) hk dX5_acceptNumber_14 (by decide) rfl (fun z9 => absurd z9 (show ¬ ((0 : Int) ≠ (0 : Int)) from by decide)) (fun _ => ?_)
    refine g_aload_n hk dX5_acceptNumber_17 rfl ?_
    refine g_iconst (v := 5) hk dX5_acceptNumber_18 (by decide) ?_
    have k1205 : (5 : Int32).toInt = 5 := rfl
    refine g_callV (n := 1) hk (k157_X5_mark l D zt q d I A 5 hIv) (SP.same _) (fun _ h => h) (gi_V (List.mem_cons_of_mem _ (List.mem_append_left _ (List.mem_of_getElem? (i := 6) rfl))) (List.mem_cons_of_mem _ (List.mem_append_left _ (List.mem_of_getElem? (i := 7) rfl))) (List.mem_cons_of_mem _ (List.mem_append_left _ (List.mem_of_getElem? (i := 8) rfl))) (List.mem_cons_of_mem _ (List.mem_append_left _ (List.mem_of_getElem? (i := 9) rfl))) (gi_sub (fun w h => (List.mem_cons_of_mem _ (List.mem_append_right _ (List.mem_append_right _ (List.mem_append_right _ (List.mem_append_right _ (List.mem_append_right _ (List.mem_append_left _ h)))))))) zg_k157_X5_mark)) rfl rfl rfl (by decide +kernel) ⟨Nat.le_of_ble_eq_true rfl, Nat.le_of_ble_eq_true rfl⟩ 3 rfl rfl rfl rfl (Nat.le_of_ble_eq_true rfl) ⟨Nat.le_of_ble_eq_true rfl, Nat.le_of_ble_eq_true rfl⟩ dX5_acceptNumber_19 (fun v ty' w' hp hk' => ?_)
    obtain ⟨I1207, A1207, hI1207, hA1207, hV1207, rfl, rfl⟩ := hp
    show GW κ 1 0 0 (wX q d I1207 A1207) 22 [(0, .ref (q 3))] []
    refine g_aload_n hk dX5_acceptNumber_22 rfl ?_
    refine gX_r3_1 hk hin5 (List.mem_cons_of_mem _ (List.mem_append_left _ (List.mem_of_getElem? (i := 10) rfl))) dX5_acceptNumber_23 ?_
    refine gX_r4_2 hk hin8 (List.mem_cons_of_mem _ (List.mem_append_left _ (List.mem_of_getElem? (i := 11) rfl))) dX5_acceptNumber_26 ?_
    refine g_aload_n hk dX5_acceptNumber_29 rfl ?_
    refine gX_i7 (v := (I 7)) hk hin5 (List.mem_cons_of_mem _ (List.mem_append_left _ (List.mem_of_getElem? (i := 0) rfl))) dX5_acceptNumber_30 (hI1207 7 rfl) ?_
    refine g_aload_n hk dX5_acceptNumber_33 rfl ?_
    refine gX_r3_0 hk hin5 (List.mem_cons_of_mem _ (List.mem_append_left _ (List.mem_of_getElem? (i := 1) rfl))) dX5_acceptNumber_34 ?_
    refine gX_i3 (v := (I 3)) hk hin10 (List.mem_cons_of_mem _ (List.mem_append_left _ (List.mem_of_getElem? (i := 2) rfl))) dX5_acceptNumber_37 (hI1207 3 rfl) ?_
    refine g_callV (n := 2) hk (k121_X7_put l D zt q d I1207 A1207 (I 7) (I 3) hV1207) (SP.same _) (fun _ h => h) (gi_V (List.mem_cons_of_mem _ (List.mem_append_left _ (List.mem_of_getElem? (i := 12) rfl))) (List.mem_cons_of_mem _ (List.mem_append_left _ (List.mem_of_getElem? (i := 13) rfl))) (List.mem_cons_of_mem _ (List.mem_append_left _ (List.mem_of_getElem? (i := 14) rfl))) (List.mem_cons_of_mem _ (List.mem_append_left _ (List.mem_of_getElem? (i := 5) rfl))) (gi_sub (fun w h => (List.mem_cons_of_mem _ (List.mem_append_right _ (List.mem_append_right _ (List.mem_append_right _ (List.mem_append_right _ (List.mem_append_right _ (List.mem_append_right _ (List.mem_append_left _ h))))))))) zg_k121_X7_put)) rfl rfl rfl (by decide +kernel) ⟨Nat.le_of_ble_eq_true rfl, Nat.le_of_ble_eq_true rfl⟩ 6 rfl rfl rfl rfl (Nat.le_of_ble_eq_true rfl) ⟨Nat.le_of_ble_eq_true rfl, Nat.le_of_ble_eq_true rfl⟩ dX5_acceptNumber_40 (fun v ty' w' hp hk' => ?_)
    obtain ⟨I1209, A1209, hI1209, hA1209, hV1209, rfl, rfl⟩ := hp
    show GW κ 1 0 0 (wX q d I1209 A1209) 43 [(0, .ref (q 3))] []
    refine g_aload_n hk dX5_acceptNumber_43 rfl ?_
    refine g_bipush (v := 6) hk dX5_acceptNumber_44 (by decide) ?_
    refine pX_i6 hk hin5 (List.mem_cons_of_mem _ (List.mem_append_left _ (List.mem_of_getElem? (i := 15) rfl))) dX5_acceptNumber_46 ?_
    exact g_vret hk hR ⟨(upd I1209 6 6), A1209, (show Md [6, 11, 12, 13] I (upd I1209 6 6) from (Md.up (Md.tr (Md.tr Md.rf hI1207 rfl) hI1209 rfl) rfl)), (show Md [2] A A1209 from (Md.tr (Md.tr Md.rf hA1207 rfl) hA1209 rfl)), ⟨(IvX_f0 (I := I1209) (A := A1209) hV1209), (IvX_f18 (I := I1209) (A := A1209) hV1209), (IvX_f30 (I := I1209) (A := A1209) hV1209), (IvX_f31 (I := I1209) (A := A1209) hV1209), (IvX_a4 (I := I1209) (A := A1209) hV1209), (IvX_a9 (I := I1209) (A := A1209) hV1209), trivial⟩, rfl, rfl⟩ dX5_acceptNumber_49
  · skip
    show GW κ 1 0 0 (wX q d I A) 14 [(0, .ref (q 3))] [.int 1]
    refine g_if_ne (tgt := 22) (a := 1) hk dX5_acceptNumber_14 (by decide) rfl (fun _ => ?_) (fun z9 => absurd (show (1 : Int) ≠ (0 : Int) from by decide) z9)
    refine g_aload_n hk dX5_acceptNumber_22 rfl ?_
    refine gX_r3_1 hk hin5 (List.mem_cons_of_mem _ (List.mem_append_left _ (List.mem_of_getElem? (i := 10) rfl))) dX5_acceptNumber_23 ?_
    refine gX_r4_2 hk hin8 (List.mem_cons_of_mem _ (List.mem_append_left _ (List.mem_of_getElem? (i := 11) rfl))) dX5_acceptNumber_26 ?_
    refine g_aload_n hk dX5_acceptNumber_29 rfl ?_
    refine gX_i7 (v := (I 7)) hk hin5 (List.mem_cons_of_mem _ (List.mem_append_left _ (List.mem_of_getElem? (i := 0) rfl))) dX5_acceptNumber_30 rfl ?_
    refine g_aload_n hk dX5_acceptNumber_33 rfl ?_
    refine gX_r3_0 hk hin5 (List.mem_cons_of_mem _ (List.mem_append_left _ (List.mem_of_getElem? (i := 1) rfl))) dX5_acceptNumber_34 ?_
    refine gX_i3 (v := (I 3)) hk hin10 (List.mem_cons_of_mem _ (List.mem_append_left _ (List.mem_of_getElem? (i := 2) rfl))) dX5_acceptNumber_37 rfl ?_
    refine g_callV (n := 2) hk (k121_X7_put l D zt q d I A (I 7) (I 3) hIv) (SP.same _) (fun _ h => h) (gi_V (List.mem_cons_of_mem _ (List.mem_append_left _ (List.mem_of_getElem? (i := 12) rfl))) (List.mem_cons_of_mem _ (List.mem_append_left _ (List.mem_of_getElem? (i := 13) rfl))) (List.mem_cons_of_mem _ (List.mem_append_left _ (List.mem_of_getElem? (i := 14) rfl))) (List.mem_cons_of_mem _ (List.mem_append_left _ (List.mem_of_getElem? (i := 5) rfl))) (gi_sub (fun w h => (List.mem_cons_of_mem _ (List.mem_append_right _ (List.mem_append_right _ (List.mem_append_right _ (List.mem_append_right _ (List.mem_append_right _ (List.mem_append_right _ (List.mem_append_left _ h))))))))) zg_k121_X7_put)) rfl rfl rfl (by decide +kernel) ⟨Nat.le_of_ble_eq_true rfl, Nat.le_of_ble_eq_true rfl⟩ 6 rfl rfl rfl rfl (Nat.le_of_ble_eq_true rfl) ⟨Nat.le_of_ble_eq_true rfl, Nat.le_of_ble_eq_true rfl⟩ dX5_acceptNumber_40 (fun v ty' w' hp hk' => ?_)
    obtain ⟨I1211, A1211, hI1211, hA1211, hV1211, rfl, rfl⟩ := hp
    show GW κ 1 0 0 (wX q d I1211 A1211) 43 [(0, .ref (q 3))] []
    refine g_aload_n hk dX5_acceptNumber_43 rfl ?_
    refine g_bipush (v := 6) hk dX5_acceptNumber_44 (by decide) ?_
    refine pX_i6 hk hin5 (List.mem_cons_of_mem _ (List.mem_append_left _ (List.mem_of_getElem? (i := 15) rfl))) dX5_acceptNumber_46 ?_
    exact g_vret hk hR ⟨(upd I1211 6 6), A1211, (show Md [6, 11, 12, 13] I (upd I1211 6 6) from (Md.up (Md.tr Md.rf hI1211 rfl) rfl)), (show Md [2] A A1211 from (Md.tr Md.rf hA1211 rfl)), ⟨(IvX_f0 (I := I1211) (A := A1211) hV1211), (IvX_f18 (I := I1211) (A := A1211) hV1211), (IvX_f30 (I := I1211) (A := A1211) hV1211), (IvX_f31 (I := I1211) (A := A1211) hV1211), (IvX_a4 (I := I1211) (A := A1211) hV1211), (IvX_a9 (I := I1211) (A := A1211) hV1211), trivial⟩, rfl, rfl⟩ dX5_acceptNumber_49
def wo_k150_X5_accept : List Cond := [Cond.fieldLink RX5 75 "WarpDesk$Reader" "state" "I", Cond.methodLink RX5 128 yX5_beginTell, Cond.instanceMethod yX5_beginTell, Cond.selects RX5 yX5_beginTell yX5_beginTell, Cond.initialized RX5, Cond.methodLink RX5 150 yX5_acceptInRow, Cond.instanceMethod yX5_acceptInRow, Cond.selects RX5 yX5_acceptInRow yX5_acceptInRow, Cond.methodLink RX5 131 yX5_acceptName, Cond.instanceMethod yX5_acceptName, Cond.selects RX5 yX5_acceptName yX5_acceptName, Cond.methodLink RX5 134 yX5_acceptNumber, Cond.instanceMethod yX5_acceptNumber, Cond.selects RX5 yX5_acceptNumber yX5_acceptNumber, Cond.fieldLink RX5 12 "WarpDesk$Reader" "draft" "LWarpDesk$Stand;", Cond.fieldLink RX5 137 "WarpDesk$Stand" "settings" "LWarpDesk$Settings;", Cond.fieldLink RX5 141 "WarpDesk$Reader" "tell" "I", Cond.methodLink RX5 115 yX5_choiceAtHand, Cond.instanceMethod yX5_choiceAtHand, Cond.selects RX5 yX5_choiceAtHand yX5_choiceAtHand, Cond.methodLink RX5 144 yX7_put, Cond.instanceMethod yX7_put, Cond.selects RX7 yX7_put yX7_put, Cond.initialized RX7]
def wz_k150_X5_accept : List Cond := .code yX5_accept cX5_accept 1 none :: (wo_k150_X5_accept ++ (wsX50 ++ (wsX80 ++ (wz_k151_X5_beginTell ++ (wz_k152_X5_acceptInRow ++ (wz_k158_X5_acceptName ++ (wz_k161_X5_acceptNumber ++ (wz_k148_X5_choiceAtHand ++ (wz_k121_X7_put ++ ([] : List Cond))))))))))
theorem zg_k150_X5_accept : ∀ w ∈ wz_k150_X5_accept, goodWord w = true := zg_cons rfl (zg_app (by decide +kernel) (zg_app zgU_wsX50 (zg_app zgU_wsX80 (zg_app zg_k151_X5_beginTell (zg_app zg_k152_X5_acceptInRow (zg_app zg_k158_X5_acceptName (zg_app zg_k161_X5_acceptNumber (zg_app zg_k148_X5_choiceAtHand (zg_app zg_k121_X7_put zg_nil)))))))))
theorem zi_k150_X5_accept : ∀ w ∈ wz_k150_X5_accept, w ∈ lw_tbl := zi_cons zw_696 (zi_app (zi_cons zw_237 (zi_cons zw_697 (zi_cons zw_699 (zi_cons zw_16 (zi_cons zw_105 (zi_cons zw_730 (zi_cons zw_732 (zi_cons zw_20 (zi_cons zw_701 (zi_cons zw_703 (zi_cons zw_17 (zi_cons zw_718 (zi_cons zw_720 (zi_cons zw_19 (zi_cons zw_231 (zi_cons zw_199 (zi_cons zw_238 (zi_cons zw_677 (zi_cons zw_679 (zi_cons zw_11 (zi_cons zw_729 (zi_cons zw_551 (zi_cons zw_552 (zi_cons zw_107 zi_nil)))))))))))))))))))))))) (zi_app inX5 (zi_app inX8 (zi_app zi_k151_X5_beginTell (zi_app zi_k152_X5_acceptInRow (zi_app zi_k158_X5_acceptName (zi_app zi_k161_X5_acceptNumber (zi_app zi_k148_X5_choiceAtHand (zi_app zi_k121_X7_put zi_nil)))))))))
set_option maxHeartbeats 4000000 in
set_option maxRecDepth 100000 in
theorem k150_X5_accept (l : Launch) (D : va_G) (zt : Nat × Nat × Nat × (Nat → Nat) × (Nat → Nat)) (q : Nat → Nat) (d : Nat → ClassId) (I : Nat → Int32) (A : Nat → Nat → Int32) (hIv : IvX I A) : GM l D zt (tyX d) yX5_accept wz_k150_X5_accept ({ frames := 7, cells := 0, slots := 0, locals := 147 } : Room) [.ref (q 3)] (wX q d I A) (fun v _ w' => ∃ (I' : Nat → Int32) (A' : Nat → Nat → Int32), Md [6, 7, 8, 9, 11, 12, 13, 14, 16] I I' ∧ Md [1, 2, 3, 4, 5, 6] A A' ∧ IvX I' A' ∧ v = none ∧ w' = wX q d I' A') 0 0 := by
  refine GM.of (cc := cX5_accept) (maxL := 1) (ret := none) (own := RX5) (lv := [(0, .ref (q 3))]) (by decide) rfl rfl (Nat.le_of_ble_eq_true rfl) rfl (fun κ sz hk hR hN => ?_)
  have hin5 : ∀ w ∈ u_ws RX5 TX5 13, w ∈ wz_k150_X5_accept := fun w h => (List.mem_cons_of_mem _ (List.mem_append_right _ (List.mem_append_left _ h)))
  have hin8 : ∀ w ∈ u_ws RX8 TX8 4, w ∈ wz_k150_X5_accept := fun w h => (List.mem_cons_of_mem _ (List.mem_append_right _ (List.mem_append_right _ (List.mem_append_left _ h))))
  refine g_aload_n hk dX5_accept_0 rfl ?_
  refine gX_i6 (v := (I 6)) hk hin5 (List.mem_cons_of_mem _ (List.mem_append_left _ (List.mem_of_getElem? (i := 0) rfl))) dX5_accept_1 rfl ?_
  by_cases c925 : (I 6).toInt = 0
  · refine g_tabIn (tgt := 48) (a := 0) hk dX5_accept_4 c925 (by decide) (by decide) rfl (by decide) ?_
    refine g_aload_n hk dX5_accept_48 rfl ?_
    refine g_callV (n := 0) hk (k151_X5_beginTell l D zt q d I A  hIv) (SP.same _) (fun _ h => h) (gi_V (List.mem_cons_of_mem _ (List.mem_append_left _ (List.mem_of_getElem? (i := 1) rfl))) (List.mem_cons_of_mem _ (List.mem_append_left _ (List.mem_of_getElem? (i := 2) rfl))) (List.mem_cons_of_mem _ (List.mem_append_left _ (List.mem_of_getElem? (i := 3) rfl))) (List.mem_cons_of_mem _ (List.mem_append_left _ (List.mem_of_getElem? (i := 4) rfl))) (gi_sub (fun w h => (List.mem_cons_of_mem _ (List.mem_append_right _ (List.mem_append_right _ (List.mem_append_right _ (List.mem_append_left _ h)))))) zg_k151_X5_beginTell)) rfl rfl rfl (by decide +kernel) ⟨Nat.le_of_ble_eq_true rfl, Nat.le_of_ble_eq_true rfl⟩ 3 rfl rfl rfl rfl (Nat.le_of_ble_eq_true rfl) ⟨Nat.le_of_ble_eq_true rfl, Nat.le_of_ble_eq_true rfl⟩ dX5_accept_49 (fun v ty' w' hp hk' => ?_)
    obtain ⟨I936, A936, hI936, hA936, hV936, rfl, rfl⟩ := hp
    show GW κ 1 0 0 (wX q d I936 A936) 52 [(0, .ref (q 3))] []
    refine g_goto (tgt := 108) hk dX5_accept_52 (by decide) ?_
    exact g_vret hk hR ⟨I936, A936, (show Md [6, 7, 8, 9, 11, 12, 13, 14, 16] I I936 from (Md.tr Md.rf hI936 rfl)), (show Md [1, 2, 3, 4, 5, 6] A A936 from (Md.tr Md.rf hA936 rfl)), hV936, rfl, rfl⟩ dX5_accept_108
  by_cases c937 : (I 6).toInt = 1
  · refine g_tabIn (tgt := 104) (a := 1) hk dX5_accept_4 c937 (by decide) (by decide) rfl (by decide) ?_
    refine g_aload_n hk dX5_accept_104 rfl ?_
    refine g_callV (n := 0) hk (k152_X5_acceptInRow l D zt q d I A  hIv) (SP.same _) (fun _ h => h) (gi_V (List.mem_cons_of_mem _ (List.mem_append_left _ (List.mem_of_getElem? (i := 5) rfl))) (List.mem_cons_of_mem _ (List.mem_append_left _ (List.mem_of_getElem? (i := 6) rfl))) (List.mem_cons_of_mem _ (List.mem_append_left _ (List.mem_of_getElem? (i := 7) rfl))) (List.mem_cons_of_mem _ (List.mem_append_left _ (List.mem_of_getElem? (i := 4) rfl))) (gi_sub (fun w h => (List.mem_cons_of_mem _ (List.mem_append_right _ (List.mem_append_right _ (List.mem_append_right _ (List.mem_append_right _ (List.mem_append_left _ h))))))) zg_k152_X5_acceptInRow)) rfl rfl rfl (by decide +kernel) ⟨Nat.le_of_ble_eq_true rfl, Nat.le_of_ble_eq_true rfl⟩ 3 rfl rfl rfl rfl (Nat.le_of_ble_eq_true rfl) ⟨Nat.le_of_ble_eq_true rfl, Nat.le_of_ble_eq_true rfl⟩ dX5_accept_105 (fun v ty' w' hp hk' => ?_)
    obtain ⟨I1009, A1009, hI1009, hA1009, hV1009, rfl, rfl⟩ := hp
    show GW κ 1 0 0 (wX q d I1009 A1009) 108 [(0, .ref (q 3))] []
    exact g_vret hk hR ⟨I1009, A1009, (show Md [6, 7, 8, 9, 11, 12, 13, 14, 16] I I1009 from (Md.tr Md.rf hI1009 rfl)), (show Md [1, 2, 3, 4, 5, 6] A A1009 from (Md.tr Md.rf hA1009 rfl)), hV1009, rfl, rfl⟩ dX5_accept_108
  by_cases c1010 : (I 6).toInt = 2
  · refine g_tabIn (tgt := 55) (a := 2) hk dX5_accept_4 c1010 (by decide) (by decide) rfl (by decide) ?_
    refine g_aload_n hk dX5_accept_55 rfl ?_
    refine g_callV (n := 0) hk (k158_X5_acceptName l D zt q d I A  hIv) (SP.same _) (fun _ h => h) (gi_V (List.mem_cons_of_mem _ (List.mem_append_left _ (List.mem_of_getElem? (i := 8) rfl))) (List.mem_cons_of_mem _ (List.mem_append_left _ (List.mem_of_getElem? (i := 9) rfl))) (List.mem_cons_of_mem _ (List.mem_append_left _ (List.mem_of_getElem? (i := 10) rfl))) (List.mem_cons_of_mem _ (List.mem_append_left _ (List.mem_of_getElem? (i := 4) rfl))) (gi_sub (fun w h => (List.mem_cons_of_mem _ (List.mem_append_right _ (List.mem_append_right _ (List.mem_append_right _ (List.mem_append_right _ (List.mem_append_right _ (List.mem_append_left _ h)))))))) zg_k158_X5_acceptName)) rfl rfl rfl (by decide +kernel) ⟨Nat.le_of_ble_eq_true rfl, Nat.le_of_ble_eq_true rfl⟩ 3 rfl rfl rfl rfl (Nat.le_of_ble_eq_true rfl) ⟨Nat.le_of_ble_eq_true rfl, Nat.le_of_ble_eq_true rfl⟩ dX5_accept_56 (fun v ty' w' hp hk' => ?_)
    obtain ⟨I1173, A1173, hI1173, hA1173, hV1173, rfl, rfl⟩ := hp
    show GW κ 1 0 0 (wX q d I1173 A1173) 59 [(0, .ref (q 3))] []
    refine g_goto (tgt := 108) hk dX5_accept_59 (by decide) ?_
    exact g_vret hk hR ⟨I1173, A1173, (show Md [6, 7, 8, 9, 11, 12, 13, 14, 16] I I1173 from (Md.tr Md.rf hI1173 rfl)), (show Md [1, 2, 3, 4, 5, 6] A A1173 from (Md.tr Md.rf hA1173 rfl)), hV1173, rfl, rfl⟩ dX5_accept_108
  by_cases c1174 : (I 6).toInt = 3
  · refine g_tabIn (tgt := 104) (a := 3) hk dX5_accept_4 c1174 (by decide) (by decide) rfl (by decide) ?_
    refine g_aload_n hk dX5_accept_104 rfl ?_
    refine g_callV (n := 0) hk (k152_X5_acceptInRow l D zt q d I A  hIv) (SP.same _) (fun _ h => h) (gi_V (List.mem_cons_of_mem _ (List.mem_append_left _ (List.mem_of_getElem? (i := 5) rfl))) (List.mem_cons_of_mem _ (List.mem_append_left _ (List.mem_of_getElem? (i := 6) rfl))) (List.mem_cons_of_mem _ (List.mem_append_left _ (List.mem_of_getElem? (i := 7) rfl))) (List.mem_cons_of_mem _ (List.mem_append_left _ (List.mem_of_getElem? (i := 4) rfl))) (gi_sub (fun w h => (List.mem_cons_of_mem _ (List.mem_append_right _ (List.mem_append_right _ (List.mem_append_right _ (List.mem_append_right _ (List.mem_append_left _ h))))))) zg_k152_X5_acceptInRow)) rfl rfl rfl (by decide +kernel) ⟨Nat.le_of_ble_eq_true rfl, Nat.le_of_ble_eq_true rfl⟩ 3 rfl rfl rfl rfl (Nat.le_of_ble_eq_true rfl) ⟨Nat.le_of_ble_eq_true rfl, Nat.le_of_ble_eq_true rfl⟩ dX5_accept_105 (fun v ty' w' hp hk' => ?_)
    obtain ⟨I1176, A1176, hI1176, hA1176, hV1176, rfl, rfl⟩ := hp
    show GW κ 1 0 0 (wX q d I1176 A1176) 108 [(0, .ref (q 3))] []
    exact g_vret hk hR ⟨I1176, A1176, (show Md [6, 7, 8, 9, 11, 12, 13, 14, 16] I I1176 from (Md.tr Md.rf hI1176 rfl)), (show Md [1, 2, 3, 4, 5, 6] A A1176 from (Md.tr Md.rf hA1176 rfl)), hV1176, rfl, rfl⟩ dX5_accept_108
  by_cases c1177 : (I 6).toInt = 4
  · refine g_tabIn (tgt := 62) (a := 4) hk dX5_accept_4 c1177 (by decide) (by decide) rfl (by decide) ?_
    refine g_aload_n hk dX5_accept_62 rfl ?_
    refine g_callV (n := 0) hk (k161_X5_acceptNumber l D zt q d I A  hIv) (SP.same _) (fun _ h => h) (gi_V (List.mem_cons_of_mem _ (List.mem_append_left _ (List.mem_of_getElem? (i := 11) rfl))) (List.mem_cons_of_mem _ (List.mem_append_left _ (List.mem_of_getElem? (i := 12) rfl))) (List.mem_cons_of_mem _ (List.mem_append_left _ (List.mem_of_getElem? (i := 13) rfl))) (List.mem_cons_of_mem _ (List.mem_append_left _ (List.mem_of_getElem? (i := 4) rfl))) (gi_sub (fun w h => (List.mem_cons_of_mem _ (List.mem_append_right _ (List.mem_append_right _ (List.mem_append_right _ (List.mem_append_right _ (List.mem_append_right _ (List.mem_append_right _ (List.mem_append_left _ h))))))))) zg_k161_X5_acceptNumber)) rfl rfl rfl (by decide +kernel) ⟨Nat.le_of_ble_eq_true rfl, Nat.le_of_ble_eq_true rfl⟩ 3 rfl rfl rfl rfl (Nat.le_of_ble_eq_true rfl) ⟨Nat.le_of_ble_eq_true rfl, Nat.le_of_ble_eq_true rfl⟩ dX5_accept_63 (fun v ty' w' hp hk' => ?_)
    obtain ⟨I1213, A1213, hI1213, hA1213, hV1213, rfl, rfl⟩ := hp
    show GW κ 1 0 0 (wX q d I1213 A1213) 66 [(0, .ref (q 3))] []
    refine g_goto (tgt := 108) hk dX5_accept_66 (by decide) ?_
    exact g_vret hk hR ⟨I1213, A1213, (show Md [6, 7, 8, 9, 11, 12, 13, 14, 16] I I1213 from (Md.tr Md.rf hI1213 rfl)), (show Md [1, 2, 3, 4, 5, 6] A A1213 from (Md.tr Md.rf hA1213 rfl)), hV1213, rfl, rfl⟩ dX5_accept_108
  by_cases c1214 : (I 6).toInt = 5
  · refine g_tabIn (tgt := 69) (a := 5) hk dX5_accept_4 c1214 (by decide) (by decide) rfl (by decide) ?_
    refine g_aload_n hk dX5_accept_69 rfl ?_
    refine gX_r3_1 hk hin5 (List.mem_cons_of_mem _ (List.mem_append_left _ (List.mem_of_getElem? (i := 14) rfl))) dX5_accept_70 ?_
    refine gX_r4_2 hk hin8 (List.mem_cons_of_mem _ (List.mem_append_left _ (List.mem_of_getElem? (i := 15) rfl))) dX5_accept_73 ?_
    refine g_aload_n hk dX5_accept_76 rfl ?_
    refine gX_i7 (v := (I 7)) hk hin5 (List.mem_cons_of_mem _ (List.mem_append_left _ (List.mem_of_getElem? (i := 16) rfl))) dX5_accept_77 rfl ?_
    refine g_aload_n hk dX5_accept_80 rfl ?_
    refine g_callV (n := 0) hk (k148_X5_choiceAtHand l D zt q d I A  hIv) (SP.same _) (fun _ h => h) (gi_V (List.mem_cons_of_mem _ (List.mem_append_left _ (List.mem_of_getElem? (i := 17) rfl))) (List.mem_cons_of_mem _ (List.mem_append_left _ (List.mem_of_getElem? (i := 18) rfl))) (List.mem_cons_of_mem _ (List.mem_append_left _ (List.mem_of_getElem? (i := 19) rfl))) (List.mem_cons_of_mem _ (List.mem_append_left _ (List.mem_of_getElem? (i := 4) rfl))) (gi_sub (fun w h => (List.mem_cons_of_mem _ (List.mem_append_right _ (List.mem_append_right _ (List.mem_append_right _ (List.mem_append_right _ (List.mem_append_right _ (List.mem_append_right _ (List.mem_append_right _ (List.mem_append_left _ h)))))))))) zg_k148_X5_choiceAtHand)) rfl rfl rfl (by decide +kernel) ⟨Nat.le_of_ble_eq_true rfl, Nat.le_of_ble_eq_true rfl⟩ 3 rfl rfl rfl rfl (Nat.le_of_ble_eq_true rfl) ⟨Nat.le_of_ble_eq_true rfl, Nat.le_of_ble_eq_true rfl⟩ dX5_accept_81 (fun v ty' w' hp hk' => ?_)
    obtain ⟨y1215, c1216, c1217, rfl, rfl⟩ := hp
    show GW κ 1 0 0 (wX q d I A) 84 [(0, .ref (q 3))] [.int y1215, .int (I 7), .ref (q 6)]
    refine g_callV (n := 2) hk (k121_X7_put l D zt q d I A (I 7) y1215 hIv) (SP.same _) (fun _ h => h) (gi_V (List.mem_cons_of_mem _ (List.mem_append_left _ (List.mem_of_getElem? (i := 20) rfl))) (List.mem_cons_of_mem _ (List.mem_append_left _ (List.mem_of_getElem? (i := 21) rfl))) (List.mem_cons_of_mem _ (List.mem_append_left _ (List.mem_of_getElem? (i := 22) rfl))) (List.mem_cons_of_mem _ (List.mem_append_left _ (List.mem_of_getElem? (i := 23) rfl))) (gi_sub (fun w h => (List.mem_cons_of_mem _ (List.mem_append_right _ (List.mem_append_right _ (List.mem_append_right _ (List.mem_append_right _ (List.mem_append_right _ (List.mem_append_right _ (List.mem_append_right _ (List.mem_append_right _ (List.mem_append_left _ h))))))))))) zg_k121_X7_put)) rfl rfl rfl (by decide +kernel) ⟨Nat.le_of_ble_eq_true rfl, Nat.le_of_ble_eq_true rfl⟩ 6 rfl rfl rfl rfl (Nat.le_of_ble_eq_true rfl) ⟨Nat.le_of_ble_eq_true rfl, Nat.le_of_ble_eq_true rfl⟩ dX5_accept_84 (fun v ty' w' hp hk' => ?_)
    obtain ⟨I1219, A1219, hI1219, hA1219, hV1219, rfl, rfl⟩ := hp
    show GW κ 1 0 0 (wX q d I1219 A1219) 87 [(0, .ref (q 3))] []
    refine g_aload_n hk dX5_accept_87 rfl ?_
    refine g_bipush (v := 6) hk dX5_accept_88 (by decide) ?_
    refine pX_i6 hk hin5 (List.mem_cons_of_mem _ (List.mem_append_left _ (List.mem_of_getElem? (i := 0) rfl))) dX5_accept_90 ?_
    refine g_goto (tgt := 108) hk dX5_accept_93 (by decide) ?_
    exact g_vret hk hR ⟨(upd I1219 6 6), A1219, (show Md [6, 7, 8, 9, 11, 12, 13, 14, 16] I (upd I1219 6 6) from (Md.up (Md.tr Md.rf hI1219 rfl) rfl)), (show Md [1, 2, 3, 4, 5, 6] A A1219 from (Md.tr Md.rf hA1219 rfl)), ⟨(IvX_f0 (I := I1219) (A := A1219) hV1219), (IvX_f18 (I := I1219) (A := A1219) hV1219), (IvX_f30 (I := I1219) (A := A1219) hV1219), (IvX_f31 (I := I1219) (A := A1219) hV1219), (IvX_a4 (I := I1219) (A := A1219) hV1219), (IvX_a9 (I := I1219) (A := A1219) hV1219), trivial⟩, rfl, rfl⟩ dX5_accept_108
  by_cases c1220 : (I 6).toInt = 6
  · refine g_tabIn (tgt := 96) (a := 6) hk dX5_accept_4 c1220 (by decide) (by decide) rfl (by decide) ?_
    refine g_aload_n hk dX5_accept_96 rfl ?_
    refine g_iconst (v := 0) hk dX5_accept_97 (by decide) ?_
    refine pX_i6 hk hin5 (List.mem_cons_of_mem _ (List.mem_append_left _ (List.mem_of_getElem? (i := 0) rfl))) dX5_accept_98 ?_
    refine g_goto (tgt := 108) hk dX5_accept_101 (by decide) ?_
    exact g_vret hk hR ⟨(upd I 6 0), A, (show Md [6, 7, 8, 9, 11, 12, 13, 14, 16] I (upd I 6 0) from (Md.up Md.rf rfl)), (show Md [1, 2, 3, 4, 5, 6] A A from Md.rf), ⟨(IvX_f0 (I := I) (A := A) hIv), (IvX_f18 (I := I) (A := A) hIv), (IvX_f30 (I := I) (A := A) hIv), (IvX_f31 (I := I) (A := A) hIv), (IvX_a4 (I := I) (A := A) hIv), (IvX_a9 (I := I) (A := A) hIv), trivial⟩, rfl, rfl⟩ dX5_accept_108
  refine g_tabOut (tgt := 104) (a := (I 6).toInt) hk dX5_accept_4 rfl (by omega) (by decide) ?_
  refine g_aload_n hk dX5_accept_104 rfl ?_
  refine g_callV (n := 0) hk (k152_X5_acceptInRow l D zt q d I A  hIv) (SP.same _) (fun _ h => h) (gi_V (List.mem_cons_of_mem _ (List.mem_append_left _ (List.mem_of_getElem? (i := 5) rfl))) (List.mem_cons_of_mem _ (List.mem_append_left _ (List.mem_of_getElem? (i := 6) rfl))) (List.mem_cons_of_mem _ (List.mem_append_left _ (List.mem_of_getElem? (i := 7) rfl))) (List.mem_cons_of_mem _ (List.mem_append_left _ (List.mem_of_getElem? (i := 4) rfl))) (gi_sub (fun w h => (List.mem_cons_of_mem _ (List.mem_append_right _ (List.mem_append_right _ (List.mem_append_right _ (List.mem_append_right _ (List.mem_append_left _ h))))))) zg_k152_X5_acceptInRow)) rfl rfl rfl (by decide +kernel) ⟨Nat.le_of_ble_eq_true rfl, Nat.le_of_ble_eq_true rfl⟩ 3 rfl rfl rfl rfl (Nat.le_of_ble_eq_true rfl) ⟨Nat.le_of_ble_eq_true rfl, Nat.le_of_ble_eq_true rfl⟩ dX5_accept_105 (fun v ty' w' hp hk' => ?_)
  obtain ⟨I1222, A1222, hI1222, hA1222, hV1222, rfl, rfl⟩ := hp
  show GW κ 1 0 0 (wX q d I1222 A1222) 108 [(0, .ref (q 3))] []
  exact g_vret hk hR ⟨I1222, A1222, (show Md [6, 7, 8, 9, 11, 12, 13, 14, 16] I I1222 from (Md.tr Md.rf hI1222 rfl)), (show Md [1, 2, 3, 4, 5, 6] A A1222 from (Md.tr Md.rf hA1222 rfl)), hV1222, rfl, rfl⟩ dX5_accept_108
def wo_k117_X5_readText : List Cond := [Cond.methodLink RX5 46 yX5_begin, Cond.instanceMethod yX5_begin, Cond.selects RX5 yX5_begin yX5_begin, Cond.initialized RX5, Cond.fieldLink RX5 49 "WarpDesk$Reader" "isStopped" "Z", Cond.fieldLink RX5 78 "WarpDesk$Reader" "fault" "I", Cond.fieldLink RX5 75 "WarpDesk$Reader" "state" "I", Cond.methodLink RX5 62 yX5_stop, Cond.instanceMethod yX5_stop, Cond.selects RX5 yX5_stop yX5_stop, Cond.fieldLink RX5 42 "WarpDesk$Reader" "tape" "LWarpDesk$Tape;", Cond.fieldLink RX5 53 "WarpDesk$Tape" "kind" "I", Cond.methodLink RX5 58 yX5_mayStand, Cond.instanceMethod yX5_mayStand, Cond.selects RX5 yX5_mayStand yX5_mayStand, Cond.methodLink RX5 66 yX5_hasRoom, Cond.instanceMethod yX5_hasRoom, Cond.selects RX5 yX5_hasRoom yX5_hasRoom, Cond.methodLink RX5 69 yX5_accept, Cond.instanceMethod yX5_accept, Cond.selects RX5 yX5_accept yX5_accept, Cond.methodLink RX5 72 yX10_toNextToken, Cond.instanceMethod yX10_toNextToken, Cond.selects RX10 yX10_toNextToken yX10_toNextToken, Cond.initialized RX10]
def wz_k117_X5_readText : List Cond := .code yX5_readText cX5_readText 2 (some .int) :: (wo_k117_X5_readText ++ (wsX50 ++ (wsX100 ++ (wz_k118_X5_begin ++ (wz_k130_X5_stop ++ (wz_k132_X5_mayStand ++ (wz_k149_X5_hasRoom ++ (wz_k150_X5_accept ++ (wz_k123_X10_toNextToken ++ ([] : List Cond))))))))))
theorem zg_k117_X5_readText : ∀ w ∈ wz_k117_X5_readText, goodWord w = true := zg_cons rfl (zg_app (by decide +kernel) (zg_app zgU_wsX50 (zg_app zgU_wsX100 (zg_app zg_k118_X5_begin (zg_app zg_k130_X5_stop (zg_app zg_k132_X5_mayStand (zg_app zg_k149_X5_hasRoom (zg_app zg_k150_X5_accept (zg_app zg_k123_X10_toNextToken zg_nil)))))))))
theorem zi_k117_X5_readText : ∀ w ∈ wz_k117_X5_readText, w ∈ lw_tbl := zi_cons zw_537 (zi_app (zi_cons zw_538 (zi_cons zw_540 (zi_cons zw_0 (zi_cons zw_105 (zi_cons zw_241 (zi_cons zw_242 (zi_cons zw_237 (zi_cons zw_681 (zi_cons zw_683 (zi_cons zw_12 (zi_cons zw_230 (zi_cons zw_138 (zi_cons zw_584 (zi_cons zw_586 (zi_cons zw_5 (zi_cons zw_689 (zi_cons zw_691 (zi_cons zw_14 (zi_cons zw_693 (zi_cons zw_695 (zi_cons zw_15 (zi_cons zw_750 (zi_cons zw_559 (zi_cons zw_560 (zi_cons zw_104 zi_nil))))))))))))))))))))))))) (zi_app inX5 (zi_app inX10 (zi_app zi_k118_X5_begin (zi_app zi_k130_X5_stop (zi_app zi_k132_X5_mayStand (zi_app zi_k149_X5_hasRoom (zi_app zi_k150_X5_accept (zi_app zi_k123_X10_toNextToken zi_nil)))))))))
set_option maxHeartbeats 4000000 in
set_option maxRecDepth 100000 in
theorem k117_X5_readText (l : Launch) (D : va_G) (zt : Nat × Nat × Nat × (Nat → Nat) × (Nat → Nat)) (q : Nat → Nat) (d : Nat → ClassId) (I : Nat → Int32) (A : Nat → Nat → Int32) (hIv : IvX I A) : GM l D zt (tyX d) yX5_readText wz_k117_X5_readText ({ frames := 8, cells := 0, slots := 0, locals := 168 } : Room) [.ref (q 3)] (wX q d I A) (fun v _ w' => ∃ (I' : Nat → Int32) (A' : Nat → Nat → Int32), Md [1, 2, 3, 4, 5, 6, 7, 8, 9, 10, 11, 12, 13, 14, 16] I I' ∧ Md [1, 2, 3, 4, 5, 6] A A' ∧ IvX I' A' ∧ ∃ y0 : Int32, v = some (.int y0) ∧ w' = wX q d I' A') 0 0 := by
  refine GM.of (cc := cX5_readText) (maxL := 2) (ret := (some .int)) (own := RX5) (lv := [(0, .ref (q 3))]) (by decide) rfl rfl (Nat.le_of_ble_eq_true rfl) rfl (fun κ sz hk hR hN => ?_)
  have hin5 : ∀ w ∈ u_ws RX5 TX5 13, w ∈ wz_k117_X5_readText := fun w h => (List.mem_cons_of_mem _ (List.mem_append_right _ (List.mem_append_left _ h)))
  have hin10 : ∀ w ∈ u_ws RX10 TX10 7, w ∈ wz_k117_X5_readText := fun w h => (List.mem_cons_of_mem _ (List.mem_append_right _ (List.mem_append_right _ (List.mem_append_left _ h))))
  refine g_aload_n hk dX5_readText_0 rfl ?_
  refine g_callV (n := 0) hk (k118_X5_begin l D zt q d I A  hIv) (SP.same _) (fun _ h => h) (gi_V (List.mem_cons_of_mem _ (List.mem_append_left _ (List.mem_of_getElem? (i := 0) rfl))) (List.mem_cons_of_mem _ (List.mem_append_left _ (List.mem_of_getElem? (i := 1) rfl))) (List.mem_cons_of_mem _ (List.mem_append_left _ (List.mem_of_getElem? (i := 2) rfl))) (List.mem_cons_of_mem _ (List.mem_append_left _ (List.mem_of_getElem? (i := 3) rfl))) (gi_sub (fun w h => (List.mem_cons_of_mem _ (List.mem_append_right _ (List.mem_append_right _ (List.mem_append_right _ (List.mem_append_left _ h)))))) zg_k118_X5_begin)) rfl rfl rfl (by decide +kernel) ⟨Nat.le_of_ble_eq_true rfl, Nat.le_of_ble_eq_true rfl⟩ 3 rfl rfl rfl rfl (Nat.le_of_ble_eq_true rfl) ⟨Nat.le_of_ble_eq_true rfl, Nat.le_of_ble_eq_true rfl⟩ dX5_readText_1 (fun v ty' w' hp hk' => ?_)
  obtain ⟨I691, A691, hI691, hA691, hV691, rfl, rfl⟩ := hp
  show GW κ 2 0 0 (wX q d I691 A691) 4 [(0, .ref (q 3))] []
  refine g_iconst (v := 0) hk dX5_readText_4 (by decide) ?_
  refine g_istore_n (lv' := [(1, .int 0), (0, .ref (q 3))]) hk dX5_readText_5 (by decide) rfl ?_
  have lp1342 : ∀ (n1343 : Nat) (x692 : Int32) (I694 : Nat → Int32) (A694 : Nat → Nat → Int32), (Md [1, 2, 3, 4, 5, 6, 7, 8, 9, 10, 11, 12, 13, 14, 16] I691 I694) → (Md [1, 2, 3, 4, 5, 6] A691 A694) → (IvX I694 A694) → (0 ≤ x692.toInt) → (x692.toInt ≤ 401) → (401 - x692.toInt < (n1343 : Int)) → (0 < n1343) → GW κ 2 0 0 (wX q d I694 A694) 6 [(1, .int x692), (0, .ref (q 3))] [] := by
    intro n1343
    induction n1343 with
    | zero =>
      intro x692 I694 A694 hI694 hA694 hV694 h1340 h1341 m1344 m1344z
      exact absurd m1344z (Nat.lt_irrefl 0)
    | succ n1343 ih1345 =>
      intro x692 I694 A694 hI694 hA694 hV694 h1340 h1341 m1344 m1344z
      refine g_iload_n hk dX5_readText_6 rfl ?_
      refine g_sipush (v := 400) hk dX5_readText_7 (by decide) ?_
      refine g_icmp_gt (tgt := 77) (a := x692.toInt) (b := 400) hk dX5_readText_10 (by decide) rfl rfl (fun c1346 => ?_) (fun c1346 => ?_)
      · skip
        refine g_aload_n hk dX5_readText_77 rfl ?_
        refine gX_i10 (v := (I694 10)) hk hin5 (List.mem_cons_of_mem _ (List.mem_append_left _ (List.mem_of_getElem? (i := 4) rfl))) dX5_readText_78 rfl ?_
        have b1347l := Int32.le_toInt (I694 10)
        have b1347h := Int32.toInt_lt (I694 10)
        refine g_if_ne (tgt := 96) (a := (I694 10).toInt) hk dX5_readText_81 (by decide) rfl (fun c1348 => ?_) (fun c1348 => ?_)
        · skip
          refine g_aload_n hk dX5_readText_96 rfl ?_
          refine gX_i11 (v := (I694 11)) hk hin5 (List.mem_cons_of_mem _ (List.mem_append_left _ (List.mem_of_getElem? (i := 5) rfl))) dX5_readText_97 rfl ?_
          have b1349l := Int32.le_toInt (I694 11)
          have b1349h := Int32.toInt_lt (I694 11)
          exact g_iret hk hR rfl ⟨I694, A694, (show Md [1, 2, 3, 4, 5, 6, 7, 8, 9, 10, 11, 12, 13, 14, 16] I I694 from (Md.tr (Md.tr Md.rf hI691 rfl) hI694 rfl)), (show Md [1, 2, 3, 4, 5, 6] A A694 from (Md.tr (Md.tr Md.rf hA691 rfl) hA694 rfl)), hV694, (I694 11), rfl, rfl⟩ dX5_readText_100
        · skip
          refine g_aload_n hk dX5_readText_84 rfl ?_
          refine gX_i6 (v := (I694 6)) hk hin5 (List.mem_cons_of_mem _ (List.mem_append_left _ (List.mem_of_getElem? (i := 6) rfl))) dX5_readText_85 rfl ?_
          have b1350l := Int32.le_toInt (I694 6)
          have b1350h := Int32.toInt_lt (I694 6)
          refine g_if_eq (tgt := 96) (a := (I694 6).toInt) hk dX5_readText_88 (by decide) rfl (fun c1351 => ?_) (fun c1351 => ?_)
          · skip
            refine g_aload_n hk dX5_readText_96 rfl ?_
            refine gX_i11 (v := (I694 11)) hk hin5 (List.mem_cons_of_mem _ (List.mem_append_left _ (List.mem_of_getElem? (i := 5) rfl))) dX5_readText_97 rfl ?_
            have b1352l := Int32.le_toInt (I694 11)
            have b1352h := Int32.toInt_lt (I694 11)
            exact g_iret hk hR rfl ⟨I694, A694, (show Md [1, 2, 3, 4, 5, 6, 7, 8, 9, 10, 11, 12, 13, 14, 16] I I694 from (Md.tr (Md.tr Md.rf hI691 rfl) hI694 rfl)), (show Md [1, 2, 3, 4, 5, 6] A A694 from (Md.tr (Md.tr Md.rf hA691 rfl) hA694 rfl)), hV694, (I694 11), rfl, rfl⟩ dX5_readText_100
          · skip
            refine g_aload_n hk dX5_readText_91 rfl ?_
            refine g_iconst (v := 1) hk dX5_readText_92 (by decide) ?_
            have k1353 : (1 : Int32).toInt = 1 := rfl
            refine g_callV (n := 1) hk (k130_X5_stop l D zt q d I694 A694 1 hV694) (SP.same _) (fun _ h => h) (gi_V (List.mem_cons_of_mem _ (List.mem_append_left _ (List.mem_of_getElem? (i := 7) rfl))) (List.mem_cons_of_mem _ (List.mem_append_left _ (List.mem_of_getElem? (i := 8) rfl))) (List.mem_cons_of_mem _ (List.mem_append_left _ (List.mem_of_getElem? (i := 9) rfl))) (List.mem_cons_of_mem _ (List.mem_append_left _ (List.mem_of_getElem? (i := 3) rfl))) (gi_sub (fun w h => (List.mem_cons_of_mem _ (List.mem_append_right _ (List.mem_append_right _ (List.mem_append_right _ (List.mem_append_right _ (List.mem_append_left _ h))))))) zg_k130_X5_stop)) rfl rfl rfl (by decide +kernel) ⟨Nat.le_of_ble_eq_true rfl, Nat.le_of_ble_eq_true rfl⟩ 3 rfl rfl rfl rfl (Nat.le_of_ble_eq_true rfl) ⟨Nat.le_of_ble_eq_true rfl, Nat.le_of_ble_eq_true rfl⟩ dX5_readText_93 (fun v ty' w' hp hk' => ?_)
            obtain ⟨I1355, A1355, hI1355, hA1355, hV1355, rfl, rfl⟩ := hp
            show GW κ 2 0 0 (wX q d I1355 A1355) 96 [(1, .int x692), (0, .ref (q 3))] []
            refine g_aload_n hk dX5_readText_96 rfl ?_
            refine gX_i11 (v := (I1355 11)) hk hin5 (List.mem_cons_of_mem _ (List.mem_append_left _ (List.mem_of_getElem? (i := 5) rfl))) dX5_readText_97 rfl ?_
            have b1356l := Int32.le_toInt (I1355 11)
            have b1356h := Int32.toInt_lt (I1355 11)
            exact g_iret hk hR rfl ⟨I1355, A1355, (show Md [1, 2, 3, 4, 5, 6, 7, 8, 9, 10, 11, 12, 13, 14, 16] I I1355 from (Md.tr (Md.tr (Md.tr Md.rf hI691 rfl) hI694 rfl) hI1355 rfl)), (show Md [1, 2, 3, 4, 5, 6] A A1355 from (Md.tr (Md.tr (Md.tr Md.rf hA691 rfl) hA694 rfl) hA1355 rfl)), hV1355, (I1355 11), rfl, rfl⟩ dX5_readText_100
      · skip
        refine g_aload_n hk dX5_readText_13 rfl ?_
        refine gX_i10 (v := (I694 10)) hk hin5 (List.mem_cons_of_mem _ (List.mem_append_left _ (List.mem_of_getElem? (i := 4) rfl))) dX5_readText_14 rfl ?_
        have b1357l := Int32.le_toInt (I694 10)
        have b1357h := Int32.toInt_lt (I694 10)
        refine g_if_ne (tgt := 77) (a := (I694 10).toInt) hk dX5_readText_17 (by decide) rfl (fun c1358 => ?_) (fun c1358 => ?_)
        · skip
          refine g_aload_n hk dX5_readText_77 rfl ?_
          refine gX_i10 (v := (I694 10)) hk hin5 (List.mem_cons_of_mem _ (List.mem_append_left _ (List.mem_of_getElem? (i := 4) rfl))) dX5_readText_78 rfl ?_
          refine g_if_ne (tgt := 96) (a := (I694 10).toInt) hk dX5_readText_81 (by decide) rfl (fun c1359 => ?_) (fun c1359 => ?_)
          · skip
            refine g_aload_n hk dX5_readText_96 rfl ?_
            refine gX_i11 (v := (I694 11)) hk hin5 (List.mem_cons_of_mem _ (List.mem_append_left _ (List.mem_of_getElem? (i := 5) rfl))) dX5_readText_97 rfl ?_
            have b1360l := Int32.le_toInt (I694 11)
            have b1360h := Int32.toInt_lt (I694 11)
            exact g_iret hk hR rfl ⟨I694, A694, (show Md [1, 2, 3, 4, 5, 6, 7, 8, 9, 10, 11, 12, 13, 14, 16] I I694 from (Md.tr (Md.tr Md.rf hI691 rfl) hI694 rfl)), (show Md [1, 2, 3, 4, 5, 6] A A694 from (Md.tr (Md.tr Md.rf hA691 rfl) hA694 rfl)), hV694, (I694 11), rfl, rfl⟩ dX5_readText_100
          · skip
            refine g_aload_n hk dX5_readText_84 rfl ?_
            refine gX_i6 (v := (I694 6)) hk hin5 (List.mem_cons_of_mem _ (List.mem_append_left _ (List.mem_of_getElem? (i := 6) rfl))) dX5_readText_85 rfl ?_
            have b1361l := Int32.le_toInt (I694 6)
            have b1361h := Int32.toInt_lt (I694 6)
            refine g_if_eq (tgt := 96) (a := (I694 6).toInt) hk dX5_readText_88 (by decide) rfl (fun c1362 => ?_) (fun c1362 => ?_)
            · skip
              refine g_aload_n hk dX5_readText_96 rfl ?_
              refine gX_i11 (v := (I694 11)) hk hin5 (List.mem_cons_of_mem _ (List.mem_append_left _ (List.mem_of_getElem? (i := 5) rfl))) dX5_readText_97 rfl ?_
              have b1363l := Int32.le_toInt (I694 11)
              have b1363h := Int32.toInt_lt (I694 11)
              exact g_iret hk hR rfl ⟨I694, A694, (show Md [1, 2, 3, 4, 5, 6, 7, 8, 9, 10, 11, 12, 13, 14, 16] I I694 from (Md.tr (Md.tr Md.rf hI691 rfl) hI694 rfl)), (show Md [1, 2, 3, 4, 5, 6] A A694 from (Md.tr (Md.tr Md.rf hA691 rfl) hA694 rfl)), hV694, (I694 11), rfl, rfl⟩ dX5_readText_100
            · skip
              refine g_aload_n hk dX5_readText_91 rfl ?_
              refine g_iconst (v := 1) hk dX5_readText_92 (by decide) ?_
              have k1364 : (1 : Int32).toInt = 1 := rfl
              refine g_callV (n := 1) hk (k130_X5_stop l D zt q d I694 A694 1 hV694) (SP.same _) (fun _ h => h) (gi_V (List.mem_cons_of_mem _ (List.mem_append_left _ (List.mem_of_getElem? (i := 7) rfl))) (List.mem_cons_of_mem _ (List.mem_append_left _ (List.mem_of_getElem? (i := 8) rfl))) (List.mem_cons_of_mem _ (List.mem_append_left _ (List.mem_of_getElem? (i := 9) rfl))) (List.mem_cons_of_mem _ (List.mem_append_left _ (List.mem_of_getElem? (i := 3) rfl))) (gi_sub (fun w h => (List.mem_cons_of_mem _ (List.mem_append_right _ (List.mem_append_right _ (List.mem_append_right _ (List.mem_append_right _ (List.mem_append_left _ h))))))) zg_k130_X5_stop)) rfl rfl rfl (by decide +kernel) ⟨Nat.le_of_ble_eq_true rfl, Nat.le_of_ble_eq_true rfl⟩ 3 rfl rfl rfl rfl (Nat.le_of_ble_eq_true rfl) ⟨Nat.le_of_ble_eq_true rfl, Nat.le_of_ble_eq_true rfl⟩ dX5_readText_93 (fun v ty' w' hp hk' => ?_)
              obtain ⟨I1366, A1366, hI1366, hA1366, hV1366, rfl, rfl⟩ := hp
              show GW κ 2 0 0 (wX q d I1366 A1366) 96 [(1, .int x692), (0, .ref (q 3))] []
              refine g_aload_n hk dX5_readText_96 rfl ?_
              refine gX_i11 (v := (I1366 11)) hk hin5 (List.mem_cons_of_mem _ (List.mem_append_left _ (List.mem_of_getElem? (i := 5) rfl))) dX5_readText_97 rfl ?_
              have b1367l := Int32.le_toInt (I1366 11)
              have b1367h := Int32.toInt_lt (I1366 11)
              exact g_iret hk hR rfl ⟨I1366, A1366, (show Md [1, 2, 3, 4, 5, 6, 7, 8, 9, 10, 11, 12, 13, 14, 16] I I1366 from (Md.tr (Md.tr (Md.tr Md.rf hI691 rfl) hI694 rfl) hI1366 rfl)), (show Md [1, 2, 3, 4, 5, 6] A A1366 from (Md.tr (Md.tr (Md.tr Md.rf hA691 rfl) hA694 rfl) hA1366 rfl)), hV1366, (I1366 11), rfl, rfl⟩ dX5_readText_100
        · skip
          refine g_aload_n hk dX5_readText_20 rfl ?_
          refine gX_r3_0 hk hin5 (List.mem_cons_of_mem _ (List.mem_append_left _ (List.mem_of_getElem? (i := 10) rfl))) dX5_readText_21 ?_
          refine gX_i1 (v := (I694 1)) hk hin10 (List.mem_cons_of_mem _ (List.mem_append_left _ (List.mem_of_getElem? (i := 11) rfl))) dX5_readText_24 rfl ?_
          have b1368l := Int32.le_toInt (I694 1)
          have b1368h := Int32.toInt_lt (I694 1)
          refine g_if_eq (tgt := 77) (a := (I694 1).toInt) hk dX5_readText_27 (by decide) rfl (fun c1369 => ?_) (fun c1369 => ?_)
          · skip
            refine g_aload_n hk dX5_readText_77 rfl ?_
            refine gX_i10 (v := (I694 10)) hk hin5 (List.mem_cons_of_mem _ (List.mem_append_left _ (List.mem_of_getElem? (i := 4) rfl))) dX5_readText_78 rfl ?_
            refine g_if_ne (tgt := 96) (a := (I694 10).toInt) hk dX5_readText_81 (by decide) rfl (fun z9 => absurd z9 (show ¬ ((I694 10).toInt ≠ 0) from by omega)) (fun _ => ?_)
            refine g_aload_n hk dX5_readText_84 rfl ?_
            refine gX_i6 (v := (I694 6)) hk hin5 (List.mem_cons_of_mem _ (List.mem_append_left _ (List.mem_of_getElem? (i := 6) rfl))) dX5_readText_85 rfl ?_
            have b1370l := Int32.le_toInt (I694 6)
            have b1370h := Int32.toInt_lt (I694 6)
            refine g_if_eq (tgt := 96) (a := (I694 6).toInt) hk dX5_readText_88 (by decide) rfl (fun c1371 => ?_) (fun c1371 => ?_)
            · skip
              refine g_aload_n hk dX5_readText_96 rfl ?_
              refine gX_i11 (v := (I694 11)) hk hin5 (List.mem_cons_of_mem _ (List.mem_append_left _ (List.mem_of_getElem? (i := 5) rfl))) dX5_readText_97 rfl ?_
              have b1372l := Int32.le_toInt (I694 11)
              have b1372h := Int32.toInt_lt (I694 11)
              exact g_iret hk hR rfl ⟨I694, A694, (show Md [1, 2, 3, 4, 5, 6, 7, 8, 9, 10, 11, 12, 13, 14, 16] I I694 from (Md.tr (Md.tr Md.rf hI691 rfl) hI694 rfl)), (show Md [1, 2, 3, 4, 5, 6] A A694 from (Md.tr (Md.tr Md.rf hA691 rfl) hA694 rfl)), hV694, (I694 11), rfl, rfl⟩ dX5_readText_100
            · skip
              refine g_aload_n hk dX5_readText_91 rfl ?_
              refine g_iconst (v := 1) hk dX5_readText_92 (by decide) ?_
              have k1373 : (1 : Int32).toInt = 1 := rfl
              refine g_callV (n := 1) hk (k130_X5_stop l D zt q d I694 A694 1 hV694) (SP.same _) (fun _ h => h) (gi_V (List.mem_cons_of_mem _ (List.mem_append_left _ (List.mem_of_getElem? (i := 7) rfl))) (List.mem_cons_of_mem _ (List.mem_append_left _ (List.mem_of_getElem? (i := 8) rfl))) (List.mem_cons_of_mem _ (List.mem_append_left _ (List.mem_of_getElem? (i := 9) rfl))) (List.mem_cons_of_mem _ (List.mem_append_left _ (List.mem_of_getElem? (i := 3) rfl))) (gi_sub (fun w h => (List.mem_cons_of_mem _ (List.mem_append_right _ (List.mem_append_right _ (List.mem_append_right _ (List.mem_append_right _ (List.mem_append_left _ h))))))) zg_k130_X5_stop)) rfl rfl rfl (by decide +kernel) ⟨Nat.le_of_ble_eq_true rfl, Nat.le_of_ble_eq_true rfl⟩ 3 rfl rfl rfl rfl (Nat.le_of_ble_eq_true rfl) ⟨Nat.le_of_ble_eq_true rfl, Nat.le_of_ble_eq_true rfl⟩ dX5_readText_93 (fun v ty' w' hp hk' => ?_)
              obtain ⟨I1375, A1375, hI1375, hA1375, hV1375, rfl, rfl⟩ := hp
              show GW κ 2 0 0 (wX q d I1375 A1375) 96 [(1, .int x692), (0, .ref (q 3))] []
              refine g_aload_n hk dX5_readText_96 rfl ?_
              refine gX_i11 (v := (I1375 11)) hk hin5 (List.mem_cons_of_mem _ (List.mem_append_left _ (List.mem_of_getElem? (i := 5) rfl))) dX5_readText_97 rfl ?_
              have b1376l := Int32.le_toInt (I1375 11)
              have b1376h := Int32.toInt_lt (I1375 11)
              exact g_iret hk hR rfl ⟨I1375, A1375, (show Md [1, 2, 3, 4, 5, 6, 7, 8, 9, 10, 11, 12, 13, 14, 16] I I1375 from (Md.tr (Md.tr (Md.tr Md.rf hI691 rfl) hI694 rfl) hI1375 rfl)), (show Md [1, 2, 3, 4, 5, 6] A A1375 from (Md.tr (Md.tr (Md.tr Md.rf hA691 rfl) hA694 rfl) hA1375 rfl)), hV1375, (I1375 11), rfl, rfl⟩ dX5_readText_100
          · skip
            refine g_aload_n hk dX5_readText_30 rfl ?_
            refine g_callV (n := 0) hk (k132_X5_mayStand l D zt q d I694 A694  hV694) (SP.same _) (fun _ h => h) (gi_V (List.mem_cons_of_mem _ (List.mem_append_left _ (List.mem_of_getElem? (i := 12) rfl))) (List.mem_cons_of_mem _ (List.mem_append_left _ (List.mem_of_getElem? (i := 13) rfl))) (List.mem_cons_of_mem _ (List.mem_append_left _ (List.mem_of_getElem? (i := 14) rfl))) (List.mem_cons_of_mem _ (List.mem_append_left _ (List.mem_of_getElem? (i := 3) rfl))) (gi_sub (fun w h => (List.mem_cons_of_mem _ (List.mem_append_right _ (List.mem_append_right _ (List.mem_append_right _ (List.mem_append_right _ (List.mem_append_right _ (List.mem_append_left _ h)))))))) zg_k132_X5_mayStand)) rfl rfl rfl (by decide +kernel) ⟨Nat.le_of_ble_eq_true rfl, Nat.le_of_ble_eq_true rfl⟩ 3 rfl rfl rfl rfl (Nat.le_of_ble_eq_true rfl) ⟨Nat.le_of_ble_eq_true rfl, Nat.le_of_ble_eq_true rfl⟩ dX5_readText_31 (fun v ty' w' hp hk' => ?_)
            rcases hp with ⟨rfl, rfl⟩ | ⟨rfl, rfl⟩
            · skip
              show GW κ 2 0 0 (wX q d I694 A694) 34 [(1, .int x692), (0, .ref (q 3))] [.int 0]
              refine g_if_ne (tgt := 45) (a := 0) hk dX5_readText_34 (by decide) rfl (fun z9 => absurd z9 (show ¬ ((0 : Int) ≠ (0 : Int)) from by decide)) (fun _ => ?_)
              refine g_aload_n hk dX5_readText_37 rfl ?_
              refine g_iconst (v := 1) hk dX5_readText_38 (by decide) ?_
              have k1379 : (1 : Int32).toInt = 1 := rfl
              refine g_callV (n := 1) hk (k130_X5_stop l D zt q d I694 A694 1 hV694) (SP.same _) (fun _ h => h) (gi_V (List.mem_cons_of_mem _ (List.mem_append_left _ (List.mem_of_getElem? (i := 7) rfl))) (List.mem_cons_of_mem _ (List.mem_append_left _ (List.mem_of_getElem? (i := 8) rfl))) (List.mem_cons_of_mem _ (List.mem_append_left _ (List.mem_of_getElem? (i := 9) rfl))) (List.mem_cons_of_mem _ (List.mem_append_left _ (List.mem_of_getElem? (i := 3) rfl))) (gi_sub (fun w h => (List.mem_cons_of_mem _ (List.mem_append_right _ (List.mem_append_right _ (List.mem_append_right _ (List.mem_append_right _ (List.mem_append_left _ h))))))) zg_k130_X5_stop)) rfl rfl rfl (by decide +kernel) ⟨Nat.le_of_ble_eq_true rfl, Nat.le_of_ble_eq_true rfl⟩ 3 rfl rfl rfl rfl (Nat.le_of_ble_eq_true rfl) ⟨Nat.le_of_ble_eq_true rfl, Nat.le_of_ble_eq_true rfl⟩ dX5_readText_39 (fun v ty' w' hp hk' => ?_)
              obtain ⟨I1381, A1381, hI1381, hA1381, hV1381, rfl, rfl⟩ := hp
              show GW κ 2 0 0 (wX q d I1381 A1381) 42 [(1, .int x692), (0, .ref (q 3))] []
              refine g_goto (tgt := 71) hk dX5_readText_42 (by decide) ?_
              obtain ⟨y1382, ey1382⟩ : ∃ y : Int32, y = x692 + Int32.ofInt 1 := ⟨_, rfl⟩
              have hy1382 : y1382.toInt = x692.toInt + 1 := i32_add ey1382 rfl (by decide) (by omega) (by omega)
              refine g_iinc (v := y1382) (lv' := [(1, .int y1382), (0, .ref (q 3))]) hk 0 dX5_readText_71 rfl ey1382.symm (by decide) rfl ?_
              refine g_goto (tgt := 6) hk dX5_readText_74 (by decide) ?_
              exact g_lv (List.forall_mem_cons.mpr ⟨List.mem_of_getElem? (i := 0) rfl, (List.forall_mem_cons.mpr ⟨List.mem_of_getElem? (i := 1) rfl, (fun _ h => absurd h List.not_mem_nil)⟩)⟩) (ih1345 y1382 I1381 A1381 (show Md [1, 2, 3, 4, 5, 6, 7, 8, 9, 10, 11, 12, 13, 14, 16] I691 I1381 from Md.tr hI694 (show Md [1, 2, 3, 4, 5, 6, 7, 8, 9, 10, 11, 12, 13, 14, 16] I694 I1381 from (Md.tr Md.rf hI1381 rfl)) rfl) (show Md [1, 2, 3, 4, 5, 6] A691 A1381 from Md.tr hA694 (show Md [1, 2, 3, 4, 5, 6] A694 A1381 from (Md.tr Md.rf hA1381 rfl)) rfl) hV1381 (by omega) (by omega) (by omega) (by omega))
            · skip
              show GW κ 2 0 0 (wX q d I694 A694) 34 [(1, .int x692), (0, .ref (q 3))] [.int 1]
              refine g_if_ne (tgt := 45) (a := 1) hk dX5_readText_34 (by decide) rfl (fun _ => ?_) (fun z9 => absurd (show (1 : Int) ≠ (0 : Int) from by decide) z9)
              refine g_aload_n hk dX5_readText_45 rfl ?_
              refine g_callV (n := 0) hk (k149_X5_hasRoom l D zt q d I694 A694  hV694) (SP.same _) (fun _ h => h) (gi_V (List.mem_cons_of_mem _ (List.mem_append_left _ (List.mem_of_getElem? (i := 15) rfl))) (List.mem_cons_of_mem _ (List.mem_append_left _ (List.mem_of_getElem? (i := 16) rfl))) (List.mem_cons_of_mem _ (List.mem_append_left _ (List.mem_of_getElem? (i := 17) rfl))) (List.mem_cons_of_mem _ (List.mem_append_left _ (List.mem_of_getElem? (i := 3) rfl))) (gi_sub (fun w h => (List.mem_cons_of_mem _ (List.mem_append_right _ (List.mem_append_right _ (List.mem_append_right _ (List.mem_append_right _ (List.mem_append_right _ (List.mem_append_right _ (List.mem_append_left _ h))))))))) zg_k149_X5_hasRoom)) rfl rfl rfl (by decide +kernel) ⟨Nat.le_of_ble_eq_true rfl, Nat.le_of_ble_eq_true rfl⟩ 3 rfl rfl rfl rfl (Nat.le_of_ble_eq_true rfl) ⟨Nat.le_of_ble_eq_true rfl, Nat.le_of_ble_eq_true rfl⟩ dX5_readText_46 (fun v ty' w' hp hk' => ?_)
              rcases hp with ⟨rfl, rfl⟩ | ⟨rfl, rfl⟩
              · skip
                show GW κ 2 0 0 (wX q d I694 A694) 49 [(1, .int x692), (0, .ref (q 3))] [.int 0]
                refine g_if_ne (tgt := 60) (a := 0) hk dX5_readText_49 (by decide) rfl (fun z9 => absurd z9 (show ¬ ((0 : Int) ≠ (0 : Int)) from by decide)) (fun _ => ?_)
                refine g_aload_n hk dX5_readText_52 rfl ?_
                refine g_iconst (v := 2) hk dX5_readText_53 (by decide) ?_
                have k1385 : (2 : Int32).toInt = 2 := rfl
                refine g_callV (n := 1) hk (k130_X5_stop l D zt q d I694 A694 2 hV694) (SP.same _) (fun _ h => h) (gi_V (List.mem_cons_of_mem _ (List.mem_append_left _ (List.mem_of_getElem? (i := 7) rfl))) (List.mem_cons_of_mem _ (List.mem_append_left _ (List.mem_of_getElem? (i := 8) rfl))) (List.mem_cons_of_mem _ (List.mem_append_left _ (List.mem_of_getElem? (i := 9) rfl))) (List.mem_cons_of_mem _ (List.mem_append_left _ (List.mem_of_getElem? (i := 3) rfl))) (gi_sub (fun w h => (List.mem_cons_of_mem _ (List.mem_append_right _ (List.mem_append_right _ (List.mem_append_right _ (List.mem_append_right _ (List.mem_append_left _ h))))))) zg_k130_X5_stop)) rfl rfl rfl (by decide +kernel) ⟨Nat.le_of_ble_eq_true rfl, Nat.le_of_ble_eq_true rfl⟩ 3 rfl rfl rfl rfl (Nat.le_of_ble_eq_true rfl) ⟨Nat.le_of_ble_eq_true rfl, Nat.le_of_ble_eq_true rfl⟩ dX5_readText_54 (fun v ty' w' hp hk' => ?_)
                obtain ⟨I1387, A1387, hI1387, hA1387, hV1387, rfl, rfl⟩ := hp
                show GW κ 2 0 0 (wX q d I1387 A1387) 57 [(1, .int x692), (0, .ref (q 3))] []
                refine g_goto (tgt := 71) hk dX5_readText_57 (by decide) ?_
                obtain ⟨y1388, ey1388⟩ : ∃ y : Int32, y = x692 + Int32.ofInt 1 := ⟨_, rfl⟩
                have hy1388 : y1388.toInt = x692.toInt + 1 := i32_add ey1388 rfl (by decide) (by omega) (by omega)
                refine g_iinc (v := y1388) (lv' := [(1, .int y1388), (0, .ref (q 3))]) hk 0 dX5_readText_71 rfl ey1388.symm (by decide) rfl ?_
                refine g_goto (tgt := 6) hk dX5_readText_74 (by decide) ?_
                exact g_lv (List.forall_mem_cons.mpr ⟨List.mem_of_getElem? (i := 0) rfl, (List.forall_mem_cons.mpr ⟨List.mem_of_getElem? (i := 1) rfl, (fun _ h => absurd h List.not_mem_nil)⟩)⟩) (ih1345 y1388 I1387 A1387 (show Md [1, 2, 3, 4, 5, 6, 7, 8, 9, 10, 11, 12, 13, 14, 16] I691 I1387 from Md.tr hI694 (show Md [1, 2, 3, 4, 5, 6, 7, 8, 9, 10, 11, 12, 13, 14, 16] I694 I1387 from (Md.tr Md.rf hI1387 rfl)) rfl) (show Md [1, 2, 3, 4, 5, 6] A691 A1387 from Md.tr hA694 (show Md [1, 2, 3, 4, 5, 6] A694 A1387 from (Md.tr Md.rf hA1387 rfl)) rfl) hV1387 (by omega) (by omega) (by omega) (by omega))
              · skip
                show GW κ 2 0 0 (wX q d I694 A694) 49 [(1, .int x692), (0, .ref (q 3))] [.int 1]
                refine g_if_ne (tgt := 60) (a := 1) hk dX5_readText_49 (by decide) rfl (fun _ => ?_) (fun z9 => absurd (show (1 : Int) ≠ (0 : Int) from by decide) z9)
                refine g_aload_n hk dX5_readText_60 rfl ?_
                refine g_callV (n := 0) hk (k150_X5_accept l D zt q d I694 A694  hV694) (SP.same _) (fun _ h => h) (gi_V (List.mem_cons_of_mem _ (List.mem_append_left _ (List.mem_of_getElem? (i := 18) rfl))) (List.mem_cons_of_mem _ (List.mem_append_left _ (List.mem_of_getElem? (i := 19) rfl))) (List.mem_cons_of_mem _ (List.mem_append_left _ (List.mem_of_getElem? (i := 20) rfl))) (List.mem_cons_of_mem _ (List.mem_append_left _ (List.mem_of_getElem? (i := 3) rfl))) (gi_sub (fun w h => (List.mem_cons_of_mem _ (List.mem_append_right _ (List.mem_append_right _ (List.mem_append_right _ (List.mem_append_right _ (List.mem_append_right _ (List.mem_append_right _ (List.mem_append_right _ (List.mem_append_left _ h)))))))))) zg_k150_X5_accept)) rfl rfl rfl (by decide +kernel) ⟨Nat.le_of_ble_eq_true rfl, Nat.le_of_ble_eq_true rfl⟩ 3 rfl rfl rfl rfl (Nat.le_of_ble_eq_true rfl) ⟨Nat.le_of_ble_eq_true rfl, Nat.le_of_ble_eq_true rfl⟩ dX5_readText_61 (fun v ty' w' hp hk' => ?_)
                obtain ⟨I1390, A1390, hI1390, hA1390, hV1390, rfl, rfl⟩ := hp
                show GW κ 2 0 0 (wX q d I1390 A1390) 64 [(1, .int x692), (0, .ref (q 3))] []
                refine g_aload_n hk dX5_readText_64 rfl ?_
                refine gX_r3_0 hk hin5 (List.mem_cons_of_mem _ (List.mem_append_left _ (List.mem_of_getElem? (i := 10) rfl))) dX5_readText_65 ?_
                refine g_callV (n := 0) hk (k123_X10_toNextToken l D zt q d I1390 A1390  hV1390) (SP.same _) (fun _ h => h) (gi_V (List.mem_cons_of_mem _ (List.mem_append_left _ (List.mem_of_getElem? (i := 21) rfl))) (List.mem_cons_of_mem _ (List.mem_append_left _ (List.mem_of_getElem? (i := 22) rfl))) (List.mem_cons_of_mem _ (List.mem_append_left _ (List.mem_of_getElem? (i := 23) rfl))) (List.mem_cons_of_mem _ (List.mem_append_left _ (List.mem_of_getElem? (i := 24) rfl))) (gi_sub (fun w h => (List.mem_cons_of_mem _ (List.mem_append_right _ (List.mem_append_right _ (List.mem_append_right _ (List.mem_append_right _ (List.mem_append_right _ (List.mem_append_right _ (List.mem_append_right _ (List.mem_append_right _ (List.mem_append_left _ h))))))))))) zg_k123_X10_toNextToken)) rfl rfl rfl (by decide +kernel) ⟨Nat.le_of_ble_eq_true rfl, Nat.le_of_ble_eq_true rfl⟩ 1 rfl rfl rfl rfl (Nat.le_of_ble_eq_true rfl) ⟨Nat.le_of_ble_eq_true rfl, Nat.le_of_ble_eq_true rfl⟩ dX5_readText_68 (fun v ty' w' hp hk' => ?_)
                obtain ⟨I1392, A1392, hI1392, hA1392, hV1392, rfl, rfl⟩ := hp
                show GW κ 2 0 0 (wX q d I1392 A1392) 71 [(1, .int x692), (0, .ref (q 3))] []
                obtain ⟨y1393, ey1393⟩ : ∃ y : Int32, y = x692 + Int32.ofInt 1 := ⟨_, rfl⟩
                have hy1393 : y1393.toInt = x692.toInt + 1 := i32_add ey1393 rfl (by decide) (by omega) (by omega)
                refine g_iinc (v := y1393) (lv' := [(1, .int y1393), (0, .ref (q 3))]) hk 0 dX5_readText_71 rfl ey1393.symm (by decide) rfl ?_
                refine g_goto (tgt := 6) hk dX5_readText_74 (by decide) ?_
                exact g_lv (List.forall_mem_cons.mpr ⟨List.mem_of_getElem? (i := 0) rfl, (List.forall_mem_cons.mpr ⟨List.mem_of_getElem? (i := 1) rfl, (fun _ h => absurd h List.not_mem_nil)⟩)⟩) (ih1345 y1393 I1392 A1392 (show Md [1, 2, 3, 4, 5, 6, 7, 8, 9, 10, 11, 12, 13, 14, 16] I691 I1392 from Md.tr hI694 (show Md [1, 2, 3, 4, 5, 6, 7, 8, 9, 10, 11, 12, 13, 14, 16] I694 I1392 from (Md.tr (Md.tr Md.rf hI1390 rfl) hI1392 rfl)) rfl) (show Md [1, 2, 3, 4, 5, 6] A691 A1392 from Md.tr hA694 (show Md [1, 2, 3, 4, 5, 6] A694 A1392 from (Md.tr (Md.tr Md.rf hA1390 rfl) hA1392 rfl)) rfl) hV1392 (by omega) (by omega) (by omega) (by omega))
  have k1395 : (0 : Int32).toInt = 0 := rfl
  obtain ⟨n1394, n1394a, n1394b⟩ : ∃ n : Nat, 401 - 0 < (n : Int) ∧ 0 < n := ⟨((401 - 0 : Int)).toNat + 1, by omega, by omega⟩
  exact lp1342 n1394 0 I691 A691 Md.rf Md.rf hV691 (by omega) (by omega) n1394a n1394b
def wo_k164_X4_open : List Cond := [Cond.fieldLink RX4 18 "WarpDesk$Queries" "size" "I", Cond.fieldLink RX4 15 "WarpDesk$Queries" "lengths" "[I"]
def wz_k164_X4_open : List Cond := .code yX4_open cX4_open 1 none :: (wo_k164_X4_open ++ (wsX40 ++ ([] : List Cond)))
theorem zg_k164_X4_open : ∀ w ∈ wz_k164_X4_open, goodWord w = true := zg_cons rfl (zg_app (by decide +kernel) (zg_app zgU_wsX40 zg_nil))
theorem zi_k164_X4_open : ∀ w ∈ wz_k164_X4_open, w ∈ lw_tbl := zi_cons zw_717 (zi_app (zi_cons zw_219 (zi_cons zw_218 zi_nil)) (zi_app inX4 zi_nil))
set_option maxHeartbeats 4000000 in
set_option maxRecDepth 100000 in
theorem k164_X4_open (l : Launch) (D : va_G) (zt : Nat × Nat × Nat × (Nat → Nat) × (Nat → Nat)) (q : Nat → Nat) (d : Nat → ClassId) (I : Nat → Int32) (A : Nat → Nat → Int32) (hIv : IvX I A) : GM l D zt (tyX d) yX4_open wz_k164_X4_open ({ frames := 0, cells := 0, slots := 0, locals := 0 } : Room) [.ref (q 15)] (wX q d I A) (fun v _ w' => ∃ (I' : Nat → Int32) (A' : Nat → Nat → Int32), Md [19] I I' ∧ Md [9] A A' ∧ IvX I' A' ∧ v = none ∧ w' = wX q d I' A') 0 0 := by
  refine GM.of (cc := cX4_open) (maxL := 1) (ret := none) (own := RX4) (lv := [(0, .ref (q 15))]) (by decide) rfl rfl (Nat.le_of_ble_eq_true rfl) rfl (fun κ sz hk hR hN => ?_)
  have hin4 : ∀ w ∈ u_ws RX4 TX4 3, w ∈ wz_k164_X4_open := fun w h => (List.mem_cons_of_mem _ (List.mem_append_right _ (List.mem_append_left _ h)))
  refine g_aload_n hk dX4_open_0 rfl ?_
  refine gX_i19 (v := (I 19)) hk hin4 (List.mem_cons_of_mem _ (List.mem_append_left _ (List.mem_of_getElem? (i := 0) rfl))) dX4_open_1 rfl ?_
  have b1408l := Int32.le_toInt (I 19)
  have b1408h := Int32.toInt_lt (I 19)
  refine g_if_lt (tgt := 35) (a := (I 19).toInt) hk dX4_open_4 (by decide) rfl (fun c1409 => ?_) (fun c1409 => ?_)
  · skip
    exact g_vret hk hR ⟨I, A, (show Md [19] I I from Md.rf), (show Md [9] A A from Md.rf), hIv, rfl, rfl⟩ dX4_open_35
  · skip
    refine g_aload_n hk dX4_open_7 rfl ?_
    refine gX_i19 (v := (I 19)) hk hin4 (List.mem_cons_of_mem _ (List.mem_append_left _ (List.mem_of_getElem? (i := 0) rfl))) dX4_open_8 rfl ?_
    refine g_iconst (v := 5) hk dX4_open_11 (by decide) ?_
    refine g_icmp_ge (tgt := 35) (a := (I 19).toInt) (b := 5) hk dX4_open_12 (by decide) rfl rfl (fun c1410 => ?_) (fun c1410 => ?_)
    · skip
      exact g_vret hk hR ⟨I, A, (show Md [19] I I from Md.rf), (show Md [9] A A from Md.rf), hIv, rfl, rfl⟩ dX4_open_35
    · skip
      refine g_aload_n hk dX4_open_15 rfl ?_
      refine gX_r15_1 hk hin4 (List.mem_cons_of_mem _ (List.mem_append_left _ (List.mem_of_getElem? (i := 1) rfl))) dX4_open_16 ?_
      refine g_aload_n hk dX4_open_19 rfl ?_
      refine gX_i19 (v := (I 19)) hk hin4 (List.mem_cons_of_mem _ (List.mem_append_left _ (List.mem_of_getElem? (i := 0) rfl))) dX4_open_20 rfl ?_
      refine g_iconst (v := 0) hk dX4_open_23 (by decide) ?_
      have k1411 : (0 : Int32).toInt = 0 := rfl
      refine sX_9 (j := (I 19).toNatClampNeg) hk (vp_in_iff.mpr ⟨by omega, by omega⟩) rfl dX4_open_24 ?_
      have hA1412 : ∀ j, 0 ≤ ((up3 A 9 ((I 19).toNatClampNeg) 0) 9 j).toInt ∧ ((up3 A 9 ((I 19).toNatClampNeg) 0) 9 j).toInt ≤ 16 := ai_st ((IvX_a9 hIv)) ⟨by omega, by omega⟩
      refine g_aload_n hk dX4_open_25 rfl ?_
      refine g_dup hk dX4_open_26 rfl ?_
      refine gX_i19 (v := (I 19)) hk hin4 (List.mem_cons_of_mem _ (List.mem_append_left _ (List.mem_of_getElem? (i := 0) rfl))) dX4_open_27 rfl ?_
      refine g_iconst (v := 1) hk dX4_open_30 (by decide) ?_
      refine g_iadd hk dX4_open_31 ?_
      refine g_topi (fun y1413 ey1413 => ?_)
      have hy1413 : y1413.toInt = (I 19).toInt + 1 := i32_add ey1413 rfl rfl (by omega) (by omega)
      refine pX_i19 hk hin4 (List.mem_cons_of_mem _ (List.mem_append_left _ (List.mem_of_getElem? (i := 0) rfl))) dX4_open_32 ?_
      exact g_vret hk hR ⟨(upd I 19 y1413), (up3 A 9 ((I 19).toNatClampNeg) 0), (show Md [19] I (upd I 19 y1413) from (Md.up Md.rf rfl)), (show Md [9] A (up3 A 9 ((I 19).toNatClampNeg) 0) from (Md.up3 Md.rf rfl)), ⟨(IvX_f0 (I := I) (A := A) hIv), (IvX_f18 (I := I) (A := A) hIv), (IvX_f30 (I := I) (A := A) hIv), (IvX_f31 (I := I) (A := A) hIv), (IvX_a4 (I := I) (A := A) hIv), hA1412, trivial⟩, rfl, rfl⟩ dX4_open_35
def wo_k165_X4_lengthOf : List Cond := [Cond.methodLink RX4 22 yX4_has, Cond.instanceMethod yX4_has, Cond.selects RX4 yX4_has yX4_has, Cond.initialized RX4, Cond.fieldLink RX4 15 "WarpDesk$Queries" "lengths" "[I"]
def wz_k165_X4_lengthOf : List Cond := .code yX4_lengthOf cX4_lengthOf 2 (some .int) :: (wo_k165_X4_lengthOf ++ (wsX40 ++ (wz_k155_X4_has ++ ([] : List Cond))))
theorem zg_k165_X4_lengthOf : ∀ w ∈ wz_k165_X4_lengthOf, goodWord w = true := zg_cons rfl (zg_app (by decide +kernel) (zg_app zgU_wsX40 (zg_app zg_k155_X4_has zg_nil)))
theorem zi_k165_X4_lengthOf : ∀ w ∈ wz_k165_X4_lengthOf, w ∈ lw_tbl := zi_cons zw_759 (zi_app (zi_cons zw_746 (zi_cons zw_747 (zi_cons zw_748 (zi_cons zw_108 (zi_cons zw_218 zi_nil))))) (zi_app inX4 (zi_app zi_k155_X4_has zi_nil)))
set_option maxHeartbeats 4000000 in
set_option maxRecDepth 100000 in
theorem k165_X4_lengthOf (l : Launch) (D : va_G) (zt : Nat × Nat × Nat × (Nat → Nat) × (Nat → Nat)) (q : Nat → Nat) (d : Nat → ClassId) (I : Nat → Int32) (A : Nat → Nat → Int32) (z1 : Int32) (hIv : IvX I A) : GM l D zt (tyX d) yX4_lengthOf wz_k165_X4_lengthOf ({ frames := 1, cells := 0, slots := 0, locals := 21 } : Room) [.ref (q 8), .int z1] (wX q d I A) (fun v _ w' => (v = some (.int 0) ∧ w' = wX q d I A) ∨ (∃ y0 : Int32, (¬ (z1.toInt < 0)) ∧ (¬ (5 ≤ z1.toInt)) ∧ (0 ≤ z1.toInt) ∧ (z1.toInt ≤ 4) ∧ (0 ≤ z1.toInt) ∧ (z1.toInt ≤ 4) ∧ (0 ≤ y0.toInt) ∧ (y0.toInt ≤ 16) ∧ v = some (.int y0) ∧ w' = wX q d I A)) 0 0 := by
  refine GM.of (cc := cX4_lengthOf) (maxL := 2) (ret := (some .int)) (own := RX4) (lv := [(0, .ref (q 8)), (1, .int z1)]) (by decide) rfl rfl (Nat.le_of_ble_eq_true rfl) rfl (fun κ sz hk hR hN => ?_)
  have hin4 : ∀ w ∈ u_ws RX4 TX4 3, w ∈ wz_k165_X4_lengthOf := fun w h => (List.mem_cons_of_mem _ (List.mem_append_right _ (List.mem_append_left _ h)))
  refine g_aload_n hk dX4_lengthOf_0 rfl ?_
  refine g_iload_n hk dX4_lengthOf_1 rfl ?_
  refine g_callV (n := 1) hk (k155_X4_has l D zt q d I A z1 hIv) (SP.same _) (fun _ h => h) (gi_V (List.mem_cons_of_mem _ (List.mem_append_left _ (List.mem_of_getElem? (i := 0) rfl))) (List.mem_cons_of_mem _ (List.mem_append_left _ (List.mem_of_getElem? (i := 1) rfl))) (List.mem_cons_of_mem _ (List.mem_append_left _ (List.mem_of_getElem? (i := 2) rfl))) (List.mem_cons_of_mem _ (List.mem_append_left _ (List.mem_of_getElem? (i := 3) rfl))) (gi_sub (fun w h => (List.mem_cons_of_mem _ (List.mem_append_right _ (List.mem_append_right _ (List.mem_append_left _ h))))) zg_k155_X4_has)) rfl rfl rfl (by decide +kernel) ⟨Nat.le_of_ble_eq_true rfl, Nat.le_of_ble_eq_true rfl⟩ 8 rfl rfl rfl rfl (Nat.le_of_ble_eq_true rfl) ⟨Nat.le_of_ble_eq_true rfl, Nat.le_of_ble_eq_true rfl⟩ dX4_lengthOf_2 (fun v ty' w' hp hk' => ?_)
  rcases hp with ⟨rfl, rfl⟩ | ⟨c1422, c1423, c1424, c1425, rfl, rfl⟩
  · skip
    show GW κ 2 0 0 (wX q d I A) 5 [(0, .ref (q 8)), (1, .int z1)] [.int 0]
    refine g_if_eq (tgt := 17) (a := 0) hk dX4_lengthOf_5 (by decide) rfl (fun _ => ?_) (fun z9 => absurd (show (0 : Int) = (0 : Int) from by decide) z9)
    refine g_iconst (v := 0) hk dX4_lengthOf_17 (by decide) ?_
    exact g_iret hk hR rfl (Or.inl ⟨rfl, rfl⟩) dX4_lengthOf_18
  · skip
    show GW κ 2 0 0 (wX q d I A) 5 [(0, .ref (q 8)), (1, .int z1)] [.int 1]
    refine g_if_eq (tgt := 17) (a := 1) hk dX4_lengthOf_5 (by decide) rfl (fun z9 => absurd z9 (show ¬ ((1 : Int) = (0 : Int)) from by decide)) (fun _ => ?_)
    refine g_aload_n hk dX4_lengthOf_8 rfl ?_
    refine gX_r8_1 hk hin4 (List.mem_cons_of_mem _ (List.mem_append_left _ (List.mem_of_getElem? (i := 4) rfl))) dX4_lengthOf_9 ?_
    refine g_iload_n hk dX4_lengthOf_12 rfl ?_
    refine lX_4 (v := (A 4 z1.toNatClampNeg)) hk (vp_in_iff.mpr ⟨by omega, by omega⟩) rfl dX4_lengthOf_13 ?_
    have f1427 := IvX_a4 hIv (z1.toNatClampNeg)
    refine g_goto (tgt := 18) hk dX4_lengthOf_14 (by decide) ?_
    exact g_iret hk hR rfl (Or.inr (⟨(A 4 z1.toNatClampNeg), c1422, c1423, c1424, c1425, (by omega), (by omega), (by omega), (by omega), rfl, rfl⟩)) dX4_lengthOf_18
def wo_k166_X4_valueAt : List Cond := [Cond.methodLink RX4 26 yX4_lengthOf, Cond.instanceMethod yX4_lengthOf, Cond.selects RX4 yX4_lengthOf yX4_lengthOf, Cond.initialized RX4, Cond.fieldLink RX4 9 "WarpDesk$Queries" "readings" "[I"]
def wz_k166_X4_valueAt : List Cond := .code yX4_valueAt cX4_valueAt 3 (some .int) :: (wo_k166_X4_valueAt ++ (wsX40 ++ (wz_k165_X4_lengthOf ++ ([] : List Cond))))
theorem zg_k166_X4_valueAt : ∀ w ∈ wz_k166_X4_valueAt, goodWord w = true := zg_cons rfl (zg_app (by decide +kernel) (zg_app zgU_wsX40 (zg_app zg_k165_X4_lengthOf zg_nil)))
theorem zi_k166_X4_valueAt : ∀ w ∈ wz_k166_X4_valueAt, w ∈ lw_tbl := zi_cons zw_763 (zi_app (zi_cons zw_756 (zi_cons zw_757 (zi_cons zw_758 (zi_cons zw_108 (zi_cons zw_217 zi_nil))))) (zi_app inX4 (zi_app zi_k165_X4_lengthOf zi_nil)))
set_option maxHeartbeats 4000000 in
set_option maxRecDepth 100000 in
theorem k166_X4_valueAt (l : Launch) (D : va_G) (zt : Nat × Nat × Nat × (Nat → Nat) × (Nat → Nat)) (q : Nat → Nat) (d : Nat → ClassId) (I : Nat → Int32) (A : Nat → Nat → Int32) (z1 : Int32) (z2 : Int32) (hIv : IvX I A) : GM l D zt (tyX d) yX4_valueAt wz_k166_X4_valueAt ({ frames := 2, cells := 0, slots := 0, locals := 42 } : Room) [.ref (q 8), .int z1, .int z2] (wX q d I A) (fun v _ w' => ∃ y0 : Int32, v = some (.int y0) ∧ w' = wX q d I A) 0 0 := by
  refine GM.of (cc := cX4_valueAt) (maxL := 3) (ret := (some .int)) (own := RX4) (lv := [(0, .ref (q 8)), (1, .int z1), (2, .int z2)]) (by decide) rfl rfl (Nat.le_of_ble_eq_true rfl) rfl (fun κ sz hk hR hN => ?_)
  have hin4 : ∀ w ∈ u_ws RX4 TX4 3, w ∈ wz_k166_X4_valueAt := fun w h => (List.mem_cons_of_mem _ (List.mem_append_right _ (List.mem_append_left _ h)))
  refine g_iload_n hk dX4_valueAt_0 rfl ?_
  have b1440l := Int32.le_toInt z2
  have b1440h := Int32.toInt_lt z2
  refine g_if_lt (tgt := 33) (a := z2.toInt) hk dX4_valueAt_1 (by decide) rfl (fun c1441 => ?_) (fun c1441 => ?_)
  · skip
    refine g_sipush (v := (-1000)) hk dX4_valueAt_33 (by decide) ?_
    exact g_iret hk hR rfl ⟨(-1000), rfl, rfl⟩ dX4_valueAt_36
  · skip
    refine g_iload_n hk dX4_valueAt_4 rfl ?_
    refine g_bipush (v := 16) hk dX4_valueAt_5 (by decide) ?_
    refine g_icmp_ge (tgt := 33) (a := z2.toInt) (b := 16) hk dX4_valueAt_7 (by decide) rfl rfl (fun c1442 => ?_) (fun c1442 => ?_)
    · skip
      refine g_sipush (v := (-1000)) hk dX4_valueAt_33 (by decide) ?_
      exact g_iret hk hR rfl ⟨(-1000), rfl, rfl⟩ dX4_valueAt_36
    · skip
      refine g_iload_n hk dX4_valueAt_10 rfl ?_
      refine g_aload_n hk dX4_valueAt_11 rfl ?_
      refine g_iload_n hk dX4_valueAt_12 rfl ?_
      refine g_callV (n := 1) hk (k165_X4_lengthOf l D zt q d I A z1 hIv) (SP.same _) (fun _ h => h) (gi_V (List.mem_cons_of_mem _ (List.mem_append_left _ (List.mem_of_getElem? (i := 0) rfl))) (List.mem_cons_of_mem _ (List.mem_append_left _ (List.mem_of_getElem? (i := 1) rfl))) (List.mem_cons_of_mem _ (List.mem_append_left _ (List.mem_of_getElem? (i := 2) rfl))) (List.mem_cons_of_mem _ (List.mem_append_left _ (List.mem_of_getElem? (i := 3) rfl))) (gi_sub (fun w h => (List.mem_cons_of_mem _ (List.mem_append_right _ (List.mem_append_right _ (List.mem_append_left _ h))))) zg_k165_X4_lengthOf)) rfl rfl rfl (by decide +kernel) ⟨Nat.le_of_ble_eq_true rfl, Nat.le_of_ble_eq_true rfl⟩ 8 rfl rfl rfl rfl (Nat.le_of_ble_eq_true rfl) ⟨Nat.le_of_ble_eq_true rfl, Nat.le_of_ble_eq_true rfl⟩ dX4_valueAt_13 (fun v ty' w' hp hk' => ?_)
      rcases hp with ⟨rfl, rfl⟩ | ⟨y1450, c1444, c1445, c1446, c1447, c1448, c1449, c1451, c1452, rfl, rfl⟩
      · skip
        show GW κ 3 0 0 (wX q d I A) 16 [(0, .ref (q 8)), (1, .int z1), (2, .int z2)] [.int 0, .int z2]
        refine g_icmp_ge (tgt := 33) (a := z2.toInt) (b := 0) hk dX4_valueAt_16 (by decide) rfl rfl (fun _ => ?_) (fun z9 => absurd (show 0 ≤ z2.toInt from by omega) z9)
        refine g_sipush (v := (-1000)) hk dX4_valueAt_33 (by decide) ?_
        exact g_iret hk hR rfl ⟨(-1000), rfl, rfl⟩ dX4_valueAt_36
      · skip
        show GW κ 3 0 0 (wX q d I A) 16 [(0, .ref (q 8)), (1, .int z1), (2, .int z2)] [.int y1450, .int z2]
        refine g_icmp_ge (tgt := 33) (a := z2.toInt) (b := y1450.toInt) hk dX4_valueAt_16 (by decide) rfl rfl (fun c1453 => ?_) (fun c1453 => ?_)
        · skip
          refine g_sipush (v := (-1000)) hk dX4_valueAt_33 (by decide) ?_
          exact g_iret hk hR rfl ⟨(-1000), rfl, rfl⟩ dX4_valueAt_36
        · skip
          refine g_aload_n hk dX4_valueAt_19 rfl ?_
          refine gX_r8_0 hk hin4 (List.mem_cons_of_mem _ (List.mem_append_left _ (List.mem_of_getElem? (i := 4) rfl))) dX4_valueAt_20 ?_
          refine g_iload_n hk dX4_valueAt_23 rfl ?_
          refine g_bipush (v := 16) hk dX4_valueAt_24 (by decide) ?_
          refine g_imul hk dX4_valueAt_26 ?_
          refine g_topi (fun y1454 ey1454 => ?_)
          have hy1454 : y1454.toInt = z1.toInt * 16 := i32_mul ey1454 rfl rfl (by omega) (by omega)
          refine g_iload_n hk dX4_valueAt_27 rfl ?_
          refine g_iadd hk dX4_valueAt_28 ?_
          refine g_topi (fun y1455 ey1455 => ?_)
          have hy1455 : y1455.toInt = y1454.toInt + z2.toInt := i32_add ey1455 rfl rfl (by omega) (by omega)
          refine lX_3 (v := (A 3 y1455.toNatClampNeg)) hk (vp_in_iff.mpr ⟨by omega, by omega⟩) rfl dX4_valueAt_29 ?_
          refine g_goto (tgt := 36) hk dX4_valueAt_30 (by decide) ?_
          have b1456l := Int32.le_toInt (A 3 y1455.toNatClampNeg)
          have b1456h := Int32.toInt_lt (A 3 y1455.toNatClampNeg)
          exact g_iret hk hR rfl ⟨(A 3 y1455.toNatClampNeg), rfl, rfl⟩ dX4_valueAt_36
def wo_k168_X4_has : List Cond := [Cond.fieldLink RX4 18 "WarpDesk$Queries" "size" "I"]
def wz_k168_X4_has : List Cond := .code yX4_has cX4_has 2 (some .boolean) :: (wo_k168_X4_has ++ (wsX40 ++ ([] : List Cond)))
theorem zg_k168_X4_has : ∀ w ∈ wz_k168_X4_has, goodWord w = true := zg_cons rfl (zg_app (by decide +kernel) (zg_app zgU_wsX40 zg_nil))
theorem zi_k168_X4_has : ∀ w ∈ wz_k168_X4_has, w ∈ lw_tbl := zi_cons zw_749 (zi_app (zi_cons zw_219 zi_nil) (zi_app inX4 zi_nil))
set_option maxHeartbeats 4000000 in
set_option maxRecDepth 100000 in
theorem k168_X4_has (l : Launch) (D : va_G) (zt : Nat × Nat × Nat × (Nat → Nat) × (Nat → Nat)) (q : Nat → Nat) (d : Nat → ClassId) (I : Nat → Int32) (A : Nat → Nat → Int32) (z1 : Int32) (hIv : IvX I A) : GM l D zt (tyX d) yX4_has wz_k168_X4_has ({ frames := 0, cells := 0, slots := 0, locals := 0 } : Room) [.ref (q 15), .int z1] (wX q d I A) (fun v _ w' => (v = some (.int 0) ∧ w' = wX q d I A) ∨ ((¬ (z1.toInt < 0)) ∧ (¬ (5 ≤ z1.toInt)) ∧ (0 ≤ z1.toInt) ∧ (z1.toInt ≤ 4) ∧ v = some (.int 1) ∧ w' = wX q d I A)) 0 0 := by
  refine GM.of (cc := cX4_has) (maxL := 2) (ret := (some .boolean)) (own := RX4) (lv := [(0, .ref (q 15)), (1, .int z1)]) (by decide) rfl rfl (Nat.le_of_ble_eq_true rfl) rfl (fun κ sz hk hR hN => ?_)
  have hin4 : ∀ w ∈ u_ws RX4 TX4 3, w ∈ wz_k168_X4_has := fun w h => (List.mem_cons_of_mem _ (List.mem_append_right _ (List.mem_append_left _ h)))
  refine g_iload_n hk dX4_has_0 rfl ?_
  have b1460l := Int32.le_toInt z1
  have b1460h := Int32.toInt_lt z1
  refine g_if_lt (tgt := 21) (a := z1.toInt) hk dX4_has_1 (by decide) rfl (fun c1461 => ?_) (fun c1461 => ?_)
  · skip
    refine g_iconst (v := 0) hk dX4_has_21 (by decide) ?_
    exact g_iret hk hR rfl (Or.inl ⟨rfl, rfl⟩) dX4_has_22
  · skip
    refine g_iload_n hk dX4_has_4 rfl ?_
    refine g_aload_n hk dX4_has_5 rfl ?_
    refine gX_i19 (v := (I 19)) hk hin4 (List.mem_cons_of_mem _ (List.mem_append_left _ (List.mem_of_getElem? (i := 0) rfl))) dX4_has_6 rfl ?_
    have b1462l := Int32.le_toInt (I 19)
    have b1462h := Int32.toInt_lt (I 19)
    refine g_icmp_ge (tgt := 21) (a := z1.toInt) (b := (I 19).toInt) hk dX4_has_9 (by decide) rfl rfl (fun c1463 => ?_) (fun c1463 => ?_)
    · skip
      refine g_iconst (v := 0) hk dX4_has_21 (by decide) ?_
      exact g_iret hk hR rfl (Or.inl ⟨rfl, rfl⟩) dX4_has_22
    · skip
      refine g_iload_n hk dX4_has_12 rfl ?_
      refine g_iconst (v := 5) hk dX4_has_13 (by decide) ?_
      refine g_icmp_ge (tgt := 21) (a := z1.toInt) (b := 5) hk dX4_has_14 (by decide) rfl rfl (fun c1464 => ?_) (fun c1464 => ?_)
      · skip
        refine g_iconst (v := 0) hk dX4_has_21 (by decide) ?_
        exact g_iret hk hR rfl (Or.inl ⟨rfl, rfl⟩) dX4_has_22
      · skip
        refine g_iconst (v := 1) hk dX4_has_17 (by decide) ?_
        refine g_goto (tgt := 22) hk dX4_has_18 (by decide) ?_
        exact g_iret hk hR rfl (Or.inr (⟨c1461, c1464, (by omega), (by omega), rfl, rfl⟩)) dX4_has_22
def wo_k167_X4_append : List Cond := [Cond.fieldLink RX4 18 "WarpDesk$Queries" "size" "I", Cond.methodLink RX4 22 yX4_has, Cond.instanceMethod yX4_has, Cond.selects RX4 yX4_has yX4_has, Cond.initialized RX4, Cond.fieldLink RX4 15 "WarpDesk$Queries" "lengths" "[I", Cond.fieldLink RX4 9 "WarpDesk$Queries" "readings" "[I"]
def wz_k167_X4_append : List Cond := .code yX4_append cX4_append 3 none :: (wo_k167_X4_append ++ (wsX40 ++ (wz_k168_X4_has ++ ([] : List Cond))))
theorem zg_k167_X4_append : ∀ w ∈ wz_k167_X4_append, goodWord w = true := zg_cons rfl (zg_app (by decide +kernel) (zg_app zgU_wsX40 (zg_app zg_k168_X4_has zg_nil)))
theorem zi_k167_X4_append : ∀ w ∈ wz_k167_X4_append, w ∈ lw_tbl := zi_cons zw_745 (zi_app (zi_cons zw_219 (zi_cons zw_746 (zi_cons zw_747 (zi_cons zw_748 (zi_cons zw_108 (zi_cons zw_218 (zi_cons zw_217 zi_nil))))))) (zi_app inX4 (zi_app zi_k168_X4_has zi_nil)))
set_option maxHeartbeats 4000000 in
set_option maxRecDepth 100000 in
theorem k167_X4_append (l : Launch) (D : va_G) (zt : Nat × Nat × Nat × (Nat → Nat) × (Nat → Nat)) (q : Nat → Nat) (d : Nat → ClassId) (I : Nat → Int32) (A : Nat → Nat → Int32) (z1 : Int32) (hIv : IvX I A) : GM l D zt (tyX d) yX4_append wz_k167_X4_append ({ frames := 1, cells := 0, slots := 0, locals := 21 } : Room) [.ref (q 15), .int z1] (wX q d I A) (fun v _ w' => ∃ (I' : Nat → Int32) (A' : Nat → Nat → Int32), Md [] I I' ∧ Md [8, 9] A A' ∧ IvX I' A' ∧ v = none ∧ w' = wX q d I' A') 0 0 := by
  refine GM.of (cc := cX4_append) (maxL := 3) (ret := none) (own := RX4) (lv := [(0, .ref (q 15)), (1, .int z1)]) (by decide) rfl rfl (Nat.le_of_ble_eq_true rfl) rfl (fun κ sz hk hR hN => ?_)
  have hin4 : ∀ w ∈ u_ws RX4 TX4 3, w ∈ wz_k167_X4_append := fun w h => (List.mem_cons_of_mem _ (List.mem_append_right _ (List.mem_append_left _ h)))
  refine g_aload_n hk dX4_append_0 rfl ?_
  refine gX_i19 (v := (I 19)) hk hin4 (List.mem_cons_of_mem _ (List.mem_append_left _ (List.mem_of_getElem? (i := 0) rfl))) dX4_append_1 rfl ?_
  refine g_iconst (v := 1) hk dX4_append_4 (by decide) ?_
  have b1458l := Int32.le_toInt (I 19)
  have b1458h := Int32.toInt_lt (I 19)
  refine g_isub hk dX4_append_5 ?_
  refine g_topi (fun y1459 ey1459 => ?_)
  have hy1459 := i32_sub0 ey1459
  refine g_istore_n (lv' := [(2, .int y1459), (0, .ref (q 15)), (1, .int z1)]) hk dX4_append_6 (by decide) rfl ?_
  refine g_aload_n hk dX4_append_7 rfl ?_
  refine g_iload_n hk dX4_append_8 rfl ?_
  refine g_callV (n := 1) hk (k168_X4_has l D zt q d I A y1459 hIv) (SP.same _) (fun _ h => h) (gi_V (List.mem_cons_of_mem _ (List.mem_append_left _ (List.mem_of_getElem? (i := 1) rfl))) (List.mem_cons_of_mem _ (List.mem_append_left _ (List.mem_of_getElem? (i := 2) rfl))) (List.mem_cons_of_mem _ (List.mem_append_left _ (List.mem_of_getElem? (i := 3) rfl))) (List.mem_cons_of_mem _ (List.mem_append_left _ (List.mem_of_getElem? (i := 4) rfl))) (gi_sub (fun w h => (List.mem_cons_of_mem _ (List.mem_append_right _ (List.mem_append_right _ (List.mem_append_left _ h))))) zg_k168_X4_has)) rfl rfl rfl (by decide +kernel) ⟨Nat.le_of_ble_eq_true rfl, Nat.le_of_ble_eq_true rfl⟩ 15 rfl rfl rfl rfl (Nat.le_of_ble_eq_true rfl) ⟨Nat.le_of_ble_eq_true rfl, Nat.le_of_ble_eq_true rfl⟩ dX4_append_9 (fun v ty' w' hp hk' => ?_)
  rcases hp with ⟨rfl, rfl⟩ | ⟨c1466, c1467, c1468, c1469, rfl, rfl⟩
  · skip
    show GW κ 3 0 0 (wX q d I A) 12 [(2, .int y1459), (0, .ref (q 15)), (1, .int z1)] [.int 0]
    refine g_if_eq (tgt := 53) (a := 0) hk dX4_append_12 (by decide) rfl (fun _ => ?_) (fun z9 => absurd (show (0 : Int) = (0 : Int) from by decide) z9)
    exact g_vret hk hR ⟨I, A, (show Md [] I I from Md.rf), (show Md [8, 9] A A from Md.rf), hIv, rfl, rfl⟩ dX4_append_53
  · skip
    show GW κ 3 0 0 (wX q d I A) 12 [(2, .int y1459), (0, .ref (q 15)), (1, .int z1)] [.int 1]
    refine g_if_eq (tgt := 53) (a := 1) hk dX4_append_12 (by decide) rfl (fun z9 => absurd z9 (show ¬ ((1 : Int) = (0 : Int)) from by decide)) (fun _ => ?_)
    refine g_aload_n hk dX4_append_15 rfl ?_
    refine gX_r15_1 hk hin4 (List.mem_cons_of_mem _ (List.mem_append_left _ (List.mem_of_getElem? (i := 5) rfl))) dX4_append_16 ?_
    refine g_iload_n hk dX4_append_19 rfl ?_
    refine lX_9 (v := (A 9 y1459.toNatClampNeg)) hk (vp_in_iff.mpr ⟨by omega, by omega⟩) rfl dX4_append_20 ?_
    have f1471 := IvX_a9 hIv (y1459.toNatClampNeg)
    refine g_bipush (v := 16) hk dX4_append_21 (by decide) ?_
    refine g_icmp_ge (tgt := 53) (a := (A 9 y1459.toNatClampNeg).toInt) (b := 16) hk dX4_append_23 (by decide) rfl rfl (fun c1472 => ?_) (fun c1472 => ?_)
    · skip
      exact g_vret hk hR ⟨I, A, (show Md [] I I from Md.rf), (show Md [8, 9] A A from Md.rf), hIv, rfl, rfl⟩ dX4_append_53
    · skip
      refine g_aload_n hk dX4_append_26 rfl ?_
      refine gX_r15_0 hk hin4 (List.mem_cons_of_mem _ (List.mem_append_left _ (List.mem_of_getElem? (i := 6) rfl))) dX4_append_27 ?_
      refine g_iload_n hk dX4_append_30 rfl ?_
      refine g_bipush (v := 16) hk dX4_append_31 (by decide) ?_
      refine g_imul hk dX4_append_33 ?_
      refine g_topi (fun y1473 ey1473 => ?_)
      have hy1473 : y1473.toInt = y1459.toInt * 16 := i32_mul ey1473 rfl rfl (by omega) (by omega)
      refine g_aload_n hk dX4_append_34 rfl ?_
      refine gX_r15_1 hk hin4 (List.mem_cons_of_mem _ (List.mem_append_left _ (List.mem_of_getElem? (i := 5) rfl))) dX4_append_35 ?_
      refine g_iload_n hk dX4_append_38 rfl ?_
      refine lX_9 (v := (A 9 y1459.toNatClampNeg)) hk (vp_in_iff.mpr ⟨by omega, by omega⟩) rfl dX4_append_39 ?_
      refine g_iadd hk dX4_append_40 ?_
      refine g_topi (fun y1474 ey1474 => ?_)
      have hy1474 : y1474.toInt = y1473.toInt + (A 9 y1459.toNatClampNeg).toInt := i32_add ey1474 rfl rfl (by omega) (by omega)
      refine g_iload_n hk dX4_append_41 rfl ?_
      refine sX_8 (j := y1474.toNatClampNeg) hk (vp_in_iff.mpr ⟨by omega, by omega⟩) rfl dX4_append_42 ?_
      refine g_aload_n hk dX4_append_43 rfl ?_
      refine gX_r15_1 hk hin4 (List.mem_cons_of_mem _ (List.mem_append_left _ (List.mem_of_getElem? (i := 5) rfl))) dX4_append_44 ?_
      refine g_iload_n hk dX4_append_47 rfl ?_
      refine g_dup2 hk dX4_append_48 rfl rfl ?_
      refine lX_9 (v := (A 9 y1459.toNatClampNeg)) hk (vp_in_iff.mpr ⟨by omega, by omega⟩) rfl dX4_append_49 ?_
      refine g_iconst (v := 1) hk dX4_append_50 (by decide) ?_
      refine g_iadd hk dX4_append_51 ?_
      refine g_topi (fun y1475 ey1475 => ?_)
      have hy1475 : y1475.toInt = (A 9 y1459.toNatClampNeg).toInt + 1 := i32_add ey1475 rfl rfl (by omega) (by omega)
      refine sX_9 (j := y1459.toNatClampNeg) hk (vp_in_iff.mpr ⟨by omega, by omega⟩) rfl dX4_append_52 ?_
      have hA1476 : ∀ j, 0 ≤ ((up3 (up3 A 8 (y1474.toNatClampNeg) z1) 9 (y1459.toNatClampNeg) y1475) 9 j).toInt ∧ ((up3 (up3 A 8 (y1474.toNatClampNeg) z1) 9 (y1459.toNatClampNeg) y1475) 9 j).toInt ≤ 16 := ai_st ((IvX_a9 hIv)) ⟨by omega, by omega⟩
      exact g_vret hk hR ⟨I, (up3 (up3 A 8 (y1474.toNatClampNeg) z1) 9 (y1459.toNatClampNeg) y1475), (show Md [] I I from Md.rf), (show Md [8, 9] A (up3 (up3 A 8 (y1474.toNatClampNeg) z1) 9 (y1459.toNatClampNeg) y1475) from (Md.up3 (Md.up3 Md.rf rfl) rfl)), ⟨(IvX_f0 (I := I) (A := A) hIv), (IvX_f18 (I := I) (A := A) hIv), (IvX_f30 (I := I) (A := A) hIv), (IvX_f31 (I := I) (A := A) hIv), (IvX_a4 (I := I) (A := A) hIv), hA1476, trivial⟩, rfl, rfl⟩ dX4_append_53
def wo_k163_X4_takeFrom : List Cond := [Cond.fieldLink RX4 18 "WarpDesk$Queries" "size" "I", Cond.methodLink RX4 30 yX4_open, Cond.instanceMethod yX4_open, Cond.selects RX4 yX4_open yX4_open, Cond.initialized RX4, Cond.methodLink RX4 26 yX4_lengthOf, Cond.instanceMethod yX4_lengthOf, Cond.selects RX4 yX4_lengthOf yX4_lengthOf, Cond.methodLink RX4 33 yX4_valueAt, Cond.instanceMethod yX4_valueAt, Cond.selects RX4 yX4_valueAt yX4_valueAt, Cond.methodLink RX4 37 yX4_append, Cond.instanceMethod yX4_append, Cond.selects RX4 yX4_append yX4_append]
def wz_k163_X4_takeFrom : List Cond := .code yX4_takeFrom cX4_takeFrom 4 none :: (wo_k163_X4_takeFrom ++ (wsX40 ++ (wz_k164_X4_open ++ (wz_k165_X4_lengthOf ++ (wz_k166_X4_valueAt ++ (wz_k167_X4_append ++ ([] : List Cond)))))))
theorem zg_k163_X4_takeFrom : ∀ w ∈ wz_k163_X4_takeFrom, goodWord w = true := zg_cons rfl (zg_app (by decide +kernel) (zg_app zgU_wsX40 (zg_app zg_k164_X4_open (zg_app zg_k165_X4_lengthOf (zg_app zg_k166_X4_valueAt (zg_app zg_k167_X4_append zg_nil))))))
theorem zi_k163_X4_takeFrom : ∀ w ∈ wz_k163_X4_takeFrom, w ∈ lw_tbl := zi_cons zw_754 (zi_app (zi_cons zw_219 (zi_cons zw_755 (zi_cons zw_715 (zi_cons zw_716 (zi_cons zw_108 (zi_cons zw_756 (zi_cons zw_757 (zi_cons zw_758 (zi_cons zw_760 (zi_cons zw_761 (zi_cons zw_762 (zi_cons zw_764 (zi_cons zw_743 (zi_cons zw_744 zi_nil)))))))))))))) (zi_app inX4 (zi_app zi_k164_X4_open (zi_app zi_k165_X4_lengthOf (zi_app zi_k166_X4_valueAt (zi_app zi_k167_X4_append zi_nil))))))
set_option maxHeartbeats 4000000 in
set_option maxRecDepth 100000 in
theorem k163_X4_takeFrom (l : Launch) (D : va_G) (zt : Nat × Nat × Nat × (Nat → Nat) × (Nat → Nat)) (q : Nat → Nat) (d : Nat → ClassId) (I : Nat → Int32) (A : Nat → Nat → Int32) (hIv : IvX I A) : GM l D zt (tyX d) yX4_takeFrom wz_k163_X4_takeFrom ({ frames := 3, cells := 0, slots := 0, locals := 64 } : Room) [.ref (q 15), .ref (q 8)] (wX q d I A) (fun v _ w' => ∃ (I' : Nat → Int32) (A' : Nat → Nat → Int32), Md [19] I I' ∧ Md [8, 9] A A' ∧ IvX I' A' ∧ v = none ∧ w' = wX q d I' A') 0 0 := by
  refine GM.of (cc := cX4_takeFrom) (maxL := 4) (ret := none) (own := RX4) (lv := [(0, .ref (q 15)), (1, .ref (q 8))]) (by decide) rfl rfl (Nat.le_of_ble_eq_true rfl) rfl (fun κ sz hk hR hN => ?_)
  have hin4 : ∀ w ∈ u_ws RX4 TX4 3, w ∈ wz_k163_X4_takeFrom := fun w h => (List.mem_cons_of_mem _ (List.mem_append_right _ (List.mem_append_left _ h)))
  refine g_aload_n hk dX4_takeFrom_0 rfl ?_
  refine g_iconst (v := 0) hk dX4_takeFrom_1 (by decide) ?_
  refine pX_i19 hk hin4 (List.mem_cons_of_mem _ (List.mem_append_left _ (List.mem_of_getElem? (i := 0) rfl))) dX4_takeFrom_2 ?_
  refine g_iconst (v := 0) hk dX4_takeFrom_5 (by decide) ?_
  refine g_istore_n (lv' := [(2, .int 0), (0, .ref (q 15)), (1, .ref (q 8))]) hk dX4_takeFrom_6 (by decide) rfl ?_
  have lp1763 : ∀ (n1764 : Nat) (x1402 : Int32) (I1405 : Nat → Int32) (A1405 : Nat → Nat → Int32), (Md [19] (upd I 19 0) I1405) → (Md [8, 9] A A1405) → (IvX I1405 A1405) → (0 ≤ x1402.toInt) → ((I 16).toInt + 1 - x1402.toInt < (n1764 : Int)) → (0 < n1764) → GW κ 4 0 0 (wX q d I1405 A1405) 7 [(2, .int x1402), (0, .ref (q 15)), (1, .ref (q 8))] [] := by
    intro n1764
    induction n1764 with
    | zero =>
      intro x1402 I1405 A1405 hI1405 hA1405 hV1405 h1762 m1765 m1765z
      exact absurd m1765z (Nat.lt_irrefl 0)
    | succ n1764 ih1766 =>
      intro x1402 I1405 A1405 hI1405 hA1405 hV1405 h1762 m1765 m1765z
      refine g_iload_n hk dX4_takeFrom_7 rfl ?_
      refine g_aload_n hk dX4_takeFrom_8 rfl ?_
      refine gX_i16 (v := (I 16)) hk hin4 (List.mem_cons_of_mem _ (List.mem_append_left _ (List.mem_of_getElem? (i := 0) rfl))) dX4_takeFrom_9 (hI1405 16 rfl) ?_
      have b1767l := Int32.le_toInt x1402
      have b1767h := Int32.toInt_lt x1402
      have b1768l := Int32.le_toInt (I 16)
      have b1768h := Int32.toInt_lt (I 16)
      refine g_icmp_ge (tgt := 52) (a := x1402.toInt) (b := (I 16).toInt) hk dX4_takeFrom_12 (by decide) rfl rfl (fun c1769 => ?_) (fun c1769 => ?_)
      · skip
        exact g_vret hk hR ⟨I1405, A1405, (show Md [19] I I1405 from (Md.tr (Md.up Md.rf rfl) hI1405 rfl)), (show Md [8, 9] A A1405 from (Md.tr Md.rf hA1405 rfl)), hV1405, rfl, rfl⟩ dX4_takeFrom_52
      · skip
        refine g_aload_n hk dX4_takeFrom_15 rfl ?_
        refine g_callV (n := 0) hk (k164_X4_open l D zt q d I1405 A1405  hV1405) (SP.same _) (fun _ h => h) (gi_V (List.mem_cons_of_mem _ (List.mem_append_left _ (List.mem_of_getElem? (i := 1) rfl))) (List.mem_cons_of_mem _ (List.mem_append_left _ (List.mem_of_getElem? (i := 2) rfl))) (List.mem_cons_of_mem _ (List.mem_append_left _ (List.mem_of_getElem? (i := 3) rfl))) (List.mem_cons_of_mem _ (List.mem_append_left _ (List.mem_of_getElem? (i := 4) rfl))) (gi_sub (fun w h => (List.mem_cons_of_mem _ (List.mem_append_right _ (List.mem_append_right _ (List.mem_append_left _ h))))) zg_k164_X4_open)) rfl rfl rfl (by decide +kernel) ⟨Nat.le_of_ble_eq_true rfl, Nat.le_of_ble_eq_true rfl⟩ 15 rfl rfl rfl rfl (Nat.le_of_ble_eq_true rfl) ⟨Nat.le_of_ble_eq_true rfl, Nat.le_of_ble_eq_true rfl⟩ dX4_takeFrom_16 (fun v ty' w' hp hk' => ?_)
        obtain ⟨I1771, A1771, hI1771, hA1771, hV1771, rfl, rfl⟩ := hp
        show GW κ 4 0 0 (wX q d I1771 A1771) 19 [(2, .int x1402), (0, .ref (q 15)), (1, .ref (q 8))] []
        refine g_iconst (v := 0) hk dX4_takeFrom_19 (by decide) ?_
        refine g_istore_n (lv' := [(3, .int 0), (2, .int x1402), (0, .ref (q 15)), (1, .ref (q 8))]) hk dX4_takeFrom_20 (by decide) rfl ?_
        have lp1849 : ∀ (n1850 : Nat) (x1772 : Int32) (I1776 : Nat → Int32) (A1776 : Nat → Nat → Int32), (Md [] I1771 I1776) → (Md [8, 9] A1771 A1776) → (IvX I1776 A1776) → (0 ≤ x1772.toInt) → (x1772.toInt ≤ 16) → (17 - x1772.toInt < (n1850 : Int)) → (0 < n1850) → GW κ 4 0 0 (wX q d I1776 A1776) 21 [(3, .int x1772), (2, .int x1402), (0, .ref (q 15)), (1, .ref (q 8))] [] := by
          intro n1850
          induction n1850 with
          | zero =>
            intro x1772 I1776 A1776 hI1776 hA1776 hV1776 h1847 h1848 m1851 m1851z
            exact absurd m1851z (Nat.lt_irrefl 0)
          | succ n1850 ih1852 =>
            intro x1772 I1776 A1776 hI1776 hA1776 hV1776 h1847 h1848 m1851 m1851z
            refine g_iload_n hk dX4_takeFrom_21 rfl ?_
            refine g_aload_n hk dX4_takeFrom_22 rfl ?_
            refine g_iload_n hk dX4_takeFrom_23 rfl ?_
            refine g_callV (n := 1) hk (k165_X4_lengthOf l D zt q d I1776 A1776 x1402 hV1776) (SP.same _) (fun _ h => h) (gi_V (List.mem_cons_of_mem _ (List.mem_append_left _ (List.mem_of_getElem? (i := 5) rfl))) (List.mem_cons_of_mem _ (List.mem_append_left _ (List.mem_of_getElem? (i := 6) rfl))) (List.mem_cons_of_mem _ (List.mem_append_left _ (List.mem_of_getElem? (i := 7) rfl))) (List.mem_cons_of_mem _ (List.mem_append_left _ (List.mem_of_getElem? (i := 4) rfl))) (gi_sub (fun w h => (List.mem_cons_of_mem _ (List.mem_append_right _ (List.mem_append_right _ (List.mem_append_right _ (List.mem_append_left _ h)))))) zg_k165_X4_lengthOf)) rfl rfl rfl (by decide +kernel) ⟨Nat.le_of_ble_eq_true rfl, Nat.le_of_ble_eq_true rfl⟩ 8 rfl rfl rfl rfl (Nat.le_of_ble_eq_true rfl) ⟨Nat.le_of_ble_eq_true rfl, Nat.le_of_ble_eq_true rfl⟩ dX4_takeFrom_24 (fun v ty' w' hp hk' => ?_)
            rcases hp with ⟨rfl, rfl⟩ | ⟨y1860, c1854, c1855, c1856, c1857, c1858, c1859, c1861, c1862, rfl, rfl⟩
            · skip
              show GW κ 4 0 0 (wX q d I1776 A1776) 27 [(3, .int x1772), (2, .int x1402), (0, .ref (q 15)), (1, .ref (q 8))] [.int 0, .int x1772]
              refine g_icmp_ge (tgt := 46) (a := x1772.toInt) (b := 0) hk dX4_takeFrom_27 (by decide) rfl rfl (fun _ => ?_) (fun z9 => absurd (show 0 ≤ x1772.toInt from by omega) z9)
              obtain ⟨y1863, ey1863⟩ : ∃ y : Int32, y = x1402 + Int32.ofInt 1 := ⟨_, rfl⟩
              have hy1863 : y1863.toInt = x1402.toInt + 1 := i32_add ey1863 rfl (by decide) (by omega) (by omega)
              refine g_iinc (v := y1863) (lv' := [(2, .int y1863), (3, .int x1772), (0, .ref (q 15)), (1, .ref (q 8))]) hk 1 dX4_takeFrom_46 rfl ey1863.symm (by decide) rfl ?_
              refine g_goto (tgt := 7) hk dX4_takeFrom_49 (by decide) ?_
              exact g_lv (List.forall_mem_cons.mpr ⟨List.mem_of_getElem? (i := 0) rfl, (List.forall_mem_cons.mpr ⟨List.mem_of_getElem? (i := 2) rfl, (List.forall_mem_cons.mpr ⟨List.mem_of_getElem? (i := 3) rfl, (fun _ h => absurd h List.not_mem_nil)⟩)⟩)⟩) (ih1766 y1863 I1776 A1776 (show Md [19] (upd I 19 0) I1776 from Md.tr hI1405 (show Md [19] I1405 I1776 from (Md.tr (Md.tr Md.rf hI1771 rfl) hI1776 rfl)) rfl) (show Md [8, 9] A A1776 from Md.tr hA1405 (show Md [8, 9] A1405 A1776 from (Md.tr (Md.tr Md.rf hA1771 rfl) hA1776 rfl)) rfl) hV1776 (by omega) (by omega) (by omega))
            · skip
              show GW κ 4 0 0 (wX q d I1776 A1776) 27 [(3, .int x1772), (2, .int x1402), (0, .ref (q 15)), (1, .ref (q 8))] [.int y1860, .int x1772]
              refine g_icmp_ge (tgt := 46) (a := x1772.toInt) (b := y1860.toInt) hk dX4_takeFrom_27 (by decide) rfl rfl (fun c1864 => ?_) (fun c1864 => ?_)
              · skip
                obtain ⟨y1865, ey1865⟩ : ∃ y : Int32, y = x1402 + Int32.ofInt 1 := ⟨_, rfl⟩
                have hy1865 : y1865.toInt = x1402.toInt + 1 := i32_add ey1865 rfl (by decide) (by omega) (by omega)
                refine g_iinc (v := y1865) (lv' := [(2, .int y1865), (3, .int x1772), (0, .ref (q 15)), (1, .ref (q 8))]) hk 1 dX4_takeFrom_46 rfl ey1865.symm (by decide) rfl ?_
                refine g_goto (tgt := 7) hk dX4_takeFrom_49 (by decide) ?_
                exact g_lv (List.forall_mem_cons.mpr ⟨List.mem_of_getElem? (i := 0) rfl, (List.forall_mem_cons.mpr ⟨List.mem_of_getElem? (i := 2) rfl, (List.forall_mem_cons.mpr ⟨List.mem_of_getElem? (i := 3) rfl, (fun _ h => absurd h List.not_mem_nil)⟩)⟩)⟩) (ih1766 y1865 I1776 A1776 (show Md [19] (upd I 19 0) I1776 from Md.tr hI1405 (show Md [19] I1405 I1776 from (Md.tr (Md.tr Md.rf hI1771 rfl) hI1776 rfl)) rfl) (show Md [8, 9] A A1776 from Md.tr hA1405 (show Md [8, 9] A1405 A1776 from (Md.tr (Md.tr Md.rf hA1771 rfl) hA1776 rfl)) rfl) hV1776 (by omega) (by omega) (by omega))
              · skip
                refine g_aload_n hk dX4_takeFrom_30 rfl ?_
                refine g_aload_n hk dX4_takeFrom_31 rfl ?_
                refine g_iload_n hk dX4_takeFrom_32 rfl ?_
                refine g_iload_n hk dX4_takeFrom_33 rfl ?_
                refine g_callV (n := 2) hk (k166_X4_valueAt l D zt q d I1776 A1776 x1402 x1772 hV1776) (SP.same _) (fun _ h => h) (gi_V (List.mem_cons_of_mem _ (List.mem_append_left _ (List.mem_of_getElem? (i := 8) rfl))) (List.mem_cons_of_mem _ (List.mem_append_left _ (List.mem_of_getElem? (i := 9) rfl))) (List.mem_cons_of_mem _ (List.mem_append_left _ (List.mem_of_getElem? (i := 10) rfl))) (List.mem_cons_of_mem _ (List.mem_append_left _ (List.mem_of_getElem? (i := 4) rfl))) (gi_sub (fun w h => (List.mem_cons_of_mem _ (List.mem_append_right _ (List.mem_append_right _ (List.mem_append_right _ (List.mem_append_right _ (List.mem_append_left _ h))))))) zg_k166_X4_valueAt)) rfl rfl rfl (by decide +kernel) ⟨Nat.le_of_ble_eq_true rfl, Nat.le_of_ble_eq_true rfl⟩ 8 rfl rfl rfl rfl (Nat.le_of_ble_eq_true rfl) ⟨Nat.le_of_ble_eq_true rfl, Nat.le_of_ble_eq_true rfl⟩ dX4_takeFrom_34 (fun v ty' w' hp hk' => ?_)
                obtain ⟨y1866, rfl, rfl⟩ := hp
                show GW κ 4 0 0 (wX q d I1776 A1776) 37 [(3, .int x1772), (2, .int x1402), (0, .ref (q 15)), (1, .ref (q 8))] [.int y1866, .ref (q 15)]
                refine g_callV (n := 1) hk (k167_X4_append l D zt q d I1776 A1776 y1866 hV1776) (SP.same _) (fun _ h => h) (gi_V (List.mem_cons_of_mem _ (List.mem_append_left _ (List.mem_of_getElem? (i := 11) rfl))) (List.mem_cons_of_mem _ (List.mem_append_left _ (List.mem_of_getElem? (i := 12) rfl))) (List.mem_cons_of_mem _ (List.mem_append_left _ (List.mem_of_getElem? (i := 13) rfl))) (List.mem_cons_of_mem _ (List.mem_append_left _ (List.mem_of_getElem? (i := 4) rfl))) (gi_sub (fun w h => (List.mem_cons_of_mem _ (List.mem_append_right _ (List.mem_append_right _ (List.mem_append_right _ (List.mem_append_right _ (List.mem_append_right _ (List.mem_append_left _ h)))))))) zg_k167_X4_append)) rfl rfl rfl (by decide +kernel) ⟨Nat.le_of_ble_eq_true rfl, Nat.le_of_ble_eq_true rfl⟩ 15 rfl rfl rfl rfl (Nat.le_of_ble_eq_true rfl) ⟨Nat.le_of_ble_eq_true rfl, Nat.le_of_ble_eq_true rfl⟩ dX4_takeFrom_37 (fun v ty' w' hp hk' => ?_)
                obtain ⟨I1868, A1868, hI1868, hA1868, hV1868, rfl, rfl⟩ := hp
                show GW κ 4 0 0 (wX q d I1868 A1868) 40 [(3, .int x1772), (2, .int x1402), (0, .ref (q 15)), (1, .ref (q 8))] []
                obtain ⟨y1869, ey1869⟩ : ∃ y : Int32, y = x1772 + Int32.ofInt 1 := ⟨_, rfl⟩
                have hy1869 : y1869.toInt = x1772.toInt + 1 := i32_add ey1869 rfl (by decide) (by omega) (by omega)
                refine g_iinc (v := y1869) (lv' := [(3, .int y1869), (2, .int x1402), (0, .ref (q 15)), (1, .ref (q 8))]) hk 0 dX4_takeFrom_40 rfl ey1869.symm (by decide) rfl ?_
                refine g_goto (tgt := 21) hk dX4_takeFrom_43 (by decide) ?_
                exact g_lv (List.forall_mem_cons.mpr ⟨List.mem_of_getElem? (i := 0) rfl, (List.forall_mem_cons.mpr ⟨List.mem_of_getElem? (i := 1) rfl, (List.forall_mem_cons.mpr ⟨List.mem_of_getElem? (i := 2) rfl, (List.forall_mem_cons.mpr ⟨List.mem_of_getElem? (i := 3) rfl, (fun _ h => absurd h List.not_mem_nil)⟩)⟩)⟩)⟩) (ih1852 y1869 I1868 A1868 (show Md [] I1771 I1868 from Md.tr hI1776 (show Md [] I1776 I1868 from (Md.tr Md.rf hI1868 rfl)) rfl) (show Md [8, 9] A1771 A1868 from Md.tr hA1776 (show Md [8, 9] A1776 A1868 from (Md.tr Md.rf hA1868 rfl)) rfl) hV1868 (by omega) (by omega) (by omega) (by omega))
        have k1871 : (0 : Int32).toInt = 0 := rfl
        obtain ⟨n1870, n1870a, n1870b⟩ : ∃ n : Nat, 17 - 0 < (n : Int) ∧ 0 < n := ⟨((17 - 0 : Int)).toNat + 1, by omega, by omega⟩
        exact lp1849 n1870 0 I1771 A1771 Md.rf Md.rf hV1771 (by omega) (by omega) n1870a n1870b
  have k1873 : (0 : Int32).toInt = 0 := rfl
  obtain ⟨n1872, n1872a, n1872b⟩ : ∃ n : Nat, (I 16).toInt + 1 - 0 < (n : Int) ∧ 0 < n := ⟨(((I 16).toInt + 1 - 0 : Int)).toNat + 1, by omega, by omega⟩
  exact lp1763 n1872 0 (upd I 19 0) A Md.rf Md.rf ⟨(IvX_f0 (I := I) (A := A) hIv), (IvX_f18 (I := I) (A := A) hIv), (IvX_f30 (I := I) (A := A) hIv), (IvX_f31 (I := I) (A := A) hIv), (IvX_a4 (I := I) (A := A) hIv), (IvX_a9 (I := I) (A := A) hIv), trivial⟩ (by omega) n1872a n1872b
def wo_k171_X8_valueAt : List Cond := [Cond.fieldLink RX8 22 "WarpDesk$Stand" "size" "I", Cond.fieldLink RX8 9 "WarpDesk$Stand" "places" "[I"]
def wz_k171_X8_valueAt : List Cond := .code yX8_valueAt cX8_valueAt 2 (some .int) :: (wo_k171_X8_valueAt ++ (wsX80 ++ ([] : List Cond)))
theorem zg_k171_X8_valueAt : ∀ w ∈ wz_k171_X8_valueAt, goodWord w = true := zg_cons rfl (zg_app (by decide +kernel) (zg_app zgU_wsX80 zg_nil))
theorem zi_k171_X8_valueAt : ∀ w ∈ wz_k171_X8_valueAt, w ∈ lw_tbl := zi_cons zw_776 (zi_app (zi_cons zw_195 (zi_cons zw_194 zi_nil)) (zi_app inX8 zi_nil))
set_option maxHeartbeats 4000000 in
set_option maxRecDepth 100000 in
theorem k171_X8_valueAt (l : Launch) (D : va_G) (zt : Nat × Nat × Nat × (Nat → Nat) × (Nat → Nat)) (q : Nat → Nat) (d : Nat → ClassId) (I : Nat → Int32) (A : Nat → Nat → Int32) (z1 : Int32) (hIv : IvX I A) : GM l D zt (tyX d) yX8_valueAt wz_k171_X8_valueAt ({ frames := 0, cells := 0, slots := 0, locals := 0 } : Room) [.ref (q 4), .int z1] (wX q d I A) (fun v _ w' => ∃ y0 : Int32, v = some (.int y0) ∧ w' = wX q d I A) 0 0 := by
  refine GM.of (cc := cX8_valueAt) (maxL := 2) (ret := (some .int)) (own := RX8) (lv := [(0, .ref (q 4)), (1, .int z1)]) (by decide) rfl rfl (Nat.le_of_ble_eq_true rfl) rfl (fun κ sz hk hR hN => ?_)
  have hin8 : ∀ w ∈ u_ws RX8 TX8 4, w ∈ wz_k171_X8_valueAt := fun w h => (List.mem_cons_of_mem _ (List.mem_append_right _ (List.mem_append_left _ h)))
  refine g_iload_n hk dX8_valueAt_0 rfl ?_
  have b1882l := Int32.le_toInt z1
  have b1882h := Int32.toInt_lt z1
  refine g_if_lt (tgt := 30) (a := z1.toInt) hk dX8_valueAt_1 (by decide) rfl (fun c1883 => ?_) (fun c1883 => ?_)
  · skip
    refine g_sipush (v := (-1000)) hk dX8_valueAt_30 (by decide) ?_
    exact g_iret hk hR rfl ⟨(-1000), rfl, rfl⟩ dX8_valueAt_33
  · skip
    refine g_iload_n hk dX8_valueAt_4 rfl ?_
    refine g_aload_n hk dX8_valueAt_5 rfl ?_
    refine gX_i14 (v := (I 14)) hk hin8 (List.mem_cons_of_mem _ (List.mem_append_left _ (List.mem_of_getElem? (i := 0) rfl))) dX8_valueAt_6 rfl ?_
    have b1884l := Int32.le_toInt (I 14)
    have b1884h := Int32.toInt_lt (I 14)
    refine g_icmp_ge (tgt := 30) (a := z1.toInt) (b := (I 14).toInt) hk dX8_valueAt_9 (by decide) rfl rfl (fun c1885 => ?_) (fun c1885 => ?_)
    · skip
      refine g_sipush (v := (-1000)) hk dX8_valueAt_30 (by decide) ?_
      exact g_iret hk hR rfl ⟨(-1000), rfl, rfl⟩ dX8_valueAt_33
    · skip
      refine g_iload_n hk dX8_valueAt_12 rfl ?_
      refine g_aload_n hk dX8_valueAt_13 rfl ?_
      refine gX_r4_0 hk hin8 (List.mem_cons_of_mem _ (List.mem_append_left _ (List.mem_of_getElem? (i := 1) rfl))) dX8_valueAt_14 ?_
      refine nX_1 hk dX8_valueAt_17 ?_
      refine g_icmp_ge (tgt := 30) (a := z1.toInt) (b := 160) hk dX8_valueAt_18 (by decide) rfl rfl (fun c1886 => ?_) (fun c1886 => ?_)
      · skip
        refine g_sipush (v := (-1000)) hk dX8_valueAt_30 (by decide) ?_
        exact g_iret hk hR rfl ⟨(-1000), rfl, rfl⟩ dX8_valueAt_33
      · skip
        refine g_aload_n hk dX8_valueAt_21 rfl ?_
        refine gX_r4_0 hk hin8 (List.mem_cons_of_mem _ (List.mem_append_left _ (List.mem_of_getElem? (i := 1) rfl))) dX8_valueAt_22 ?_
        refine g_iload_n hk dX8_valueAt_25 rfl ?_
        refine lX_1 (v := (A 1 z1.toNatClampNeg)) hk (vp_in_iff.mpr ⟨by omega, by omega⟩) rfl dX8_valueAt_26 ?_
        refine g_goto (tgt := 33) hk dX8_valueAt_27 (by decide) ?_
        have b1887l := Int32.le_toInt (A 1 z1.toNatClampNeg)
        have b1887h := Int32.toInt_lt (A 1 z1.toNatClampNeg)
        exact g_iret hk hR rfl ⟨(A 1 z1.toNatClampNeg), rfl, rfl⟩ dX8_valueAt_33
def wo_k172_X6_append : List Cond := [Cond.fieldLink RX6 19 "WarpDesk$Series" "size" "I", Cond.fieldLink RX6 11 "WarpDesk$Series" "ring" "[I", Cond.fieldLink RX6 15 "WarpDesk$Series" "first" "I"]
def wz_k172_X6_append : List Cond := .code yX6_append cX6_append 2 (some .boolean) :: (wo_k172_X6_append ++ (wsX60 ++ ([] : List Cond)))
theorem zg_k172_X6_append : ∀ w ∈ wz_k172_X6_append, goodWord w = true := zg_cons rfl (zg_app (by decide +kernel) (zg_app zgU_wsX60 zg_nil))
theorem zi_k172_X6_append : ∀ w ∈ wz_k172_X6_append, w ∈ lw_tbl := zi_cons zw_780 (zi_app (zi_cons zw_282 (zi_cons zw_280 (zi_cons zw_281 zi_nil))) (zi_app inX6 zi_nil))
set_option maxHeartbeats 4000000 in
set_option maxRecDepth 100000 in
theorem k172_X6_append (l : Launch) (D : va_G) (zt : Nat × Nat × Nat × (Nat → Nat) × (Nat → Nat)) (q : Nat → Nat) (d : Nat → ClassId) (I : Nat → Int32) (A : Nat → Nat → Int32) (z1 : Int32) (hIv : IvX I A) : GM l D zt (tyX d) yX6_append wz_k172_X6_append ({ frames := 0, cells := 0, slots := 0, locals := 0 } : Room) [.ref (q 13), .int z1] (wX q d I A) (fun v _ w' => ∃ (I' : Nat → Int32) (A' : Nat → Nat → Int32), Md [18] I I' ∧ Md [7] A A' ∧ IvX I' A' ∧ ∃ y0 : Int32, (0 ≤ y0.toInt) ∧ (y0.toInt ≤ 1) ∧ v = some (.int y0) ∧ w' = wX q d I' A') 0 0 := by
  refine GM.of (cc := cX6_append) (maxL := 2) (ret := (some .boolean)) (own := RX6) (lv := [(0, .ref (q 13)), (1, .int z1)]) (by decide) rfl rfl (Nat.le_of_ble_eq_true rfl) rfl (fun κ sz hk hR hN => ?_)
  have hin6 : ∀ w ∈ u_ws RX6 TX6 3, w ∈ wz_k172_X6_append := fun w h => (List.mem_cons_of_mem _ (List.mem_append_right _ (List.mem_append_left _ h)))
  refine g_aload_n hk dX6_append_0 rfl ?_
  refine gX_i18 (v := (I 18)) hk hin6 (List.mem_cons_of_mem _ (List.mem_append_left _ (List.mem_of_getElem? (i := 0) rfl))) dX6_append_1 rfl ?_
  have f1890 := IvX_f18 hIv
  refine g_sipush (v := 160) hk dX6_append_4 (by decide) ?_
  refine g_icmp_lt (tgt := 12) (a := (I 18).toInt) (b := 160) hk dX6_append_7 (by decide) rfl rfl (fun c1891 => ?_) (fun c1891 => ?_)
  · skip
    refine g_aload_n hk dX6_append_12 rfl ?_
    refine gX_r13_0 hk hin6 (List.mem_cons_of_mem _ (List.mem_append_left _ (List.mem_of_getElem? (i := 1) rfl))) dX6_append_13 ?_
    refine g_aload_n hk dX6_append_16 rfl ?_
    refine gX_i17 (v := (I 17)) hk hin6 (List.mem_cons_of_mem _ (List.mem_append_left _ (List.mem_of_getElem? (i := 2) rfl))) dX6_append_17 rfl ?_
    refine g_aload_n hk dX6_append_20 rfl ?_
    refine gX_i18 (v := (I 18)) hk hin6 (List.mem_cons_of_mem _ (List.mem_append_left _ (List.mem_of_getElem? (i := 0) rfl))) dX6_append_21 rfl ?_
    have b1892l := Int32.le_toInt (I 17)
    have b1892h := Int32.toInt_lt (I 17)
    refine g_iadd hk dX6_append_24 ?_
    refine g_topi (fun y1893 ey1893 => ?_)
    refine g_sipush (v := 255) hk dX6_append_25 (by decide) ?_
    have b1894l := Int32.le_toInt y1893
    have b1894h := Int32.toInt_lt y1893
    refine g_iand hk dX6_append_28 ?_
    refine g_topi (fun y1895 ey1895 => ?_)
    have hy1895 : 0 ≤ y1895.toInt ∧ y1895.toInt ≤ 255 := i32_mask 8 ey1895 (by decide) (by decide)
    refine g_iload_n hk dX6_append_29 rfl ?_
    refine sX_7 (j := y1895.toNatClampNeg) hk (vp_in_iff.mpr ⟨by omega, by omega⟩) rfl dX6_append_30 ?_
    refine g_aload_n hk dX6_append_31 rfl ?_
    refine g_dup hk dX6_append_32 rfl ?_
    refine gX_i18 (v := (I 18)) hk hin6 (List.mem_cons_of_mem _ (List.mem_append_left _ (List.mem_of_getElem? (i := 0) rfl))) dX6_append_33 rfl ?_
    refine g_iconst (v := 1) hk dX6_append_36 (by decide) ?_
    refine g_iadd hk dX6_append_37 ?_
    refine g_topi (fun y1896 ey1896 => ?_)
    have hy1896 : y1896.toInt = (I 18).toInt + 1 := i32_add ey1896 rfl rfl (by omega) (by omega)
    refine pX_i18 hk hin6 (List.mem_cons_of_mem _ (List.mem_append_left _ (List.mem_of_getElem? (i := 0) rfl))) dX6_append_38 ?_
    refine g_iconst (v := 1) hk dX6_append_41 (by decide) ?_
    exact g_iret hk hR rfl ⟨(upd I 18 y1896), (up3 A 7 (y1895.toNatClampNeg) z1), (show Md [18] I (upd I 18 y1896) from (Md.up Md.rf rfl)), (show Md [7] A (up3 A 7 (y1895.toNatClampNeg) z1) from (Md.up3 Md.rf rfl)), ⟨(IvX_f0 (I := I) (A := A) hIv), (show 0 ≤ y1896.toInt ∧ y1896.toInt ≤ 160 from ⟨by omega, by omega⟩), (IvX_f30 (I := I) (A := A) hIv), (IvX_f31 (I := I) (A := A) hIv), (IvX_a4 (I := I) (A := A) hIv), (IvX_a9 (I := I) (A := A) hIv), trivial⟩, 1, (by decide), (by decide), rfl, rfl⟩ dX6_append_42
  · skip
    refine g_iconst (v := 0) hk dX6_append_10 (by decide) ?_
    exact g_iret hk hR rfl ⟨I, A, (show Md [18] I I from Md.rf), (show Md [7] A A from Md.rf), hIv, 0, (by decide), (by decide), rfl, rfl⟩ dX6_append_11
def wo_k170_X6_takeFrom : List Cond := [Cond.fieldLink RX6 15 "WarpDesk$Series" "first" "I", Cond.fieldLink RX6 19 "WarpDesk$Series" "size" "I", Cond.fieldLink RX6 22 "WarpDesk$Stand" "size" "I", Cond.methodLink RX6 25 yX8_valueAt, Cond.instanceMethod yX8_valueAt, Cond.selects RX8 yX8_valueAt yX8_valueAt, Cond.initialized RX8, Cond.methodLink RX6 29 yX6_append, Cond.instanceMethod yX6_append, Cond.selects RX6 yX6_append yX6_append, Cond.initialized RX6]
def wz_k170_X6_takeFrom : List Cond := .code yX6_takeFrom cX6_takeFrom 3 none :: (wo_k170_X6_takeFrom ++ (wsX60 ++ (wsX80 ++ (wz_k171_X8_valueAt ++ (wz_k172_X6_append ++ ([] : List Cond))))))
theorem zg_k170_X6_takeFrom : ∀ w ∈ wz_k170_X6_takeFrom, goodWord w = true := zg_cons rfl (zg_app (by decide +kernel) (zg_app zgU_wsX60 (zg_app zgU_wsX80 (zg_app zg_k171_X8_valueAt (zg_app zg_k172_X6_append zg_nil)))))
theorem zi_k170_X6_takeFrom : ∀ w ∈ wz_k170_X6_takeFrom, w ∈ lw_tbl := zi_cons zw_772 (zi_app (zi_cons zw_281 (zi_cons zw_282 (zi_cons zw_196 (zi_cons zw_773 (zi_cons zw_774 (zi_cons zw_775 (zi_cons zw_106 (zi_cons zw_777 (zi_cons zw_778 (zi_cons zw_779 (zi_cons zw_109 zi_nil))))))))))) (zi_app inX6 (zi_app inX8 (zi_app zi_k171_X8_valueAt (zi_app zi_k172_X6_append zi_nil)))))
set_option maxHeartbeats 4000000 in
set_option maxRecDepth 100000 in
theorem k170_X6_takeFrom (l : Launch) (D : va_G) (zt : Nat × Nat × Nat × (Nat → Nat) × (Nat → Nat)) (q : Nat → Nat) (d : Nat → ClassId) (I : Nat → Int32) (A : Nat → Nat → Int32) (hIv : IvX I A) : GM l D zt (tyX d) yX6_takeFrom wz_k170_X6_takeFrom ({ frames := 1, cells := 0, slots := 0, locals := 21 } : Room) [.ref (q 13), .ref (q 4)] (wX q d I A) (fun v _ w' => ∃ (I' : Nat → Int32) (A' : Nat → Nat → Int32), Md [17, 18] I I' ∧ Md [7] A A' ∧ IvX I' A' ∧ v = none ∧ w' = wX q d I' A') 0 0 := by
  refine GM.of (cc := cX6_takeFrom) (maxL := 3) (ret := none) (own := RX6) (lv := [(0, .ref (q 13)), (1, .ref (q 4))]) (by decide) rfl rfl (Nat.le_of_ble_eq_true rfl) rfl (fun κ sz hk hR hN => ?_)
  have hin6 : ∀ w ∈ u_ws RX6 TX6 3, w ∈ wz_k170_X6_takeFrom := fun w h => (List.mem_cons_of_mem _ (List.mem_append_right _ (List.mem_append_left _ h)))
  have hin8 : ∀ w ∈ u_ws RX8 TX8 4, w ∈ wz_k170_X6_takeFrom := fun w h => (List.mem_cons_of_mem _ (List.mem_append_right _ (List.mem_append_right _ (List.mem_append_left _ h))))
  refine g_aload_n hk dX6_takeFrom_0 rfl ?_
  refine g_iconst (v := 0) hk dX6_takeFrom_1 (by decide) ?_
  refine pX_i17 hk hin6 (List.mem_cons_of_mem _ (List.mem_append_left _ (List.mem_of_getElem? (i := 0) rfl))) dX6_takeFrom_2 ?_
  refine g_aload_n hk dX6_takeFrom_5 rfl ?_
  refine g_iconst (v := 0) hk dX6_takeFrom_6 (by decide) ?_
  refine pX_i18 hk hin6 (List.mem_cons_of_mem _ (List.mem_append_left _ (List.mem_of_getElem? (i := 1) rfl))) dX6_takeFrom_7 ?_
  refine g_iconst (v := 0) hk dX6_takeFrom_10 (by decide) ?_
  refine g_istore_n (lv' := [(2, .int 0), (0, .ref (q 13)), (1, .ref (q 4))]) hk dX6_takeFrom_11 (by decide) rfl ?_
  have lp1919 : ∀ (n1920 : Nat) (x1876 : Int32) (I1879 : Nat → Int32) (A1879 : Nat → Nat → Int32), (Md [17, 18] (upd (upd I 17 0) 18 0) I1879) → (Md [7] A A1879) → (IvX I1879 A1879) → (0 ≤ x1876.toInt) → ((I 14).toInt + 1 - x1876.toInt < (n1920 : Int)) → (0 < n1920) → GW κ 3 0 0 (wX q d I1879 A1879) 12 [(2, .int x1876), (0, .ref (q 13)), (1, .ref (q 4))] [] := by
    intro n1920
    induction n1920 with
    | zero =>
      intro x1876 I1879 A1879 hI1879 hA1879 hV1879 h1918 m1921 m1921z
      exact absurd m1921z (Nat.lt_irrefl 0)
    | succ n1920 ih1922 =>
      intro x1876 I1879 A1879 hI1879 hA1879 hV1879 h1918 m1921 m1921z
      refine g_iload_n hk dX6_takeFrom_12 rfl ?_
      refine g_aload_n hk dX6_takeFrom_13 rfl ?_
      refine gX_i14 (v := (I 14)) hk hin8 (List.mem_cons_of_mem _ (List.mem_append_left _ (List.mem_of_getElem? (i := 2) rfl))) dX6_takeFrom_14 (hI1879 14 rfl) ?_
      have b1923l := Int32.le_toInt x1876
      have b1923h := Int32.toInt_lt x1876
      have b1924l := Int32.le_toInt (I 14)
      have b1924h := Int32.toInt_lt (I 14)
      refine g_icmp_ge (tgt := 36) (a := x1876.toInt) (b := (I 14).toInt) hk dX6_takeFrom_17 (by decide) rfl rfl (fun c1925 => ?_) (fun c1925 => ?_)
      · skip
        exact g_vret hk hR ⟨I1879, A1879, (show Md [17, 18] I I1879 from (Md.tr (Md.up (Md.up Md.rf rfl) rfl) hI1879 rfl)), (show Md [7] A A1879 from (Md.tr Md.rf hA1879 rfl)), hV1879, rfl, rfl⟩ dX6_takeFrom_36
      · skip
        refine g_aload_n hk dX6_takeFrom_20 rfl ?_
        refine g_aload_n hk dX6_takeFrom_21 rfl ?_
        refine g_iload_n hk dX6_takeFrom_22 rfl ?_
        refine g_callV (n := 1) hk (k171_X8_valueAt l D zt q d I1879 A1879 x1876 hV1879) (SP.same _) (fun _ h => h) (gi_V (List.mem_cons_of_mem _ (List.mem_append_left _ (List.mem_of_getElem? (i := 3) rfl))) (List.mem_cons_of_mem _ (List.mem_append_left _ (List.mem_of_getElem? (i := 4) rfl))) (List.mem_cons_of_mem _ (List.mem_append_left _ (List.mem_of_getElem? (i := 5) rfl))) (List.mem_cons_of_mem _ (List.mem_append_left _ (List.mem_of_getElem? (i := 6) rfl))) (gi_sub (fun w h => (List.mem_cons_of_mem _ (List.mem_append_right _ (List.mem_append_right _ (List.mem_append_right _ (List.mem_append_left _ h)))))) zg_k171_X8_valueAt)) rfl rfl rfl (by decide +kernel) ⟨Nat.le_of_ble_eq_true rfl, Nat.le_of_ble_eq_true rfl⟩ 4 rfl rfl rfl rfl (Nat.le_of_ble_eq_true rfl) ⟨Nat.le_of_ble_eq_true rfl, Nat.le_of_ble_eq_true rfl⟩ dX6_takeFrom_23 (fun v ty' w' hp hk' => ?_)
        obtain ⟨y1926, rfl, rfl⟩ := hp
        show GW κ 3 0 0 (wX q d I1879 A1879) 26 [(2, .int x1876), (0, .ref (q 13)), (1, .ref (q 4))] [.int y1926, .ref (q 13)]
        refine g_callV (n := 1) hk (k172_X6_append l D zt q d I1879 A1879 y1926 hV1879) (SP.same _) (fun _ h => h) (gi_V (List.mem_cons_of_mem _ (List.mem_append_left _ (List.mem_of_getElem? (i := 7) rfl))) (List.mem_cons_of_mem _ (List.mem_append_left _ (List.mem_of_getElem? (i := 8) rfl))) (List.mem_cons_of_mem _ (List.mem_append_left _ (List.mem_of_getElem? (i := 9) rfl))) (List.mem_cons_of_mem _ (List.mem_append_left _ (List.mem_of_getElem? (i := 10) rfl))) (gi_sub (fun w h => (List.mem_cons_of_mem _ (List.mem_append_right _ (List.mem_append_right _ (List.mem_append_right _ (List.mem_append_right _ (List.mem_append_left _ h))))))) zg_k172_X6_append)) rfl rfl rfl (by decide +kernel) ⟨Nat.le_of_ble_eq_true rfl, Nat.le_of_ble_eq_true rfl⟩ 13 rfl rfl rfl rfl (Nat.le_of_ble_eq_true rfl) ⟨Nat.le_of_ble_eq_true rfl, Nat.le_of_ble_eq_true rfl⟩ dX6_takeFrom_26 (fun v ty' w' hp hk' => ?_)
        obtain ⟨I1930, A1930, hI1930, hA1930, hV1930, y1927, c1928, c1929, rfl, rfl⟩ := hp
        show GW κ 3 0 0 (wX q d I1930 A1930) 29 [(2, .int x1876), (0, .ref (q 13)), (1, .ref (q 4))] [.int y1927]
        refine g_pop hk dX6_takeFrom_29 rfl ?_
        obtain ⟨y1931, ey1931⟩ : ∃ y : Int32, y = x1876 + Int32.ofInt 1 := ⟨_, rfl⟩
        have hy1931 : y1931.toInt = x1876.toInt + 1 := i32_add ey1931 rfl (by decide) (by omega) (by omega)
        refine g_iinc (v := y1931) (lv' := [(2, .int y1931), (0, .ref (q 13)), (1, .ref (q 4))]) hk 0 dX6_takeFrom_30 rfl ey1931.symm (by decide) rfl ?_
        refine g_goto (tgt := 12) hk dX6_takeFrom_33 (by decide) ?_
        exact g_lv (List.forall_mem_cons.mpr ⟨List.mem_of_getElem? (i := 0) rfl, (List.forall_mem_cons.mpr ⟨List.mem_of_getElem? (i := 1) rfl, (List.forall_mem_cons.mpr ⟨List.mem_of_getElem? (i := 2) rfl, (fun _ h => absurd h List.not_mem_nil)⟩)⟩)⟩) (ih1922 y1931 I1930 A1930 (show Md [17, 18] (upd (upd I 17 0) 18 0) I1930 from Md.tr hI1879 (show Md [17, 18] I1879 I1930 from (Md.tr Md.rf hI1930 rfl)) rfl) (show Md [7] A A1930 from Md.tr hA1879 (show Md [7] A1879 A1930 from (Md.tr Md.rf hA1930 rfl)) rfl) hV1930 (by omega) (by omega) (by omega))
  have k1933 : (0 : Int32).toInt = 0 := rfl
  obtain ⟨n1932, n1932a, n1932b⟩ : ∃ n : Nat, (I 14).toInt + 1 - 0 < (n : Int) ∧ 0 < n := ⟨(((I 14).toInt + 1 - 0 : Int)).toNat + 1, by omega, by omega⟩
  exact lp1919 n1932 0 (upd (upd I 17 0) 18 0) A Md.rf Md.rf ⟨(IvX_f0 (I := I) (A := A) hIv), (show 0 ≤ (0 : Int32).toInt ∧ (0 : Int32).toInt ≤ 160 from ⟨by decide, by decide⟩), (IvX_f30 (I := I) (A := A) hIv), (IvX_f31 (I := I) (A := A) hIv), (IvX_a4 (I := I) (A := A) hIv), (IvX_a9 (I := I) (A := A) hIv), trivial⟩ (by omega) n1932a n1932b
def wo_k174_X7_valueOf : List Cond := [Cond.fieldLink RX7 20 "WarpDesk$Settings" "values" "[I"]
def wz_k174_X7_valueOf : List Cond := .code yX7_valueOf cX7_valueOf 2 (some .int) :: (wo_k174_X7_valueOf ++ (wsX70 ++ ([] : List Cond)))
theorem zg_k174_X7_valueOf : ∀ w ∈ wz_k174_X7_valueOf, goodWord w = true := zg_cons rfl (zg_app (by decide +kernel) (zg_app zgU_wsX70 zg_nil))
theorem zi_k174_X7_valueOf : ∀ w ∈ wz_k174_X7_valueOf, w ∈ lw_tbl := zi_cons zw_788 (zi_app (zi_cons zw_190 zi_nil) (zi_app inX7 zi_nil))
set_option maxHeartbeats 4000000 in
set_option maxRecDepth 100000 in
theorem k174_X7_valueOf (l : Launch) (D : va_G) (zt : Nat × Nat × Nat × (Nat → Nat) × (Nat → Nat)) (q : Nat → Nat) (d : Nat → ClassId) (I : Nat → Int32) (A : Nat → Nat → Int32) (z1 : Int32) (hIv : IvX I A) : GM l D zt (tyX d) yX7_valueOf wz_k174_X7_valueOf ({ frames := 0, cells := 0, slots := 0, locals := 0 } : Room) [.ref (q 6), .int z1] (wX q d I A) (fun v _ w' => ∃ y0 : Int32, v = some (.int y0) ∧ w' = wX q d I A) 0 0 := by
  refine GM.of (cc := cX7_valueOf) (maxL := 2) (ret := (some .int)) (own := RX7) (lv := [(0, .ref (q 6)), (1, .int z1)]) (by decide) rfl rfl (Nat.le_of_ble_eq_true rfl) rfl (fun κ sz hk hR hN => ?_)
  have hin7 : ∀ w ∈ u_ws RX7 TX7 1, w ∈ wz_k174_X7_valueOf := fun w h => (List.mem_cons_of_mem _ (List.mem_append_right _ (List.mem_append_left _ h)))
  refine g_iload_n hk dX7_valueOf_0 rfl ?_
  have b1940l := Int32.le_toInt z1
  have b1940h := Int32.toInt_lt z1
  refine g_if_lt (tgt := 22) (a := z1.toInt) hk dX7_valueOf_1 (by decide) rfl (fun c1941 => ?_) (fun c1941 => ?_)
  · skip
    refine g_iconst (v := (-1)) hk dX7_valueOf_22 (by decide) ?_
    exact g_iret hk hR rfl ⟨(-1), rfl, rfl⟩ dX7_valueOf_23
  · skip
    refine g_iload_n hk dX7_valueOf_4 rfl ?_
    refine g_aload_n hk dX7_valueOf_5 rfl ?_
    refine gX_r6_0 hk hin7 (List.mem_cons_of_mem _ (List.mem_append_left _ (List.mem_of_getElem? (i := 0) rfl))) dX7_valueOf_6 ?_
    refine nX_2 hk dX7_valueOf_9 ?_
    refine g_icmp_ge (tgt := 22) (a := z1.toInt) (b := 4) hk dX7_valueOf_10 (by decide) rfl rfl (fun c1942 => ?_) (fun c1942 => ?_)
    · skip
      refine g_iconst (v := (-1)) hk dX7_valueOf_22 (by decide) ?_
      exact g_iret hk hR rfl ⟨(-1), rfl, rfl⟩ dX7_valueOf_23
    · skip
      refine g_aload_n hk dX7_valueOf_13 rfl ?_
      refine gX_r6_0 hk hin7 (List.mem_cons_of_mem _ (List.mem_append_left _ (List.mem_of_getElem? (i := 0) rfl))) dX7_valueOf_14 ?_
      refine g_iload_n hk dX7_valueOf_17 rfl ?_
      refine lX_2 (v := (A 2 z1.toNatClampNeg)) hk (vp_in_iff.mpr ⟨by omega, by omega⟩) rfl dX7_valueOf_18 ?_
      refine g_goto (tgt := 23) hk dX7_valueOf_19 (by decide) ?_
      have b1943l := Int32.le_toInt (A 2 z1.toNatClampNeg)
      have b1943h := Int32.toInt_lt (A 2 z1.toNatClampNeg)
      exact g_iret hk hR rfl ⟨(A 2 z1.toNatClampNeg), rfl, rfl⟩ dX7_valueOf_23
def wo_k173_X7_takeFrom : List Cond := [Cond.fieldLink RX7 20 "WarpDesk$Settings" "values" "[I", Cond.methodLink RX7 33 yX7_valueOf, Cond.instanceMethod yX7_valueOf, Cond.selects RX7 yX7_valueOf yX7_valueOf, Cond.initialized RX7]
def wz_k173_X7_takeFrom : List Cond := .code yX7_takeFrom cX7_takeFrom 3 none :: (wo_k173_X7_takeFrom ++ (wsX70 ++ (wz_k174_X7_valueOf ++ ([] : List Cond))))
theorem zg_k173_X7_takeFrom : ∀ w ∈ wz_k173_X7_takeFrom, goodWord w = true := zg_cons rfl (zg_app (by decide +kernel) (zg_app zgU_wsX70 (zg_app zg_k174_X7_valueOf zg_nil)))
theorem zi_k173_X7_takeFrom : ∀ w ∈ wz_k173_X7_takeFrom, w ∈ lw_tbl := zi_cons zw_784 (zi_app (zi_cons zw_190 (zi_cons zw_785 (zi_cons zw_786 (zi_cons zw_787 (zi_cons zw_107 zi_nil))))) (zi_app inX7 (zi_app zi_k174_X7_valueOf zi_nil)))
set_option maxHeartbeats 4000000 in
set_option maxRecDepth 100000 in
theorem k173_X7_takeFrom (l : Launch) (D : va_G) (zt : Nat × Nat × Nat × (Nat → Nat) × (Nat → Nat)) (q : Nat → Nat) (d : Nat → ClassId) (I : Nat → Int32) (A : Nat → Nat → Int32) (hIv : IvX I A) : GM l D zt (tyX d) yX7_takeFrom wz_k173_X7_takeFrom ({ frames := 1, cells := 0, slots := 0, locals := 21 } : Room) [.ref (q 18), .ref (q 6)] (wX q d I A) (fun v _ w' => ∃ (I' : Nat → Int32) (A' : Nat → Nat → Int32), Md [] I I' ∧ Md [10] A A' ∧ IvX I' A' ∧ v = none ∧ w' = wX q d I' A') 0 0 := by
  refine GM.of (cc := cX7_takeFrom) (maxL := 3) (ret := none) (own := RX7) (lv := [(0, .ref (q 18)), (1, .ref (q 6))]) (by decide) rfl rfl (Nat.le_of_ble_eq_true rfl) rfl (fun κ sz hk hR hN => ?_)
  have hin7 : ∀ w ∈ u_ws RX7 TX7 1, w ∈ wz_k173_X7_takeFrom := fun w h => (List.mem_cons_of_mem _ (List.mem_append_right _ (List.mem_append_left _ h)))
  refine g_iconst (v := 0) hk dX7_takeFrom_0 (by decide) ?_
  refine g_istore_n (lv' := [(2, .int 0), (0, .ref (q 18)), (1, .ref (q 6))]) hk dX7_takeFrom_1 (by decide) rfl ?_
  have lp1957 : ∀ (n1958 : Nat) (x1936 : Int32) (I1939 : Nat → Int32) (A1939 : Nat → Nat → Int32), (Md [] I I1939) → (Md [10] A A1939) → (IvX I1939 A1939) → (0 ≤ x1936.toInt) → (x1936.toInt ≤ 4) → (5 - x1936.toInt < (n1958 : Int)) → (0 < n1958) → GW κ 3 0 0 (wX q d I1939 A1939) 2 [(2, .int x1936), (0, .ref (q 18)), (1, .ref (q 6))] [] := by
    intro n1958
    induction n1958 with
    | zero =>
      intro x1936 I1939 A1939 hI1939 hA1939 hV1939 h1955 h1956 m1959 m1959z
      exact absurd m1959z (Nat.lt_irrefl 0)
    | succ n1958 ih1960 =>
      intro x1936 I1939 A1939 hI1939 hA1939 hV1939 h1955 h1956 m1959 m1959z
      refine g_iload_n hk dX7_takeFrom_2 rfl ?_
      refine g_aload_n hk dX7_takeFrom_3 rfl ?_
      refine gX_r18_0 hk hin7 (List.mem_cons_of_mem _ (List.mem_append_left _ (List.mem_of_getElem? (i := 0) rfl))) dX7_takeFrom_4 ?_
      refine nX_10 hk dX7_takeFrom_7 ?_
      refine g_icmp_ge (tgt := 28) (a := x1936.toInt) (b := 4) hk dX7_takeFrom_8 (by decide) rfl rfl (fun c1961 => ?_) (fun c1961 => ?_)
      · skip
        exact g_vret hk hR ⟨I1939, A1939, (show Md [] I I1939 from (Md.tr Md.rf hI1939 rfl)), (show Md [10] A A1939 from (Md.tr Md.rf hA1939 rfl)), hV1939, rfl, rfl⟩ dX7_takeFrom_28
      · skip
        refine g_aload_n hk dX7_takeFrom_11 rfl ?_
        refine gX_r18_0 hk hin7 (List.mem_cons_of_mem _ (List.mem_append_left _ (List.mem_of_getElem? (i := 0) rfl))) dX7_takeFrom_12 ?_
        refine g_iload_n hk dX7_takeFrom_15 rfl ?_
        refine g_aload_n hk dX7_takeFrom_16 rfl ?_
        refine g_iload_n hk dX7_takeFrom_17 rfl ?_
        refine g_callV (n := 1) hk (k174_X7_valueOf l D zt q d I1939 A1939 x1936 hV1939) (SP.same _) (fun _ h => h) (gi_V (List.mem_cons_of_mem _ (List.mem_append_left _ (List.mem_of_getElem? (i := 1) rfl))) (List.mem_cons_of_mem _ (List.mem_append_left _ (List.mem_of_getElem? (i := 2) rfl))) (List.mem_cons_of_mem _ (List.mem_append_left _ (List.mem_of_getElem? (i := 3) rfl))) (List.mem_cons_of_mem _ (List.mem_append_left _ (List.mem_of_getElem? (i := 4) rfl))) (gi_sub (fun w h => (List.mem_cons_of_mem _ (List.mem_append_right _ (List.mem_append_right _ (List.mem_append_left _ h))))) zg_k174_X7_valueOf)) rfl rfl rfl (by decide +kernel) ⟨Nat.le_of_ble_eq_true rfl, Nat.le_of_ble_eq_true rfl⟩ 6 rfl rfl rfl rfl (Nat.le_of_ble_eq_true rfl) ⟨Nat.le_of_ble_eq_true rfl, Nat.le_of_ble_eq_true rfl⟩ dX7_takeFrom_18 (fun v ty' w' hp hk' => ?_)
        obtain ⟨y1962, rfl, rfl⟩ := hp
        show GW κ 3 0 0 (wX q d I1939 A1939) 21 [(2, .int x1936), (0, .ref (q 18)), (1, .ref (q 6))] [.int y1962, .int x1936, .ref (q 19)]
        refine sX_10 (j := x1936.toNatClampNeg) hk (vp_in_iff.mpr ⟨by omega, by omega⟩) rfl dX7_takeFrom_21 ?_
        obtain ⟨y1963, ey1963⟩ : ∃ y : Int32, y = x1936 + Int32.ofInt 1 := ⟨_, rfl⟩
        have hy1963 : y1963.toInt = x1936.toInt + 1 := i32_add ey1963 rfl (by decide) (by omega) (by omega)
        refine g_iinc (v := y1963) (lv' := [(2, .int y1963), (0, .ref (q 18)), (1, .ref (q 6))]) hk 0 dX7_takeFrom_22 rfl ey1963.symm (by decide) rfl ?_
        refine g_goto (tgt := 2) hk dX7_takeFrom_25 (by decide) ?_
        exact g_lv (List.forall_mem_cons.mpr ⟨List.mem_of_getElem? (i := 0) rfl, (List.forall_mem_cons.mpr ⟨List.mem_of_getElem? (i := 1) rfl, (List.forall_mem_cons.mpr ⟨List.mem_of_getElem? (i := 2) rfl, (fun _ h => absurd h List.not_mem_nil)⟩)⟩)⟩) (ih1960 y1963 I1939 (up3 A1939 10 (x1936.toNatClampNeg) y1962) (show Md [] I I1939 from Md.tr hI1939 (show Md [] I1939 I1939 from Md.rf) rfl) (show Md [10] A (up3 A1939 10 (x1936.toNatClampNeg) y1962) from Md.tr hA1939 (show Md [10] A1939 (up3 A1939 10 (x1936.toNatClampNeg) y1962) from (Md.up3 Md.rf rfl)) rfl) ⟨(IvX_f0 (I := I1939) (A := A1939) hV1939), (IvX_f18 (I := I1939) (A := A1939) hV1939), (IvX_f30 (I := I1939) (A := A1939) hV1939), (IvX_f31 (I := I1939) (A := A1939) hV1939), (IvX_a4 (I := I1939) (A := A1939) hV1939), (IvX_a9 (I := I1939) (A := A1939) hV1939), trivial⟩ (by omega) (by omega) (by omega) (by omega))
  have k1965 : (0 : Int32).toInt = 0 := rfl
  obtain ⟨n1964, n1964a, n1964b⟩ : ∃ n : Nat, 5 - 0 < (n : Int) ∧ 0 < n := ⟨((5 - 0 : Int)).toNat + 1, by omega, by omega⟩
  exact lp1957 n1964 0 I A Md.rf Md.rf hIv (by omega) (by omega) n1964a n1964b
def wo_k175_X3_forget : List Cond := [Cond.fieldLink RX3 19 "WarpDesk$Past" "size" "I"]
def wz_k175_X3_forget : List Cond := .code yX3_forget cX3_forget 1 none :: (wo_k175_X3_forget ++ (wsX30 ++ ([] : List Cond)))
theorem zg_k175_X3_forget : ∀ w ∈ wz_k175_X3_forget, goodWord w = true := zg_cons rfl (zg_app (by decide +kernel) (zg_app zgU_wsX30 zg_nil))
theorem zi_k175_X3_forget : ∀ w ∈ wz_k175_X3_forget, w ∈ lw_tbl := zi_cons zw_792 (zi_app (zi_cons zw_306 zi_nil) (zi_app inX3 zi_nil))
set_option maxHeartbeats 4000000 in
set_option maxRecDepth 100000 in
theorem k175_X3_forget (l : Launch) (D : va_G) (zt : Nat × Nat × Nat × (Nat → Nat) × (Nat → Nat)) (q : Nat → Nat) (d : Nat → ClassId) (I : Nat → Int32) (A : Nat → Nat → Int32) (hIv : IvX I A) : GM l D zt (tyX d) yX3_forget wz_k175_X3_forget ({ frames := 0, cells := 0, slots := 0, locals := 0 } : Room) [.ref (q 20)] (wX q d I A) (fun v _ w' => ∃ (I' : Nat → Int32) (A' : Nat → Nat → Int32), Md [21] I I' ∧ Md [] A A' ∧ IvX I' A' ∧ v = none ∧ w' = wX q d I' A') 0 0 := by
  refine GM.of (cc := cX3_forget) (maxL := 1) (ret := none) (own := RX3) (lv := [(0, .ref (q 20))]) (by decide) rfl rfl (Nat.le_of_ble_eq_true rfl) rfl (fun κ sz hk hR hN => ?_)
  have hin3 : ∀ w ∈ u_ws RX3 TX3 5, w ∈ wz_k175_X3_forget := fun w h => (List.mem_cons_of_mem _ (List.mem_append_right _ (List.mem_append_left _ h)))
  refine g_aload_n hk dX3_forget_0 rfl ?_
  refine g_iconst (v := 0) hk dX3_forget_1 (by decide) ?_
  refine pX_i21 hk hin3 (List.mem_cons_of_mem _ (List.mem_append_left _ (List.mem_of_getElem? (i := 0) rfl))) dX3_forget_2 ?_
  exact g_vret hk hR ⟨(upd I 21 0), A, (show Md [21] I (upd I 21 0) from (Md.up Md.rf rfl)), (show Md [] A A from Md.rf), ⟨(IvX_f0 (I := I) (A := A) hIv), (IvX_f18 (I := I) (A := A) hIv), (IvX_f30 (I := I) (A := A) hIv), (IvX_f31 (I := I) (A := A) hIv), (IvX_a4 (I := I) (A := A) hIv), (IvX_a9 (I := I) (A := A) hIv), trivial⟩, rfl, rfl⟩ dX3_forget_5
def wo_k169_X11_goOnFrom : List Cond := [Cond.fieldLink RX11 28 "WarpDesk" "series" "LWarpDesk$Series;", Cond.methodLink RX11 369 yX6_takeFrom, Cond.instanceMethod yX6_takeFrom, Cond.selects RX6 yX6_takeFrom yX6_takeFrom, Cond.initialized RX6, Cond.fieldLink RX11 42 "WarpDesk" "settings" "LWarpDesk$Settings;", Cond.fieldLink RX11 365 "WarpDesk$Stand" "settings" "LWarpDesk$Settings;", Cond.methodLink RX11 366 yX7_takeFrom, Cond.instanceMethod yX7_takeFrom, Cond.selects RX7 yX7_takeFrom yX7_takeFrom, Cond.initialized RX7, Cond.fieldLink RX11 49 "WarpDesk" "past" "LWarpDesk$Past;", Cond.methodLink RX11 371 yX3_forget, Cond.instanceMethod yX3_forget, Cond.selects RX3 yX3_forget yX3_forget, Cond.initialized RX3]
def wz_k169_X11_goOnFrom : List Cond := .code yX11_goOnFrom cX11_goOnFrom 2 none :: (wo_k169_X11_goOnFrom ++ (wsX80 ++ (wsX110 ++ (wz_k170_X6_takeFrom ++ (wz_k173_X7_takeFrom ++ (wz_k175_X3_forget ++ ([] : List Cond)))))))
theorem zg_k169_X11_goOnFrom : ∀ w ∈ wz_k169_X11_goOnFrom, goodWord w = true := zg_cons rfl (zg_app (by decide +kernel) (zg_app zgU_wsX80 (zg_app zgU_wsX110 (zg_app zg_k170_X6_takeFrom (zg_app zg_k173_X7_takeFrom (zg_app zg_k175_X3_forget zg_nil))))))
theorem zi_k169_X11_goOnFrom : ∀ w ∈ wz_k169_X11_goOnFrom, w ∈ lw_tbl := zi_cons zw_768 (zi_app (zi_cons zw_489 (zi_cons zw_769 (zi_cons zw_770 (zi_cons zw_771 (zi_cons zw_109 (zi_cons zw_491 (zi_cons zw_200 (zi_cons zw_781 (zi_cons zw_782 (zi_cons zw_783 (zi_cons zw_107 (zi_cons zw_492 (zi_cons zw_789 (zi_cons zw_790 (zi_cons zw_791 (zi_cons zw_110 zi_nil)))))))))))))))) (zi_app inX8 (zi_app inX11 (zi_app zi_k170_X6_takeFrom (zi_app zi_k173_X7_takeFrom (zi_app zi_k175_X3_forget zi_nil))))))
set_option maxHeartbeats 4000000 in
set_option maxRecDepth 100000 in
theorem k169_X11_goOnFrom (l : Launch) (D : va_G) (zt : Nat × Nat × Nat × (Nat → Nat) × (Nat → Nat)) (q : Nat → Nat) (d : Nat → ClassId) (I : Nat → Int32) (A : Nat → Nat → Int32) (hIv : IvX I A) : GM l D zt (tyX d) yX11_goOnFrom wz_k169_X11_goOnFrom ({ frames := 2, cells := 0, slots := 0, locals := 43 } : Room) [.ref (q 0), .ref (q 4)] (wX q d I A) (fun v _ w' => ∃ (I' : Nat → Int32) (A' : Nat → Nat → Int32), Md [17, 18, 21] I I' ∧ Md [7, 10] A A' ∧ IvX I' A' ∧ v = none ∧ w' = wX q d I' A') 0 0 := by
  refine GM.of (cc := cX11_goOnFrom) (maxL := 2) (ret := none) (own := RX11) (lv := [(0, .ref (q 0)), (1, .ref (q 4))]) (by decide) rfl rfl (Nat.le_of_ble_eq_true rfl) rfl (fun κ sz hk hR hN => ?_)
  have hin8 : ∀ w ∈ u_ws RX8 TX8 4, w ∈ wz_k169_X11_goOnFrom := fun w h => (List.mem_cons_of_mem _ (List.mem_append_right _ (List.mem_append_left _ h)))
  have hin11 : ∀ w ∈ u_ws RX11 TX11 10, w ∈ wz_k169_X11_goOnFrom := fun w h => (List.mem_cons_of_mem _ (List.mem_append_right _ (List.mem_append_right _ (List.mem_append_left _ h))))
  refine g_aload_n hk dX11_goOnFrom_0 rfl ?_
  refine gX_r0_2 hk hin11 (List.mem_cons_of_mem _ (List.mem_append_left _ (List.mem_of_getElem? (i := 0) rfl))) dX11_goOnFrom_1 ?_
  refine g_aload_n hk dX11_goOnFrom_4 rfl ?_
  refine g_callV (n := 1) hk (k170_X6_takeFrom l D zt q d I A  hIv) (SP.same _) (fun _ h => h) (gi_V (List.mem_cons_of_mem _ (List.mem_append_left _ (List.mem_of_getElem? (i := 1) rfl))) (List.mem_cons_of_mem _ (List.mem_append_left _ (List.mem_of_getElem? (i := 2) rfl))) (List.mem_cons_of_mem _ (List.mem_append_left _ (List.mem_of_getElem? (i := 3) rfl))) (List.mem_cons_of_mem _ (List.mem_append_left _ (List.mem_of_getElem? (i := 4) rfl))) (gi_sub (fun w h => (List.mem_cons_of_mem _ (List.mem_append_right _ (List.mem_append_right _ (List.mem_append_right _ (List.mem_append_left _ h)))))) zg_k170_X6_takeFrom)) rfl rfl rfl (by decide +kernel) ⟨Nat.le_of_ble_eq_true rfl, Nat.le_of_ble_eq_true rfl⟩ 13 rfl rfl rfl rfl (Nat.le_of_ble_eq_true rfl) ⟨Nat.le_of_ble_eq_true rfl, Nat.le_of_ble_eq_true rfl⟩ dX11_goOnFrom_5 (fun v ty' w' hp hk' => ?_)
  obtain ⟨I1935, A1935, hI1935, hA1935, hV1935, rfl, rfl⟩ := hp
  show GW κ 2 0 0 (wX q d I1935 A1935) 8 [(0, .ref (q 0)), (1, .ref (q 4))] []
  refine g_aload_n hk dX11_goOnFrom_8 rfl ?_
  refine gX_r0_4 hk hin11 (List.mem_cons_of_mem _ (List.mem_append_left _ (List.mem_of_getElem? (i := 5) rfl))) dX11_goOnFrom_9 ?_
  refine g_aload_n hk dX11_goOnFrom_12 rfl ?_
  refine gX_r4_2 hk hin8 (List.mem_cons_of_mem _ (List.mem_append_left _ (List.mem_of_getElem? (i := 6) rfl))) dX11_goOnFrom_13 ?_
  refine g_callV (n := 1) hk (k173_X7_takeFrom l D zt q d I1935 A1935  hV1935) (SP.same _) (fun _ h => h) (gi_V (List.mem_cons_of_mem _ (List.mem_append_left _ (List.mem_of_getElem? (i := 7) rfl))) (List.mem_cons_of_mem _ (List.mem_append_left _ (List.mem_of_getElem? (i := 8) rfl))) (List.mem_cons_of_mem _ (List.mem_append_left _ (List.mem_of_getElem? (i := 9) rfl))) (List.mem_cons_of_mem _ (List.mem_append_left _ (List.mem_of_getElem? (i := 10) rfl))) (gi_sub (fun w h => (List.mem_cons_of_mem _ (List.mem_append_right _ (List.mem_append_right _ (List.mem_append_right _ (List.mem_append_right _ (List.mem_append_left _ h))))))) zg_k173_X7_takeFrom)) rfl rfl rfl (by decide +kernel) ⟨Nat.le_of_ble_eq_true rfl, Nat.le_of_ble_eq_true rfl⟩ 18 rfl rfl rfl rfl (Nat.le_of_ble_eq_true rfl) ⟨Nat.le_of_ble_eq_true rfl, Nat.le_of_ble_eq_true rfl⟩ dX11_goOnFrom_16 (fun v ty' w' hp hk' => ?_)
  obtain ⟨I1967, A1967, hI1967, hA1967, hV1967, rfl, rfl⟩ := hp
  show GW κ 2 0 0 (wX q d I1967 A1967) 19 [(0, .ref (q 0)), (1, .ref (q 4))] []
  refine g_aload_n hk dX11_goOnFrom_19 rfl ?_
  refine gX_r0_5 hk hin11 (List.mem_cons_of_mem _ (List.mem_append_left _ (List.mem_of_getElem? (i := 11) rfl))) dX11_goOnFrom_20 ?_
  refine g_callV (n := 0) hk (k175_X3_forget l D zt q d I1967 A1967  hV1967) (SP.same _) (fun _ h => h) (gi_V (List.mem_cons_of_mem _ (List.mem_append_left _ (List.mem_of_getElem? (i := 12) rfl))) (List.mem_cons_of_mem _ (List.mem_append_left _ (List.mem_of_getElem? (i := 13) rfl))) (List.mem_cons_of_mem _ (List.mem_append_left _ (List.mem_of_getElem? (i := 14) rfl))) (List.mem_cons_of_mem _ (List.mem_append_left _ (List.mem_of_getElem? (i := 15) rfl))) (gi_sub (fun w h => (List.mem_cons_of_mem _ (List.mem_append_right _ (List.mem_append_right _ (List.mem_append_right _ (List.mem_append_right _ (List.mem_append_right _ (List.mem_append_left _ h)))))))) zg_k175_X3_forget)) rfl rfl rfl (by decide +kernel) ⟨Nat.le_of_ble_eq_true rfl, Nat.le_of_ble_eq_true rfl⟩ 20 rfl rfl rfl rfl (Nat.le_of_ble_eq_true rfl) ⟨Nat.le_of_ble_eq_true rfl, Nat.le_of_ble_eq_true rfl⟩ dX11_goOnFrom_23 (fun v ty' w' hp hk' => ?_)
  obtain ⟨I1969, A1969, hI1969, hA1969, hV1969, rfl, rfl⟩ := hp
  show GW κ 2 0 0 (wX q d I1969 A1969) 26 [(0, .ref (q 0)), (1, .ref (q 4))] []
  exact g_vret hk hR ⟨I1969, A1969, (show Md [17, 18, 21] I I1969 from (Md.tr (Md.tr (Md.tr Md.rf hI1935 rfl) hI1967 rfl) hI1969 rfl)), (show Md [7, 10] A A1969 from (Md.tr (Md.tr (Md.tr Md.rf hA1935 rfl) hA1967 rfl) hA1969 rfl)), hV1969, rfl, rfl⟩ dX11_goOnFrom_26
def wo_k116_X11_read : List Cond := [Cond.fieldLink RX11 21 "WarpDesk" "reader" "LWarpDesk$Reader;", Cond.methodLink RX11 93 yX5_readText, Cond.instanceMethod yX5_readText, Cond.selects RX5 yX5_readText yX5_readText, Cond.initialized RX5, Cond.fieldLink RX11 10 "WarpDesk" "tape" "LWarpDesk$Tape;", Cond.fieldLink RX11 85 "WarpDesk$Tape" "size" "I", Cond.fieldLink RX11 35 "WarpDesk" "queries" "LWarpDesk$Queries;", Cond.fieldLink RX11 97 "WarpDesk$Reader" "queries" "LWarpDesk$Queries;", Cond.methodLink RX11 98 yX4_takeFrom, Cond.instanceMethod yX4_takeFrom, Cond.selects RX4 yX4_takeFrom yX4_takeFrom, Cond.initialized RX4, Cond.fieldLink RX11 102 "WarpDesk$Reader" "draft" "LWarpDesk$Stand;", Cond.methodLink RX11 106 yX11_goOnFrom, Cond.instanceMethod yX11_goOnFrom, Cond.selects RX11 yX11_goOnFrom yX11_goOnFrom, Cond.initialized RX11, Cond.fieldLink RX11 56 "WarpDesk" "slots" "[LWarpDesk$Stand;", Cond.fieldLink RX11 110 "WarpDesk$Stand" "held" "Z"]
def wz_k116_X11_read : List Cond := .code yX11_read cX11_read 3 (some .int) :: (wo_k116_X11_read ++ (wsX50 ++ (wsX80 ++ (wsX100 ++ (wsX110 ++ (wz_k117_X5_readText ++ (wz_k163_X4_takeFrom ++ (wz_k169_X11_goOnFrom ++ ([] : List Cond)))))))))
theorem zg_k116_X11_read : ∀ w ∈ wz_k116_X11_read, goodWord w = true := zg_cons rfl (zg_app (by decide +kernel) (zg_app zgU_wsX50 (zg_app zgU_wsX80 (zg_app zgU_wsX100 (zg_app zgU_wsX110 (zg_app zg_k117_X5_readText (zg_app zg_k163_X4_takeFrom (zg_app zg_k169_X11_goOnFrom zg_nil))))))))
theorem zi_k116_X11_read : ∀ w ∈ wz_k116_X11_read, w ∈ lw_tbl := zi_cons zw_533 (zi_app (zi_cons zw_488 (zi_cons zw_534 (zi_cons zw_535 (zi_cons zw_536 (zi_cons zw_105 (zi_cons zw_487 (zi_cons zw_136 (zi_cons zw_490 (zi_cons zw_234 (zi_cons zw_751 (zi_cons zw_752 (zi_cons zw_753 (zi_cons zw_108 (zi_cons zw_232 (zi_cons zw_765 (zi_cons zw_767 (zi_cons zw_22 (zi_cons zw_103 (zi_cons zw_493 (zi_cons zw_201 zi_nil)))))))))))))))))))) (zi_app inX5 (zi_app inX8 (zi_app inX10 (zi_app inX11 (zi_app zi_k117_X5_readText (zi_app zi_k163_X4_takeFrom (zi_app zi_k169_X11_goOnFrom zi_nil))))))))
set_option maxHeartbeats 4000000 in
set_option maxRecDepth 100000 in
theorem k116_X11_read (l : Launch) (D : va_G) (zt : Nat × Nat × Nat × (Nat → Nat) × (Nat → Nat)) (q : Nat → Nat) (d : Nat → ClassId) (I : Nat → Int32) (A : Nat → Nat → Int32) (hIv : IvX I A) : GM l D zt (tyX d) yX11_read wz_k116_X11_read ({ frames := 9, cells := 0, slots := 0, locals := 189 } : Room) [.ref (q 0)] (wX q d I A) (fun v _ w' => ∃ (I' : Nat → Int32) (A' : Nat → Nat → Int32), Md [0, 1, 2, 3, 4, 5, 6, 7, 8, 9, 10, 11, 12, 13, 14, 16, 17, 18, 19, 21, 23, 25, 27] I I' ∧ Md [1, 2, 3, 4, 5, 6, 7, 8, 9, 10] A A' ∧ IvX I' A' ∧ ∃ y0 : Int32, ((I' 0).toInt = 0) ∧ v = some (.int y0) ∧ w' = wX q d I' A') 0 0 := by
  refine GM.of (cc := cX11_read) (maxL := 3) (ret := (some .int)) (own := RX11) (lv := [(0, .ref (q 0))]) (by decide) rfl rfl (Nat.le_of_ble_eq_true rfl) rfl (fun κ sz hk hR hN => ?_)
  have hin5 : ∀ w ∈ u_ws RX5 TX5 13, w ∈ wz_k116_X11_read := fun w h => (List.mem_cons_of_mem _ (List.mem_append_right _ (List.mem_append_left _ h)))
  have hin8 : ∀ w ∈ u_ws RX8 TX8 4, w ∈ wz_k116_X11_read := fun w h => (List.mem_cons_of_mem _ (List.mem_append_right _ (List.mem_append_right _ (List.mem_append_left _ h))))
  have hin10 : ∀ w ∈ u_ws RX10 TX10 7, w ∈ wz_k116_X11_read := fun w h => (List.mem_cons_of_mem _ (List.mem_append_right _ (List.mem_append_right _ (List.mem_append_right _ (List.mem_append_left _ h)))))
  have hin11 : ∀ w ∈ u_ws RX11 TX11 10, w ∈ wz_k116_X11_read := fun w h => (List.mem_cons_of_mem _ (List.mem_append_right _ (List.mem_append_right _ (List.mem_append_right _ (List.mem_append_right _ (List.mem_append_left _ h))))))
  refine g_aload_n hk dX11_read_0 rfl ?_
  refine gX_r0_1 hk hin11 (List.mem_cons_of_mem _ (List.mem_append_left _ (List.mem_of_getElem? (i := 0) rfl))) dX11_read_1 ?_
  refine g_callV (n := 0) hk (k117_X5_readText l D zt q d I A  hIv) (SP.same _) (fun _ h => h) (gi_V (List.mem_cons_of_mem _ (List.mem_append_left _ (List.mem_of_getElem? (i := 1) rfl))) (List.mem_cons_of_mem _ (List.mem_append_left _ (List.mem_of_getElem? (i := 2) rfl))) (List.mem_cons_of_mem _ (List.mem_append_left _ (List.mem_of_getElem? (i := 3) rfl))) (List.mem_cons_of_mem _ (List.mem_append_left _ (List.mem_of_getElem? (i := 4) rfl))) (gi_sub (fun w h => (List.mem_cons_of_mem _ (List.mem_append_right _ (List.mem_append_right _ (List.mem_append_right _ (List.mem_append_right _ (List.mem_append_right _ (List.mem_append_left _ h)))))))) zg_k117_X5_readText)) rfl rfl rfl (by decide +kernel) ⟨Nat.le_of_ble_eq_true rfl, Nat.le_of_ble_eq_true rfl⟩ 3 rfl rfl rfl rfl (Nat.le_of_ble_eq_true rfl) ⟨Nat.le_of_ble_eq_true rfl, Nat.le_of_ble_eq_true rfl⟩ dX11_read_4 (fun v ty' w' hp hk' => ?_)
  obtain ⟨I1397, A1397, hI1397, hA1397, hV1397, y1396, rfl, rfl⟩ := hp
  show GW κ 3 0 0 (wX q d I1397 A1397) 7 [(0, .ref (q 0))] [.int y1396]
  refine g_istore_n (lv' := [(1, .int y1396), (0, .ref (q 0))]) hk dX11_read_7 (by decide) rfl ?_
  refine g_aload_n hk dX11_read_8 rfl ?_
  refine gX_r0_0 hk hin11 (List.mem_cons_of_mem _ (List.mem_append_left _ (List.mem_of_getElem? (i := 5) rfl))) dX11_read_9 ?_
  refine g_iconst (v := 0) hk dX11_read_12 (by decide) ?_
  refine pX_i0 hk hin10 (List.mem_cons_of_mem _ (List.mem_append_left _ (List.mem_of_getElem? (i := 6) rfl))) dX11_read_13 ?_
  refine g_iload_n hk dX11_read_16 rfl ?_
  have b1398l := Int32.le_toInt y1396
  have b1398h := Int32.toInt_lt y1396
  refine g_if_ne (tgt := 72) (a := y1396.toInt) hk dX11_read_17 (by decide) rfl (fun c1399 => ?_) (fun c1399 => ?_)
  · skip
    refine g_iload_n hk dX11_read_72 rfl ?_
    have k1400 : (0 : Int32).toInt = 0 := rfl
    have f1401 := IvX_f0 hIv
    exact g_iret hk hR rfl ⟨(upd I1397 0 0), A1397, (show Md [0, 1, 2, 3, 4, 5, 6, 7, 8, 9, 10, 11, 12, 13, 14, 16, 17, 18, 19, 21, 23, 25, 27] I (upd I1397 0 0) from (Md.up (Md.tr Md.rf hI1397 rfl) rfl)), (show Md [1, 2, 3, 4, 5, 6, 7, 8, 9, 10] A A1397 from (Md.tr Md.rf hA1397 rfl)), ⟨(show 0 ≤ (0 : Int32).toInt ∧ (0 : Int32).toInt ≤ 2000 from ⟨by decide, by decide⟩), (IvX_f18 (I := I1397) (A := A1397) hV1397), (IvX_f30 (I := I1397) (A := A1397) hV1397), (IvX_f31 (I := I1397) (A := A1397) hV1397), (IvX_a4 (I := I1397) (A := A1397) hV1397), (IvX_a9 (I := I1397) (A := A1397) hV1397), trivial⟩, y1396, (show (0 : Int32).toInt = 0 from by omega), rfl, rfl⟩ dX11_read_73
  · skip
    refine g_aload_n hk dX11_read_20 rfl ?_
    refine gX_r0_3 hk hin11 (List.mem_cons_of_mem _ (List.mem_append_left _ (List.mem_of_getElem? (i := 7) rfl))) dX11_read_21 ?_
    refine g_aload_n hk dX11_read_24 rfl ?_
    refine gX_r0_1 hk hin11 (List.mem_cons_of_mem _ (List.mem_append_left _ (List.mem_of_getElem? (i := 0) rfl))) dX11_read_25 ?_
    refine gX_r3_2 hk hin5 (List.mem_cons_of_mem _ (List.mem_append_left _ (List.mem_of_getElem? (i := 8) rfl))) dX11_read_28 ?_
    refine g_callV (n := 1) hk (k163_X4_takeFrom l D zt q d (upd I1397 0 0) A1397  ⟨(show 0 ≤ (0 : Int32).toInt ∧ (0 : Int32).toInt ≤ 2000 from ⟨by decide, by decide⟩), (IvX_f18 (I := I1397) (A := A1397) hV1397), (IvX_f30 (I := I1397) (A := A1397) hV1397), (IvX_f31 (I := I1397) (A := A1397) hV1397), (IvX_a4 (I := I1397) (A := A1397) hV1397), (IvX_a9 (I := I1397) (A := A1397) hV1397), trivial⟩) (SP.same _) (fun _ h => h) (gi_V (List.mem_cons_of_mem _ (List.mem_append_left _ (List.mem_of_getElem? (i := 9) rfl))) (List.mem_cons_of_mem _ (List.mem_append_left _ (List.mem_of_getElem? (i := 10) rfl))) (List.mem_cons_of_mem _ (List.mem_append_left _ (List.mem_of_getElem? (i := 11) rfl))) (List.mem_cons_of_mem _ (List.mem_append_left _ (List.mem_of_getElem? (i := 12) rfl))) (gi_sub (fun w h => (List.mem_cons_of_mem _ (List.mem_append_right _ (List.mem_append_right _ (List.mem_append_right _ (List.mem_append_right _ (List.mem_append_right _ (List.mem_append_right _ (List.mem_append_left _ h))))))))) zg_k163_X4_takeFrom)) rfl rfl rfl (by decide +kernel) ⟨Nat.le_of_ble_eq_true rfl, Nat.le_of_ble_eq_true rfl⟩ 15 rfl rfl rfl rfl (Nat.le_of_ble_eq_true rfl) ⟨Nat.le_of_ble_eq_true rfl, Nat.le_of_ble_eq_true rfl⟩ dX11_read_31 (fun v ty' w' hp hk' => ?_)
    obtain ⟨I1875, A1875, hI1875, hA1875, hV1875, rfl, rfl⟩ := hp
    show GW κ 3 0 0 (wX q d I1875 A1875) 34 [(1, .int y1396), (0, .ref (q 0))] []
    refine g_aload_n hk dX11_read_34 rfl ?_
    refine g_aload_n hk dX11_read_35 rfl ?_
    refine gX_r0_1 hk hin11 (List.mem_cons_of_mem _ (List.mem_append_left _ (List.mem_of_getElem? (i := 0) rfl))) dX11_read_36 ?_
    refine gX_r3_1 hk hin5 (List.mem_cons_of_mem _ (List.mem_append_left _ (List.mem_of_getElem? (i := 13) rfl))) dX11_read_39 ?_
    refine g_callV (n := 1) hk (k169_X11_goOnFrom l D zt q d I1875 A1875  hV1875) (SP.same _) (fun _ h => h) (gi_V (List.mem_cons_of_mem _ (List.mem_append_left _ (List.mem_of_getElem? (i := 14) rfl))) (List.mem_cons_of_mem _ (List.mem_append_left _ (List.mem_of_getElem? (i := 15) rfl))) (List.mem_cons_of_mem _ (List.mem_append_left _ (List.mem_of_getElem? (i := 16) rfl))) (List.mem_cons_of_mem _ (List.mem_append_left _ (List.mem_of_getElem? (i := 17) rfl))) (gi_sub (fun w h => (List.mem_cons_of_mem _ (List.mem_append_right _ (List.mem_append_right _ (List.mem_append_right _ (List.mem_append_right _ (List.mem_append_right _ (List.mem_append_right _ (List.mem_append_right _ (List.mem_append_left _ h)))))))))) zg_k169_X11_goOnFrom)) rfl rfl rfl (by decide +kernel) ⟨Nat.le_of_ble_eq_true rfl, Nat.le_of_ble_eq_true rfl⟩ 0 rfl rfl rfl rfl (Nat.le_of_ble_eq_true rfl) ⟨Nat.le_of_ble_eq_true rfl, Nat.le_of_ble_eq_true rfl⟩ dX11_read_42 (fun v ty' w' hp hk' => ?_)
    obtain ⟨I1971, A1971, hI1971, hA1971, hV1971, rfl, rfl⟩ := hp
    show GW κ 3 0 0 (wX q d I1971 A1971) 45 [(1, .int y1396), (0, .ref (q 0))] []
    refine g_iconst (v := 0) hk dX11_read_45 (by decide) ?_
    refine g_istore_n (lv' := [(2, .int 0), (1, .int y1396), (0, .ref (q 0))]) hk dX11_read_46 (by decide) rfl ?_
    have lp1987 : ∀ (n1988 : Nat) (x1972 : Int32) (I1975 : Nat → Int32) (A1975 : Nat → Nat → Int32), (Md [23, 25, 27] I1971 I1975) → (Md [] A1971 A1975) → (IvX I1975 A1975) → (0 ≤ x1972.toInt) → (x1972.toInt ≤ 3) → (3 - x1972.toInt < (n1988 : Int)) → (0 < n1988) → GW κ 3 0 0 (wX q d I1975 A1975) 47 [(2, .int x1972), (1, .int y1396), (0, .ref (q 0))] [] := by
      intro n1988
      induction n1988 with
      | zero =>
        intro x1972 I1975 A1975 hI1975 hA1975 hV1975 h1985 h1986 m1989 m1989z
        exact absurd m1989z (Nat.lt_irrefl 0)
      | succ n1988 ih1990 =>
        intro x1972 I1975 A1975 hI1975 hA1975 hV1975 h1985 h1986 m1989 m1989z
        refine g_iload_n hk dX11_read_47 rfl ?_
        refine g_aload_n hk dX11_read_48 rfl ?_
        refine gX_r0_6 hk hin11 (List.mem_cons_of_mem _ (List.mem_append_left _ (List.mem_of_getElem? (i := 18) rfl))) dX11_read_49 ?_
        refine nX_14 hk dX11_read_52 ?_
        refine g_icmp_ge (tgt := 72) (a := x1972.toInt) (b := 3) hk dX11_read_53 (by decide) rfl rfl (fun c1991 => ?_) (fun c1991 => ?_)
        · skip
          refine g_iload_n hk dX11_read_72 rfl ?_
          have k1992 : (0 : Int32).toInt = 0 := rfl
          have f1993 := IvX_f0 hIv
          exact g_iret hk hR rfl ⟨I1975, A1975, (show Md [0, 1, 2, 3, 4, 5, 6, 7, 8, 9, 10, 11, 12, 13, 14, 16, 17, 18, 19, 21, 23, 25, 27] I I1975 from (Md.tr (Md.tr (Md.tr (Md.up (Md.tr Md.rf hI1397 rfl) rfl) hI1875 rfl) hI1971 rfl) hI1975 rfl)), (show Md [1, 2, 3, 4, 5, 6, 7, 8, 9, 10] A A1975 from (Md.tr (Md.tr (Md.tr (Md.tr Md.rf hA1397 rfl) hA1875 rfl) hA1971 rfl) hA1975 rfl)), hV1975, y1396, (by rw [show I1975 0 = 0 from ((hI1975 0 rfl).trans ((hI1971 0 rfl).trans (hI1875 0 rfl)))]; omega), rfl, rfl⟩ dX11_read_73
        · skip
          refine g_aload_n hk dX11_read_56 rfl ?_
          refine gX_r0_6 hk hin11 (List.mem_cons_of_mem _ (List.mem_append_left _ (List.mem_of_getElem? (i := 18) rfl))) dX11_read_57 ?_
          refine g_iload_n hk dX11_read_60 rfl ?_
          by_cases c1994 : x1972.toInt = 0
          · have ec1994 : x1972 = 0 := Int32.toInt_inj.mp c1994
            rw [ec1994]
            show GW κ 3 0 0 (wX q d I1975 A1975) 61 [(2, .int 0), (1, .int y1396), (0, .ref (q 0))] [.int 0, .ref (q 24)]
            refine lX_14 hk (vp_in_iff.mpr ⟨by decide, by decide⟩) rfl dX11_read_61 ?_
            refine g_iconst (v := 0) hk dX11_read_62 (by decide) ?_
            refine pX_i23 hk hin8 (List.mem_cons_of_mem _ (List.mem_append_left _ (List.mem_of_getElem? (i := 19) rfl))) ⟨rfl, rfl⟩ dX11_read_63 ?_
            refine g_iinc (v := 1) (lv' := [(2, .int 1), (1, .int y1396), (0, .ref (q 0))]) hk 0 dX11_read_66 rfl (by decide) (by decide) rfl ?_
            refine g_goto (tgt := 47) hk dX11_read_69 (by decide) ?_
            have k1995 : (1 : Int32).toInt = 1 := rfl
            exact g_lv (List.forall_mem_cons.mpr ⟨List.mem_of_getElem? (i := 0) rfl, (List.forall_mem_cons.mpr ⟨List.mem_of_getElem? (i := 1) rfl, (List.forall_mem_cons.mpr ⟨List.mem_of_getElem? (i := 2) rfl, (fun _ h => absurd h List.not_mem_nil)⟩)⟩)⟩) (ih1990 1 (upd I1975 23 0) A1975 (show Md [23, 25, 27] I1971 (upd I1975 23 0) from Md.tr hI1975 (show Md [23, 25, 27] I1975 (upd I1975 23 0) from (Md.up Md.rf rfl)) rfl) (show Md [] A1971 A1975 from Md.tr hA1975 (show Md [] A1975 A1975 from Md.rf) rfl) ⟨(IvX_f0 (I := I1975) (A := A1975) hV1975), (IvX_f18 (I := I1975) (A := A1975) hV1975), (IvX_f30 (I := I1975) (A := A1975) hV1975), (IvX_f31 (I := I1975) (A := A1975) hV1975), (IvX_a4 (I := I1975) (A := A1975) hV1975), (IvX_a9 (I := I1975) (A := A1975) hV1975), trivial⟩ (by omega) (by omega) (by omega) (by omega))
          by_cases c1996 : x1972.toInt = 1
          · have ec1996 : x1972 = 1 := Int32.toInt_inj.mp c1996
            rw [ec1996]
            show GW κ 3 0 0 (wX q d I1975 A1975) 61 [(2, .int 1), (1, .int y1396), (0, .ref (q 0))] [.int 1, .ref (q 24)]
            refine lX_14 hk (vp_in_iff.mpr ⟨by decide, by decide⟩) rfl dX11_read_61 ?_
            refine g_iconst (v := 0) hk dX11_read_62 (by decide) ?_
            refine pX_i25 hk hin8 (List.mem_cons_of_mem _ (List.mem_append_left _ (List.mem_of_getElem? (i := 19) rfl))) ⟨rfl, rfl⟩ dX11_read_63 ?_
            refine g_iinc (v := 2) (lv' := [(2, .int 2), (1, .int y1396), (0, .ref (q 0))]) hk 0 dX11_read_66 rfl (by decide) (by decide) rfl ?_
            refine g_goto (tgt := 47) hk dX11_read_69 (by decide) ?_
            have k1997 : (2 : Int32).toInt = 2 := rfl
            exact g_lv (List.forall_mem_cons.mpr ⟨List.mem_of_getElem? (i := 0) rfl, (List.forall_mem_cons.mpr ⟨List.mem_of_getElem? (i := 1) rfl, (List.forall_mem_cons.mpr ⟨List.mem_of_getElem? (i := 2) rfl, (fun _ h => absurd h List.not_mem_nil)⟩)⟩)⟩) (ih1990 2 (upd I1975 25 0) A1975 (show Md [23, 25, 27] I1971 (upd I1975 25 0) from Md.tr hI1975 (show Md [23, 25, 27] I1975 (upd I1975 25 0) from (Md.up Md.rf rfl)) rfl) (show Md [] A1971 A1975 from Md.tr hA1975 (show Md [] A1975 A1975 from Md.rf) rfl) ⟨(IvX_f0 (I := I1975) (A := A1975) hV1975), (IvX_f18 (I := I1975) (A := A1975) hV1975), (IvX_f30 (I := I1975) (A := A1975) hV1975), (IvX_f31 (I := I1975) (A := A1975) hV1975), (IvX_a4 (I := I1975) (A := A1975) hV1975), (IvX_a9 (I := I1975) (A := A1975) hV1975), trivial⟩ (by omega) (by omega) (by omega) (by omega))
          by_cases c1998 : x1972.toInt = 2
          · have ec1998 : x1972 = 2 := Int32.toInt_inj.mp c1998
            rw [ec1998]
            show GW κ 3 0 0 (wX q d I1975 A1975) 61 [(2, .int 2), (1, .int y1396), (0, .ref (q 0))] [.int 2, .ref (q 24)]
            refine lX_14 hk (vp_in_iff.mpr ⟨by decide, by decide⟩) rfl dX11_read_61 ?_
            refine g_iconst (v := 0) hk dX11_read_62 (by decide) ?_
            refine pX_i27 hk hin8 (List.mem_cons_of_mem _ (List.mem_append_left _ (List.mem_of_getElem? (i := 19) rfl))) ⟨rfl, rfl⟩ dX11_read_63 ?_
            refine g_iinc (v := 3) (lv' := [(2, .int 3), (1, .int y1396), (0, .ref (q 0))]) hk 0 dX11_read_66 rfl (by decide) (by decide) rfl ?_
            refine g_goto (tgt := 47) hk dX11_read_69 (by decide) ?_
            have k1999 : (3 : Int32).toInt = 3 := rfl
            exact g_lv (List.forall_mem_cons.mpr ⟨List.mem_of_getElem? (i := 0) rfl, (List.forall_mem_cons.mpr ⟨List.mem_of_getElem? (i := 1) rfl, (List.forall_mem_cons.mpr ⟨List.mem_of_getElem? (i := 2) rfl, (fun _ h => absurd h List.not_mem_nil)⟩)⟩)⟩) (ih1990 3 (upd I1975 27 0) A1975 (show Md [23, 25, 27] I1971 (upd I1975 27 0) from Md.tr hI1975 (show Md [23, 25, 27] I1975 (upd I1975 27 0) from (Md.up Md.rf rfl)) rfl) (show Md [] A1971 A1975 from Md.tr hA1975 (show Md [] A1975 A1975 from Md.rf) rfl) ⟨(IvX_f0 (I := I1975) (A := A1975) hV1975), (IvX_f18 (I := I1975) (A := A1975) hV1975), (IvX_f30 (I := I1975) (A := A1975) hV1975), (IvX_f31 (I := I1975) (A := A1975) hV1975), (IvX_a4 (I := I1975) (A := A1975) hV1975), (IvX_a9 (I := I1975) (A := A1975) hV1975), trivial⟩ (by omega) (by omega) (by omega) (by omega))
          exfalso; omega
    have k2001 : (0 : Int32).toInt = 0 := rfl
    obtain ⟨n2000, n2000a, n2000b⟩ : ∃ n : Nat, 3 - 0 < (n : Int) ∧ 0 < n := ⟨((3 - 0 : Int)).toNat + 1, by omega, by omega⟩
    exact lp1987 n2000 0 I1971 A1971 Md.rf Md.rf hV1971 (by omega) (by omega) n2000a n2000b
def wo_k176_X11_place : List Cond := [Cond.fieldLink RX11 21 "WarpDesk" "reader" "LWarpDesk$Reader;", Cond.fieldLink RX11 114 "WarpDesk$Reader" "faultPlace" "I"]
def wz_k176_X11_place : List Cond := .code yX11_place cX11_place 1 (some .int) :: (wo_k176_X11_place ++ (wsX50 ++ (wsX110 ++ ([] : List Cond))))
theorem zg_k176_X11_place : ∀ w ∈ wz_k176_X11_place, goodWord w = true := zg_cons rfl (zg_app (by decide +kernel) (zg_app zgU_wsX50 (zg_app zgU_wsX110 zg_nil)))
theorem zi_k176_X11_place : ∀ w ∈ wz_k176_X11_place, w ∈ lw_tbl := zi_cons zw_797 (zi_app (zi_cons zw_488 (zi_cons zw_244 zi_nil)) (zi_app inX5 (zi_app inX11 zi_nil)))
set_option maxHeartbeats 4000000 in
set_option maxRecDepth 100000 in
theorem k176_X11_place (l : Launch) (D : va_G) (zt : Nat × Nat × Nat × (Nat → Nat) × (Nat → Nat)) (q : Nat → Nat) (d : Nat → ClassId) (I : Nat → Int32) (A : Nat → Nat → Int32) (hIv : IvX I A) : GM l D zt (tyX d) yX11_place wz_k176_X11_place ({ frames := 0, cells := 0, slots := 0, locals := 0 } : Room) [.ref (q 0)] (wX q d I A) (fun v _ w' => ∃ y0 : Int32, v = some (.int y0) ∧ w' = wX q d I A) 0 0 := by
  refine GM.of (cc := cX11_place) (maxL := 1) (ret := (some .int)) (own := RX11) (lv := [(0, .ref (q 0))]) (by decide) rfl rfl (Nat.le_of_ble_eq_true rfl) rfl (fun κ sz hk hR hN => ?_)
  have hin5 : ∀ w ∈ u_ws RX5 TX5 13, w ∈ wz_k176_X11_place := fun w h => (List.mem_cons_of_mem _ (List.mem_append_right _ (List.mem_append_left _ h)))
  have hin11 : ∀ w ∈ u_ws RX11 TX11 10, w ∈ wz_k176_X11_place := fun w h => (List.mem_cons_of_mem _ (List.mem_append_right _ (List.mem_append_right _ (List.mem_append_left _ h))))
  refine g_aload_n hk dX11_place_0 rfl ?_
  refine gX_r0_1 hk hin11 (List.mem_cons_of_mem _ (List.mem_append_left _ (List.mem_of_getElem? (i := 0) rfl))) dX11_place_1 ?_
  refine gX_i12 (v := (I 12)) hk hin5 (List.mem_cons_of_mem _ (List.mem_append_left _ (List.mem_of_getElem? (i := 1) rfl))) dX11_place_4 rfl ?_
  have b2002l := Int32.le_toInt (I 12)
  have b2002h := Int32.toInt_lt (I 12)
  exact g_iret hk hR rfl ⟨(I 12), rfl, rfl⟩ dX11_place_7
def wo_k177_X11_cause : List Cond := [Cond.fieldLink RX11 21 "WarpDesk" "reader" "LWarpDesk$Reader;", Cond.fieldLink RX11 117 "WarpDesk$Reader" "faultCause" "I"]
def wz_k177_X11_cause : List Cond := .code yX11_cause cX11_cause 1 (some .int) :: (wo_k177_X11_cause ++ (wsX50 ++ (wsX110 ++ ([] : List Cond))))
theorem zg_k177_X11_cause : ∀ w ∈ wz_k177_X11_cause, goodWord w = true := zg_cons rfl (zg_app (by decide +kernel) (zg_app zgU_wsX50 (zg_app zgU_wsX110 zg_nil)))
theorem zi_k177_X11_cause : ∀ w ∈ wz_k177_X11_cause, w ∈ lw_tbl := zi_cons zw_801 (zi_app (zi_cons zw_488 (zi_cons zw_246 zi_nil)) (zi_app inX5 (zi_app inX11 zi_nil)))
set_option maxHeartbeats 4000000 in
set_option maxRecDepth 100000 in
theorem k177_X11_cause (l : Launch) (D : va_G) (zt : Nat × Nat × Nat × (Nat → Nat) × (Nat → Nat)) (q : Nat → Nat) (d : Nat → ClassId) (I : Nat → Int32) (A : Nat → Nat → Int32) (hIv : IvX I A) : GM l D zt (tyX d) yX11_cause wz_k177_X11_cause ({ frames := 0, cells := 0, slots := 0, locals := 0 } : Room) [.ref (q 0)] (wX q d I A) (fun v _ w' => ∃ y0 : Int32, v = some (.int y0) ∧ w' = wX q d I A) 0 0 := by
  refine GM.of (cc := cX11_cause) (maxL := 1) (ret := (some .int)) (own := RX11) (lv := [(0, .ref (q 0))]) (by decide) rfl rfl (Nat.le_of_ble_eq_true rfl) rfl (fun κ sz hk hR hN => ?_)
  have hin5 : ∀ w ∈ u_ws RX5 TX5 13, w ∈ wz_k177_X11_cause := fun w h => (List.mem_cons_of_mem _ (List.mem_append_right _ (List.mem_append_left _ h)))
  have hin11 : ∀ w ∈ u_ws RX11 TX11 10, w ∈ wz_k177_X11_cause := fun w h => (List.mem_cons_of_mem _ (List.mem_append_right _ (List.mem_append_right _ (List.mem_append_left _ h))))
  refine g_aload_n hk dX11_cause_0 rfl ?_
  refine gX_r0_1 hk hin11 (List.mem_cons_of_mem _ (List.mem_append_left _ (List.mem_of_getElem? (i := 0) rfl))) dX11_cause_1 ?_
  refine gX_i13 (v := (I 13)) hk hin5 (List.mem_cons_of_mem _ (List.mem_append_left _ (List.mem_of_getElem? (i := 1) rfl))) dX11_cause_4 rfl ?_
  have b2003l := Int32.le_toInt (I 13)
  have b2003h := Int32.toInt_lt (I 13)
  exact g_iret hk hR rfl ⟨(I 13), rfl, rfl⟩ dX11_cause_7
def wo_k179_X6_valueAt : List Cond := [Cond.fieldLink RX6 19 "WarpDesk$Series" "size" "I", Cond.fieldLink RX6 11 "WarpDesk$Series" "ring" "[I", Cond.fieldLink RX6 15 "WarpDesk$Series" "first" "I"]
def wz_k179_X6_valueAt : List Cond := .code yX6_valueAt cX6_valueAt 2 (some .int) :: (wo_k179_X6_valueAt ++ (wsX60 ++ ([] : List Cond)))
theorem zg_k179_X6_valueAt : ∀ w ∈ wz_k179_X6_valueAt, goodWord w = true := zg_cons rfl (zg_app (by decide +kernel) (zg_app zgU_wsX60 zg_nil))
theorem zi_k179_X6_valueAt : ∀ w ∈ wz_k179_X6_valueAt, w ∈ lw_tbl := zi_cons zw_809 (zi_app (zi_cons zw_282 (zi_cons zw_280 (zi_cons zw_281 zi_nil))) (zi_app inX6 zi_nil))
set_option maxHeartbeats 4000000 in
set_option maxRecDepth 100000 in
theorem k179_X6_valueAt (l : Launch) (D : va_G) (zt : Nat × Nat × Nat × (Nat → Nat) × (Nat → Nat)) (q : Nat → Nat) (d : Nat → ClassId) (I : Nat → Int32) (A : Nat → Nat → Int32) (z1 : Int32) (hIv : IvX I A) : GM l D zt (tyX d) yX6_valueAt wz_k179_X6_valueAt ({ frames := 0, cells := 0, slots := 0, locals := 0 } : Room) [.ref (q 13), .int z1] (wX q d I A) (fun v _ w' => ∃ y0 : Int32, v = some (.int y0) ∧ w' = wX q d I A) 0 0 := by
  refine GM.of (cc := cX6_valueAt) (maxL := 2) (ret := (some .int)) (own := RX6) (lv := [(0, .ref (q 13)), (1, .int z1)]) (by decide) rfl rfl (Nat.le_of_ble_eq_true rfl) rfl (fun κ sz hk hR hN => ?_)
  have hin6 : ∀ w ∈ u_ws RX6 TX6 3, w ∈ wz_k179_X6_valueAt := fun w h => (List.mem_cons_of_mem _ (List.mem_append_right _ (List.mem_append_left _ h)))
  refine g_iload_n hk dX6_valueAt_0 rfl ?_
  have b2004l := Int32.le_toInt z1
  have b2004h := Int32.toInt_lt z1
  refine g_if_lt (tgt := 30) (a := z1.toInt) hk dX6_valueAt_1 (by decide) rfl (fun c2005 => ?_) (fun c2005 => ?_)
  · skip
    refine g_sipush (v := (-1000)) hk dX6_valueAt_30 (by decide) ?_
    exact g_iret hk hR rfl ⟨(-1000), rfl, rfl⟩ dX6_valueAt_33
  · skip
    refine g_iload_n hk dX6_valueAt_4 rfl ?_
    refine g_aload_n hk dX6_valueAt_5 rfl ?_
    refine gX_i18 (v := (I 18)) hk hin6 (List.mem_cons_of_mem _ (List.mem_append_left _ (List.mem_of_getElem? (i := 0) rfl))) dX6_valueAt_6 rfl ?_
    have f2006 := IvX_f18 hIv
    refine g_icmp_ge (tgt := 30) (a := z1.toInt) (b := (I 18).toInt) hk dX6_valueAt_9 (by decide) rfl rfl (fun c2007 => ?_) (fun c2007 => ?_)
    · skip
      refine g_sipush (v := (-1000)) hk dX6_valueAt_30 (by decide) ?_
      exact g_iret hk hR rfl ⟨(-1000), rfl, rfl⟩ dX6_valueAt_33
    · skip
      refine g_aload_n hk dX6_valueAt_12 rfl ?_
      refine gX_r13_0 hk hin6 (List.mem_cons_of_mem _ (List.mem_append_left _ (List.mem_of_getElem? (i := 1) rfl))) dX6_valueAt_13 ?_
      refine g_aload_n hk dX6_valueAt_16 rfl ?_
      refine gX_i17 (v := (I 17)) hk hin6 (List.mem_cons_of_mem _ (List.mem_append_left _ (List.mem_of_getElem? (i := 2) rfl))) dX6_valueAt_17 rfl ?_
      refine g_iload_n hk dX6_valueAt_20 rfl ?_
      have b2008l := Int32.le_toInt (I 17)
      have b2008h := Int32.toInt_lt (I 17)
      refine g_iadd hk dX6_valueAt_21 ?_
      refine g_topi (fun y2009 ey2009 => ?_)
      refine g_sipush (v := 255) hk dX6_valueAt_22 (by decide) ?_
      have b2010l := Int32.le_toInt y2009
      have b2010h := Int32.toInt_lt y2009
      refine g_iand hk dX6_valueAt_25 ?_
      refine g_topi (fun y2011 ey2011 => ?_)
      have hy2011 : 0 ≤ y2011.toInt ∧ y2011.toInt ≤ 255 := i32_mask 8 ey2011 (by decide) (by decide)
      refine lX_7 (v := (A 7 y2011.toNatClampNeg)) hk (vp_in_iff.mpr ⟨by omega, by omega⟩) rfl dX6_valueAt_26 ?_
      refine g_goto (tgt := 33) hk dX6_valueAt_27 (by decide) ?_
      have b2012l := Int32.le_toInt (A 7 y2011.toNatClampNeg)
      have b2012h := Int32.toInt_lt (A 7 y2011.toNatClampNeg)
      exact g_iret hk hR rfl ⟨(A 7 y2011.toNatClampNeg), rfl, rfl⟩ dX6_valueAt_33
def wo_k178_X11_at : List Cond := [Cond.fieldLink RX11 28 "WarpDesk" "series" "LWarpDesk$Series;", Cond.methodLink RX11 120 yX6_valueAt, Cond.instanceMethod yX6_valueAt, Cond.selects RX6 yX6_valueAt yX6_valueAt, Cond.initialized RX6]
def wz_k178_X11_at : List Cond := .code yX11_at cX11_at 2 (some .int) :: (wo_k178_X11_at ++ (wsX110 ++ (wz_k179_X6_valueAt ++ ([] : List Cond))))
theorem zg_k178_X11_at : ∀ w ∈ wz_k178_X11_at, goodWord w = true := zg_cons rfl (zg_app (by decide +kernel) (zg_app zgU_wsX110 (zg_app zg_k179_X6_valueAt zg_nil)))
theorem zi_k178_X11_at : ∀ w ∈ wz_k178_X11_at, w ∈ lw_tbl := zi_cons zw_805 (zi_app (zi_cons zw_489 (zi_cons zw_806 (zi_cons zw_807 (zi_cons zw_808 (zi_cons zw_109 zi_nil))))) (zi_app inX11 (zi_app zi_k179_X6_valueAt zi_nil)))
set_option maxHeartbeats 4000000 in
set_option maxRecDepth 100000 in
theorem k178_X11_at (l : Launch) (D : va_G) (zt : Nat × Nat × Nat × (Nat → Nat) × (Nat → Nat)) (q : Nat → Nat) (d : Nat → ClassId) (I : Nat → Int32) (A : Nat → Nat → Int32) (z1 : Int32) (hIv : IvX I A) : GM l D zt (tyX d) yX11_at wz_k178_X11_at ({ frames := 1, cells := 0, slots := 0, locals := 21 } : Room) [.ref (q 0), .int z1] (wX q d I A) (fun v _ w' => ∃ y0 : Int32, v = some (.int y0) ∧ w' = wX q d I A) 0 0 := by
  refine GM.of (cc := cX11_at) (maxL := 2) (ret := (some .int)) (own := RX11) (lv := [(0, .ref (q 0)), (1, .int z1)]) (by decide) rfl rfl (Nat.le_of_ble_eq_true rfl) rfl (fun κ sz hk hR hN => ?_)
  have hin11 : ∀ w ∈ u_ws RX11 TX11 10, w ∈ wz_k178_X11_at := fun w h => (List.mem_cons_of_mem _ (List.mem_append_right _ (List.mem_append_left _ h)))
  refine g_aload_n hk dX11_at_0 rfl ?_
  refine gX_r0_2 hk hin11 (List.mem_cons_of_mem _ (List.mem_append_left _ (List.mem_of_getElem? (i := 0) rfl))) dX11_at_1 ?_
  refine g_iload_n hk dX11_at_4 rfl ?_
  refine g_callV (n := 1) hk (k179_X6_valueAt l D zt q d I A z1 hIv) (SP.same _) (fun _ h => h) (gi_V (List.mem_cons_of_mem _ (List.mem_append_left _ (List.mem_of_getElem? (i := 1) rfl))) (List.mem_cons_of_mem _ (List.mem_append_left _ (List.mem_of_getElem? (i := 2) rfl))) (List.mem_cons_of_mem _ (List.mem_append_left _ (List.mem_of_getElem? (i := 3) rfl))) (List.mem_cons_of_mem _ (List.mem_append_left _ (List.mem_of_getElem? (i := 4) rfl))) (gi_sub (fun w h => (List.mem_cons_of_mem _ (List.mem_append_right _ (List.mem_append_right _ (List.mem_append_left _ h))))) zg_k179_X6_valueAt)) rfl rfl rfl (by decide +kernel) ⟨Nat.le_of_ble_eq_true rfl, Nat.le_of_ble_eq_true rfl⟩ 13 rfl rfl rfl rfl (Nat.le_of_ble_eq_true rfl) ⟨Nat.le_of_ble_eq_true rfl, Nat.le_of_ble_eq_true rfl⟩ dX11_at_5 (fun v ty' w' hp hk' => ?_)
  obtain ⟨y2013, rfl, rfl⟩ := hp
  show GW κ 2 0 0 (wX q d I A) 8 [(0, .ref (q 0)), (1, .int z1)] [.int y2013]
  have b2014l := Int32.le_toInt y2013
  have b2014h := Int32.toInt_lt y2013
  exact g_iret hk hR rfl ⟨y2013, rfl, rfl⟩ dX11_at_8
def wo_k182_X4_lengthOf : List Cond := [Cond.methodLink RX4 22 yX4_has, Cond.instanceMethod yX4_has, Cond.selects RX4 yX4_has yX4_has, Cond.initialized RX4, Cond.fieldLink RX4 15 "WarpDesk$Queries" "lengths" "[I"]
def wz_k182_X4_lengthOf : List Cond := .code yX4_lengthOf cX4_lengthOf 2 (some .int) :: (wo_k182_X4_lengthOf ++ (wsX40 ++ (wz_k168_X4_has ++ ([] : List Cond))))
theorem zg_k182_X4_lengthOf : ∀ w ∈ wz_k182_X4_lengthOf, goodWord w = true := zg_cons rfl (zg_app (by decide +kernel) (zg_app zgU_wsX40 (zg_app zg_k168_X4_has zg_nil)))
theorem zi_k182_X4_lengthOf : ∀ w ∈ wz_k182_X4_lengthOf, w ∈ lw_tbl := zi_cons zw_759 (zi_app (zi_cons zw_746 (zi_cons zw_747 (zi_cons zw_748 (zi_cons zw_108 (zi_cons zw_218 zi_nil))))) (zi_app inX4 (zi_app zi_k168_X4_has zi_nil)))
set_option maxHeartbeats 4000000 in
set_option maxRecDepth 100000 in
theorem k182_X4_lengthOf (l : Launch) (D : va_G) (zt : Nat × Nat × Nat × (Nat → Nat) × (Nat → Nat)) (q : Nat → Nat) (d : Nat → ClassId) (I : Nat → Int32) (A : Nat → Nat → Int32) (z1 : Int32) (hIv : IvX I A) : GM l D zt (tyX d) yX4_lengthOf wz_k182_X4_lengthOf ({ frames := 1, cells := 0, slots := 0, locals := 21 } : Room) [.ref (q 15), .int z1] (wX q d I A) (fun v _ w' => (v = some (.int 0) ∧ w' = wX q d I A) ∨ (∃ y0 : Int32, (¬ (z1.toInt < 0)) ∧ (¬ (5 ≤ z1.toInt)) ∧ (0 ≤ z1.toInt) ∧ (z1.toInt ≤ 4) ∧ (0 ≤ z1.toInt) ∧ (z1.toInt ≤ 4) ∧ (0 ≤ y0.toInt) ∧ (y0.toInt ≤ 16) ∧ v = some (.int y0) ∧ w' = wX q d I A)) 0 0 := by
  refine GM.of (cc := cX4_lengthOf) (maxL := 2) (ret := (some .int)) (own := RX4) (lv := [(0, .ref (q 15)), (1, .int z1)]) (by decide) rfl rfl (Nat.le_of_ble_eq_true rfl) rfl (fun κ sz hk hR hN => ?_)
  have hin4 : ∀ w ∈ u_ws RX4 TX4 3, w ∈ wz_k182_X4_lengthOf := fun w h => (List.mem_cons_of_mem _ (List.mem_append_right _ (List.mem_append_left _ h)))
  refine g_aload_n hk dX4_lengthOf_0 rfl ?_
  refine g_iload_n hk dX4_lengthOf_1 rfl ?_
  refine g_callV (n := 1) hk (k168_X4_has l D zt q d I A z1 hIv) (SP.same _) (fun _ h => h) (gi_V (List.mem_cons_of_mem _ (List.mem_append_left _ (List.mem_of_getElem? (i := 0) rfl))) (List.mem_cons_of_mem _ (List.mem_append_left _ (List.mem_of_getElem? (i := 1) rfl))) (List.mem_cons_of_mem _ (List.mem_append_left _ (List.mem_of_getElem? (i := 2) rfl))) (List.mem_cons_of_mem _ (List.mem_append_left _ (List.mem_of_getElem? (i := 3) rfl))) (gi_sub (fun w h => (List.mem_cons_of_mem _ (List.mem_append_right _ (List.mem_append_right _ (List.mem_append_left _ h))))) zg_k168_X4_has)) rfl rfl rfl (by decide +kernel) ⟨Nat.le_of_ble_eq_true rfl, Nat.le_of_ble_eq_true rfl⟩ 15 rfl rfl rfl rfl (Nat.le_of_ble_eq_true rfl) ⟨Nat.le_of_ble_eq_true rfl, Nat.le_of_ble_eq_true rfl⟩ dX4_lengthOf_2 (fun v ty' w' hp hk' => ?_)
  rcases hp with ⟨rfl, rfl⟩ | ⟨c2019, c2020, c2021, c2022, rfl, rfl⟩
  · skip
    show GW κ 2 0 0 (wX q d I A) 5 [(0, .ref (q 15)), (1, .int z1)] [.int 0]
    refine g_if_eq (tgt := 17) (a := 0) hk dX4_lengthOf_5 (by decide) rfl (fun _ => ?_) (fun z9 => absurd (show (0 : Int) = (0 : Int) from by decide) z9)
    refine g_iconst (v := 0) hk dX4_lengthOf_17 (by decide) ?_
    exact g_iret hk hR rfl (Or.inl ⟨rfl, rfl⟩) dX4_lengthOf_18
  · skip
    show GW κ 2 0 0 (wX q d I A) 5 [(0, .ref (q 15)), (1, .int z1)] [.int 1]
    refine g_if_eq (tgt := 17) (a := 1) hk dX4_lengthOf_5 (by decide) rfl (fun z9 => absurd z9 (show ¬ ((1 : Int) = (0 : Int)) from by decide)) (fun _ => ?_)
    refine g_aload_n hk dX4_lengthOf_8 rfl ?_
    refine gX_r15_1 hk hin4 (List.mem_cons_of_mem _ (List.mem_append_left _ (List.mem_of_getElem? (i := 4) rfl))) dX4_lengthOf_9 ?_
    refine g_iload_n hk dX4_lengthOf_12 rfl ?_
    refine lX_9 (v := (A 9 z1.toNatClampNeg)) hk (vp_in_iff.mpr ⟨by omega, by omega⟩) rfl dX4_lengthOf_13 ?_
    have f2024 := IvX_a9 hIv (z1.toNatClampNeg)
    refine g_goto (tgt := 18) hk dX4_lengthOf_14 (by decide) ?_
    exact g_iret hk hR rfl (Or.inr (⟨(A 9 z1.toNatClampNeg), c2019, c2020, c2021, c2022, (by omega), (by omega), (by omega), (by omega), rfl, rfl⟩)) dX4_lengthOf_18
