def wo_k181_X4_valueAt : List Cond := [Cond.methodLink RX4 26 yX4_lengthOf, Cond.instanceMethod yX4_lengthOf, Cond.selects RX4 yX4_lengthOf yX4_lengthOf, Cond.initialized RX4, Cond.fieldLink RX4 9 "WarpDesk$Queries" "readings" "[I"]
def wz_k181_X4_valueAt : List Cond := .code yX4_valueAt cX4_valueAt 3 (some .int) :: (wo_k181_X4_valueAt ++ (wsX40 ++ (wz_k182_X4_lengthOf ++ ([] : List Cond))))
theorem zg_k181_X4_valueAt : ∀ w ∈ wz_k181_X4_valueAt, goodWord w = true := zg_cons rfl (zg_app (by decide +kernel) (zg_app zgU_wsX40 (zg_app zg_k182_X4_lengthOf zg_nil)))
theorem zi_k181_X4_valueAt : ∀ w ∈ wz_k181_X4_valueAt, w ∈ lw_tbl := zi_cons zw_763 (zi_app (zi_cons zw_756 (zi_cons zw_757 (zi_cons zw_758 (zi_cons zw_108 (zi_cons zw_217 zi_nil))))) (zi_app inX4 (zi_app zi_k182_X4_lengthOf zi_nil)))
set_option maxHeartbeats 4000000 in
set_option maxRecDepth 100000 in
theorem k181_X4_valueAt (l : Launch) (D : va_G) (zt : Nat × Nat × Nat × (Nat → Nat) × (Nat → Nat)) (q : Nat → Nat) (d : Nat → ClassId) (I : Nat → Int32) (A : Nat → Nat → Int32) (z1 : Int32) (z2 : Int32) (hIv : IvX I A) : GM l D zt (tyX d) yX4_valueAt wz_k181_X4_valueAt ({ frames := 2, cells := 0, slots := 0, locals := 42 } : Room) [.ref (q 15), .int z1, .int z2] (wX q d I A) (fun v _ w' => ∃ y0 : Int32, v = some (.int y0) ∧ w' = wX q d I A) 0 0 := by
  refine GM.of (cc := cX4_valueAt) (maxL := 3) (ret := (some .int)) (own := RX4) (lv := [(0, .ref (q 15)), (1, .int z1), (2, .int z2)]) (by decide) rfl rfl (Nat.le_of_ble_eq_true rfl) rfl (fun κ sz hk hR hN => ?_)
  have hin4 : ∀ w ∈ u_ws RX4 TX4 3, w ∈ wz_k181_X4_valueAt := fun w h => (List.mem_cons_of_mem _ (List.mem_append_right _ (List.mem_append_left _ h)))
  refine g_iload_n hk dX4_valueAt_0 rfl ?_
  have b2015l := Int32.le_toInt z2
  have b2015h := Int32.toInt_lt z2
  refine g_if_lt (tgt := 33) (a := z2.toInt) hk dX4_valueAt_1 (by decide) rfl (fun c2016 => ?_) (fun c2016 => ?_)
  · skip
    refine g_sipush (v := (-1000)) hk dX4_valueAt_33 (by decide) ?_
    exact g_iret hk hR rfl ⟨(-1000), rfl, rfl⟩ dX4_valueAt_36
  · skip
    refine g_iload_n hk dX4_valueAt_4 rfl ?_
    refine g_bipush (v := 16) hk dX4_valueAt_5 (by decide) ?_
    refine g_icmp_ge (tgt := 33) (a := z2.toInt) (b := 16) hk dX4_valueAt_7 (by decide) rfl rfl (fun c2017 => ?_) (fun c2017 => ?_)
    · skip
      refine g_sipush (v := (-1000)) hk dX4_valueAt_33 (by decide) ?_
      exact g_iret hk hR rfl ⟨(-1000), rfl, rfl⟩ dX4_valueAt_36
    · skip
      refine g_iload_n hk dX4_valueAt_10 rfl ?_
      refine g_aload_n hk dX4_valueAt_11 rfl ?_
      refine g_iload_n hk dX4_valueAt_12 rfl ?_
      refine g_callV (n := 1) hk (k182_X4_lengthOf l D zt q d I A z1 hIv) (SP.same _) (fun _ h => h) (gi_V (List.mem_cons_of_mem _ (List.mem_append_left _ (List.mem_of_getElem? (i := 0) rfl))) (List.mem_cons_of_mem _ (List.mem_append_left _ (List.mem_of_getElem? (i := 1) rfl))) (List.mem_cons_of_mem _ (List.mem_append_left _ (List.mem_of_getElem? (i := 2) rfl))) (List.mem_cons_of_mem _ (List.mem_append_left _ (List.mem_of_getElem? (i := 3) rfl))) (gi_sub (fun w h => (List.mem_cons_of_mem _ (List.mem_append_right _ (List.mem_append_right _ (List.mem_append_left _ h))))) zg_k182_X4_lengthOf)) rfl rfl rfl (by decide +kernel) ⟨Nat.le_of_ble_eq_true rfl, Nat.le_of_ble_eq_true rfl⟩ 15 rfl rfl rfl rfl (Nat.le_of_ble_eq_true rfl) ⟨Nat.le_of_ble_eq_true rfl, Nat.le_of_ble_eq_true rfl⟩ dX4_valueAt_13 (fun v ty' w' hp hk' => ?_)
      rcases hp with ⟨rfl, rfl⟩ | ⟨y2032, c2026, c2027, c2028, c2029, c2030, c2031, c2033, c2034, rfl, rfl⟩
      · skip
        show GW κ 3 0 0 (wX q d I A) 16 [(0, .ref (q 15)), (1, .int z1), (2, .int z2)] [.int 0, .int z2]
        refine g_icmp_ge (tgt := 33) (a := z2.toInt) (b := 0) hk dX4_valueAt_16 (by decide) rfl rfl (fun _ => ?_) (fun z9 => absurd (show 0 ≤ z2.toInt from by omega) z9)
        refine g_sipush (v := (-1000)) hk dX4_valueAt_33 (by decide) ?_
        exact g_iret hk hR rfl ⟨(-1000), rfl, rfl⟩ dX4_valueAt_36
      · skip
        show GW κ 3 0 0 (wX q d I A) 16 [(0, .ref (q 15)), (1, .int z1), (2, .int z2)] [.int y2032, .int z2]
        refine g_icmp_ge (tgt := 33) (a := z2.toInt) (b := y2032.toInt) hk dX4_valueAt_16 (by decide) rfl rfl (fun c2035 => ?_) (fun c2035 => ?_)
        · skip
          refine g_sipush (v := (-1000)) hk dX4_valueAt_33 (by decide) ?_
          exact g_iret hk hR rfl ⟨(-1000), rfl, rfl⟩ dX4_valueAt_36
        · skip
          refine g_aload_n hk dX4_valueAt_19 rfl ?_
          refine gX_r15_0 hk hin4 (List.mem_cons_of_mem _ (List.mem_append_left _ (List.mem_of_getElem? (i := 4) rfl))) dX4_valueAt_20 ?_
          refine g_iload_n hk dX4_valueAt_23 rfl ?_
          refine g_bipush (v := 16) hk dX4_valueAt_24 (by decide) ?_
          refine g_imul hk dX4_valueAt_26 ?_
          refine g_topi (fun y2036 ey2036 => ?_)
          have hy2036 : y2036.toInt = z1.toInt * 16 := i32_mul ey2036 rfl rfl (by omega) (by omega)
          refine g_iload_n hk dX4_valueAt_27 rfl ?_
          refine g_iadd hk dX4_valueAt_28 ?_
          refine g_topi (fun y2037 ey2037 => ?_)
          have hy2037 : y2037.toInt = y2036.toInt + z2.toInt := i32_add ey2037 rfl rfl (by omega) (by omega)
          refine lX_8 (v := (A 8 y2037.toNatClampNeg)) hk (vp_in_iff.mpr ⟨by omega, by omega⟩) rfl dX4_valueAt_29 ?_
          refine g_goto (tgt := 36) hk dX4_valueAt_30 (by decide) ?_
          have b2038l := Int32.le_toInt (A 8 y2037.toNatClampNeg)
          have b2038h := Int32.toInt_lt (A 8 y2037.toNatClampNeg)
          exact g_iret hk hR rfl ⟨(A 8 y2037.toNatClampNeg), rfl, rfl⟩ dX4_valueAt_36
def wo_k180_X11_query : List Cond := [Cond.fieldLink RX11 35 "WarpDesk" "queries" "LWarpDesk$Queries;", Cond.methodLink RX11 124 yX4_valueAt, Cond.instanceMethod yX4_valueAt, Cond.selects RX4 yX4_valueAt yX4_valueAt, Cond.initialized RX4]
def wz_k180_X11_query : List Cond := .code yX11_query cX11_query 3 (some .int) :: (wo_k180_X11_query ++ (wsX110 ++ (wz_k181_X4_valueAt ++ ([] : List Cond))))
theorem zg_k180_X11_query : ∀ w ∈ wz_k180_X11_query, goodWord w = true := zg_cons rfl (zg_app (by decide +kernel) (zg_app zgU_wsX110 (zg_app zg_k181_X4_valueAt zg_nil)))
theorem zi_k180_X11_query : ∀ w ∈ wz_k180_X11_query, w ∈ lw_tbl := zi_cons zw_813 (zi_app (zi_cons zw_490 (zi_cons zw_814 (zi_cons zw_761 (zi_cons zw_762 (zi_cons zw_108 zi_nil))))) (zi_app inX11 (zi_app zi_k181_X4_valueAt zi_nil)))
set_option maxHeartbeats 4000000 in
set_option maxRecDepth 100000 in
theorem k180_X11_query (l : Launch) (D : va_G) (zt : Nat × Nat × Nat × (Nat → Nat) × (Nat → Nat)) (q : Nat → Nat) (d : Nat → ClassId) (I : Nat → Int32) (A : Nat → Nat → Int32) (z1 : Int32) (z2 : Int32) (hIv : IvX I A) : GM l D zt (tyX d) yX11_query wz_k180_X11_query ({ frames := 3, cells := 0, slots := 0, locals := 64 } : Room) [.ref (q 0), .int z1, .int z2] (wX q d I A) (fun v _ w' => ∃ y0 : Int32, v = some (.int y0) ∧ w' = wX q d I A) 0 0 := by
  refine GM.of (cc := cX11_query) (maxL := 3) (ret := (some .int)) (own := RX11) (lv := [(0, .ref (q 0)), (1, .int z1), (2, .int z2)]) (by decide) rfl rfl (Nat.le_of_ble_eq_true rfl) rfl (fun κ sz hk hR hN => ?_)
  have hin11 : ∀ w ∈ u_ws RX11 TX11 10, w ∈ wz_k180_X11_query := fun w h => (List.mem_cons_of_mem _ (List.mem_append_right _ (List.mem_append_left _ h)))
  refine g_aload_n hk dX11_query_0 rfl ?_
  refine gX_r0_3 hk hin11 (List.mem_cons_of_mem _ (List.mem_append_left _ (List.mem_of_getElem? (i := 0) rfl))) dX11_query_1 ?_
  refine g_iload_n hk dX11_query_4 rfl ?_
  refine g_iload_n hk dX11_query_5 rfl ?_
  refine g_callV (n := 2) hk (k181_X4_valueAt l D zt q d I A z1 z2 hIv) (SP.same _) (fun _ h => h) (gi_V (List.mem_cons_of_mem _ (List.mem_append_left _ (List.mem_of_getElem? (i := 1) rfl))) (List.mem_cons_of_mem _ (List.mem_append_left _ (List.mem_of_getElem? (i := 2) rfl))) (List.mem_cons_of_mem _ (List.mem_append_left _ (List.mem_of_getElem? (i := 3) rfl))) (List.mem_cons_of_mem _ (List.mem_append_left _ (List.mem_of_getElem? (i := 4) rfl))) (gi_sub (fun w h => (List.mem_cons_of_mem _ (List.mem_append_right _ (List.mem_append_right _ (List.mem_append_left _ h))))) zg_k181_X4_valueAt)) rfl rfl rfl (by decide +kernel) ⟨Nat.le_of_ble_eq_true rfl, Nat.le_of_ble_eq_true rfl⟩ 15 rfl rfl rfl rfl (Nat.le_of_ble_eq_true rfl) ⟨Nat.le_of_ble_eq_true rfl, Nat.le_of_ble_eq_true rfl⟩ dX11_query_6 (fun v ty' w' hp hk' => ?_)
  obtain ⟨y2039, rfl, rfl⟩ := hp
  show GW κ 3 0 0 (wX q d I A) 9 [(0, .ref (q 0)), (1, .int z1), (2, .int z2)] [.int y2039]
  have b2040l := Int32.le_toInt y2039
  have b2040h := Int32.toInt_lt y2039
  exact g_iret hk hR rfl ⟨y2039, rfl, rfl⟩ dX11_query_9
def wo_k185_X3_note : List Cond := [Cond.fieldLink RX3 23 "WarpDesk$Past" "next" "I", Cond.fieldLink RX3 9 "WarpDesk$Past" "kinds" "[I", Cond.fieldLink RX3 13 "WarpDesk$Past" "firsts" "[I", Cond.fieldLink RX3 16 "WarpDesk$Past" "seconds" "[I", Cond.fieldLink RX3 19 "WarpDesk$Past" "size" "I", Cond.methodLink RX3 26 Lib.Math.min.name, Cond.static Lib.Math.min.name, Cond.initialized "java/lang/Math", Cond.code Lib.Math.min.name Lib.Math.min.code 2 (some .int)]
def wz_k185_X3_note : List Cond := .code yX3_note cX3_note 4 none :: (wo_k185_X3_note ++ (wsX30 ++ ([] : List Cond)))
theorem zg_k185_X3_note : ∀ w ∈ wz_k185_X3_note, goodWord w = true := zg_cons rfl (zg_app (by decide +kernel) (zg_app zgU_wsX30 zg_nil))
theorem zi_k185_X3_note : ∀ w ∈ wz_k185_X3_note, w ∈ lw_tbl := zi_cons zw_827 (zi_app (zi_cons zw_305 (zi_cons zw_302 (zi_cons zw_303 (zi_cons zw_304 (zi_cons zw_306 (zi_cons zw_828 (zi_cons zw_829 (zi_cons zw_120 (zi_cons zw_830 zi_nil))))))))) (zi_app inX3 zi_nil))
set_option maxHeartbeats 4000000 in
set_option maxRecDepth 100000 in
theorem k185_X3_note (l : Launch) (D : va_G) (zt : Nat × Nat × Nat × (Nat → Nat) × (Nat → Nat)) (q : Nat → Nat) (d : Nat → ClassId) (I : Nat → Int32) (A : Nat → Nat → Int32) (z1 : Int32) (z2 : Int32) (z3 : Int32) (hIv : IvX I A) : GM l D zt (tyX d) yX3_note wz_k185_X3_note ({ frames := 1, cells := 0, slots := 0, locals := 14 } : Room) [.ref (q 20), .int z1, .int z2, .int z3] (wX q d I A) (fun v _ w' => ∃ (I' : Nat → Int32) (A' : Nat → Nat → Int32), Md [20, 21] I I' ∧ Md [11, 12, 13] A A' ∧ IvX I' A' ∧ v = none ∧ w' = wX q d I' A') 0 0 := by
  refine GM.of (cc := cX3_note) (maxL := 4) (ret := none) (own := RX3) (lv := [(0, .ref (q 20)), (1, .int z1), (2, .int z2), (3, .int z3)]) (by decide) rfl rfl (Nat.le_of_ble_eq_true rfl) rfl (fun κ sz hk hR hN => ?_)
  have hin3 : ∀ w ∈ u_ws RX3 TX3 5, w ∈ wz_k185_X3_note := fun w h => (List.mem_cons_of_mem _ (List.mem_append_right _ (List.mem_append_left _ h)))
  refine g_aload_n hk dX3_note_0 rfl ?_
  refine gX_i20 (v := (I 20)) hk hin3 (List.mem_cons_of_mem _ (List.mem_append_left _ (List.mem_of_getElem? (i := 0) rfl))) dX3_note_1 rfl ?_
  have b2049l := Int32.le_toInt (I 20)
  have b2049h := Int32.toInt_lt (I 20)
  refine g_if_lt (tgt := 16) (a := (I 20).toInt) hk dX3_note_4 (by decide) rfl (fun c2050 => ?_) (fun c2050 => ?_)
  · skip
    exact g_vret hk hR ⟨I, A, (show Md [20, 21] I I from Md.rf), (show Md [11, 12, 13] A A from Md.rf), hIv, rfl, rfl⟩ dX3_note_16
  · skip
    refine g_aload_n hk dX3_note_7 rfl ?_
    refine gX_i20 (v := (I 20)) hk hin3 (List.mem_cons_of_mem _ (List.mem_append_left _ (List.mem_of_getElem? (i := 0) rfl))) dX3_note_8 rfl ?_
    refine g_bipush (v := 40) hk dX3_note_11 (by decide) ?_
    refine g_icmp_lt (tgt := 17) (a := (I 20).toInt) (b := 40) hk dX3_note_13 (by decide) rfl rfl (fun c2051 => ?_) (fun c2051 => ?_)
    · skip
      refine g_aload_n hk dX3_note_17 rfl ?_
      refine gX_r20_0 hk hin3 (List.mem_cons_of_mem _ (List.mem_append_left _ (List.mem_of_getElem? (i := 1) rfl))) dX3_note_18 ?_
      refine g_aload_n hk dX3_note_21 rfl ?_
      refine gX_i20 (v := (I 20)) hk hin3 (List.mem_cons_of_mem _ (List.mem_append_left _ (List.mem_of_getElem? (i := 0) rfl))) dX3_note_22 rfl ?_
      refine g_iload_n hk dX3_note_25 rfl ?_
      refine sX_11 (j := (I 20).toNatClampNeg) hk (vp_in_iff.mpr ⟨by omega, by omega⟩) rfl dX3_note_26 ?_
      refine g_aload_n hk dX3_note_27 rfl ?_
      refine gX_r20_1 hk hin3 (List.mem_cons_of_mem _ (List.mem_append_left _ (List.mem_of_getElem? (i := 2) rfl))) dX3_note_28 ?_
      refine g_aload_n hk dX3_note_31 rfl ?_
      refine gX_i20 (v := (I 20)) hk hin3 (List.mem_cons_of_mem _ (List.mem_append_left _ (List.mem_of_getElem? (i := 0) rfl))) dX3_note_32 rfl ?_
      refine g_iload_n hk dX3_note_35 rfl ?_
      refine sX_12 (j := (I 20).toNatClampNeg) hk (vp_in_iff.mpr ⟨by omega, by omega⟩) rfl dX3_note_36 ?_
      refine g_aload_n hk dX3_note_37 rfl ?_
      refine gX_r20_2 hk hin3 (List.mem_cons_of_mem _ (List.mem_append_left _ (List.mem_of_getElem? (i := 3) rfl))) dX3_note_38 ?_
      refine g_aload_n hk dX3_note_41 rfl ?_
      refine gX_i20 (v := (I 20)) hk hin3 (List.mem_cons_of_mem _ (List.mem_append_left _ (List.mem_of_getElem? (i := 0) rfl))) dX3_note_42 rfl ?_
      refine g_iload_n hk dX3_note_45 rfl ?_
      refine sX_13 (j := (I 20).toNatClampNeg) hk (vp_in_iff.mpr ⟨by omega, by omega⟩) rfl dX3_note_46 ?_
      refine g_aload_n hk dX3_note_47 rfl ?_
      refine g_aload_n hk dX3_note_48 rfl ?_
      refine gX_i20 (v := (I 20)) hk hin3 (List.mem_cons_of_mem _ (List.mem_append_left _ (List.mem_of_getElem? (i := 0) rfl))) dX3_note_49 rfl ?_
      refine g_bipush (v := 39) hk dX3_note_52 (by decide) ?_
      refine g_icmp_ne (tgt := 61) (a := (I 20).toInt) (b := 39) hk dX3_note_54 (by decide) rfl rfl (fun c2052 => ?_) (fun c2052 => ?_)
      · skip
        refine g_aload_n hk dX3_note_61 rfl ?_
        refine gX_i20 (v := (I 20)) hk hin3 (List.mem_cons_of_mem _ (List.mem_append_left _ (List.mem_of_getElem? (i := 0) rfl))) dX3_note_62 rfl ?_
        refine g_iconst (v := 1) hk dX3_note_65 (by decide) ?_
        refine g_iadd hk dX3_note_66 ?_
        refine g_topi (fun y2053 ey2053 => ?_)
        have hy2053 : y2053.toInt = (I 20).toInt + 1 := i32_add ey2053 rfl rfl (by omega) (by omega)
        refine pX_i20 hk hin3 (List.mem_cons_of_mem _ (List.mem_append_left _ (List.mem_of_getElem? (i := 0) rfl))) dX3_note_67 ?_
        refine g_aload_n hk dX3_note_70 rfl ?_
        refine g_aload_n hk dX3_note_71 rfl ?_
        refine gX_i21 (v := (I 21)) hk hin3 (List.mem_cons_of_mem _ (List.mem_append_left _ (List.mem_of_getElem? (i := 4) rfl))) dX3_note_72 rfl ?_
        refine g_iconst (v := 1) hk dX3_note_75 (by decide) ?_
        have b2054l := Int32.le_toInt (I 21)
        have b2054h := Int32.toInt_lt (I 21)
        refine g_iadd hk dX3_note_76 ?_
        refine g_topi (fun y2055 ey2055 => ?_)
        refine g_bipush (v := 40) hk dX3_note_77 (by decide) ?_
        have b2056l := Int32.le_toInt y2055
        have b2056h := Int32.toInt_lt y2055
        refine g_mmin hk (List.mem_cons_of_mem _ (List.mem_append_left _ (List.mem_of_getElem? (i := 5) rfl))) (List.mem_cons_of_mem _ (List.mem_append_left _ (List.mem_of_getElem? (i := 6) rfl))) (List.mem_cons_of_mem _ (List.mem_append_left _ (List.mem_of_getElem? (i := 7) rfl))) (List.mem_cons_of_mem _ (List.mem_append_left _ (List.mem_of_getElem? (i := 8) rfl))) (Nat.le_of_ble_eq_true rfl) (Nat.le_of_ble_eq_true rfl) (Nat.le_of_ble_eq_true rfl) (Nat.le_of_ble_eq_true rfl) dX3_note_79 ?_
        refine g_topi (fun y2057 ey2057 => ?_)
        have k2058 : (40 : Int32).toInt = 40 := rfl
        have hy2057 := i32_min ey2057
        refine pX_i21 hk hin3 (List.mem_cons_of_mem _ (List.mem_append_left _ (List.mem_of_getElem? (i := 4) rfl))) dX3_note_82 ?_
        exact g_vret hk hR ⟨(upd (upd I 20 y2053) 21 y2057), (up3 (up3 (up3 A 11 ((I 20).toNatClampNeg) z1) 12 ((I 20).toNatClampNeg) z2) 13 ((I 20).toNatClampNeg) z3), (show Md [20, 21] I (upd (upd I 20 y2053) 21 y2057) from (Md.up (Md.up Md.rf rfl) rfl)), (show Md [11, 12, 13] A (up3 (up3 (up3 A 11 ((I 20).toNatClampNeg) z1) 12 ((I 20).toNatClampNeg) z2) 13 ((I 20).toNatClampNeg) z3) from (Md.up3 (Md.up3 (Md.up3 Md.rf rfl) rfl) rfl)), ⟨(IvX_f0 (I := I) (A := A) hIv), (IvX_f18 (I := I) (A := A) hIv), (IvX_f30 (I := I) (A := A) hIv), (IvX_f31 (I := I) (A := A) hIv), (IvX_a4 (I := I) (A := A) hIv), (IvX_a9 (I := I) (A := A) hIv), trivial⟩, rfl, rfl⟩ dX3_note_85
      · skip
        refine g_iconst (v := 0) hk dX3_note_57 (by decide) ?_
        refine g_goto (tgt := 67) hk dX3_note_58 (by decide) ?_
        refine pX_i20 hk hin3 (List.mem_cons_of_mem _ (List.mem_append_left _ (List.mem_of_getElem? (i := 0) rfl))) dX3_note_67 ?_
        refine g_aload_n hk dX3_note_70 rfl ?_
        refine g_aload_n hk dX3_note_71 rfl ?_
        refine gX_i21 (v := (I 21)) hk hin3 (List.mem_cons_of_mem _ (List.mem_append_left _ (List.mem_of_getElem? (i := 4) rfl))) dX3_note_72 rfl ?_
        refine g_iconst (v := 1) hk dX3_note_75 (by decide) ?_
        have b2059l := Int32.le_toInt (I 21)
        have b2059h := Int32.toInt_lt (I 21)
        refine g_iadd hk dX3_note_76 ?_
        refine g_topi (fun y2060 ey2060 => ?_)
        refine g_bipush (v := 40) hk dX3_note_77 (by decide) ?_
        have b2061l := Int32.le_toInt y2060
        have b2061h := Int32.toInt_lt y2060
        refine g_mmin hk (List.mem_cons_of_mem _ (List.mem_append_left _ (List.mem_of_getElem? (i := 5) rfl))) (List.mem_cons_of_mem _ (List.mem_append_left _ (List.mem_of_getElem? (i := 6) rfl))) (List.mem_cons_of_mem _ (List.mem_append_left _ (List.mem_of_getElem? (i := 7) rfl))) (List.mem_cons_of_mem _ (List.mem_append_left _ (List.mem_of_getElem? (i := 8) rfl))) (Nat.le_of_ble_eq_true rfl) (Nat.le_of_ble_eq_true rfl) (Nat.le_of_ble_eq_true rfl) (Nat.le_of_ble_eq_true rfl) dX3_note_79 ?_
        refine g_topi (fun y2062 ey2062 => ?_)
        have k2063 : (40 : Int32).toInt = 40 := rfl
        have hy2062 := i32_min ey2062
        refine pX_i21 hk hin3 (List.mem_cons_of_mem _ (List.mem_append_left _ (List.mem_of_getElem? (i := 4) rfl))) dX3_note_82 ?_
        exact g_vret hk hR ⟨(upd (upd I 20 0) 21 y2062), (up3 (up3 (up3 A 11 ((I 20).toNatClampNeg) z1) 12 ((I 20).toNatClampNeg) z2) 13 ((I 20).toNatClampNeg) z3), (show Md [20, 21] I (upd (upd I 20 0) 21 y2062) from (Md.up (Md.up Md.rf rfl) rfl)), (show Md [11, 12, 13] A (up3 (up3 (up3 A 11 ((I 20).toNatClampNeg) z1) 12 ((I 20).toNatClampNeg) z2) 13 ((I 20).toNatClampNeg) z3) from (Md.up3 (Md.up3 (Md.up3 Md.rf rfl) rfl) rfl)), ⟨(IvX_f0 (I := I) (A := A) hIv), (IvX_f18 (I := I) (A := A) hIv), (IvX_f30 (I := I) (A := A) hIv), (IvX_f31 (I := I) (A := A) hIv), (IvX_a4 (I := I) (A := A) hIv), (IvX_a9 (I := I) (A := A) hIv), trivial⟩, rfl, rfl⟩ dX3_note_85
    · skip
      exact g_vret hk hR ⟨I, A, (show Md [20, 21] I I from Md.rf), (show Md [11, 12, 13] A A from Md.rf), hIv, rfl, rfl⟩ dX3_note_16
def wo_k184_X11_appendPlace : List Cond := [Cond.fieldLink RX11 28 "WarpDesk" "series" "LWarpDesk$Series;", Cond.methodLink RX11 130 yX6_append, Cond.instanceMethod yX6_append, Cond.selects RX6 yX6_append yX6_append, Cond.initialized RX6, Cond.fieldLink RX11 49 "WarpDesk" "past" "LWarpDesk$Past;", Cond.methodLink RX11 134 yX3_note, Cond.instanceMethod yX3_note, Cond.selects RX3 yX3_note yX3_note, Cond.initialized RX3, Cond.fieldLink RX11 138 "WarpDesk$Series" "size" "I"]
def wz_k184_X11_appendPlace : List Cond := .code yX11_appendPlace cX11_appendPlace 2 (some .int) :: (wo_k184_X11_appendPlace ++ (wsX60 ++ (wsX110 ++ (wz_k172_X6_append ++ (wz_k185_X3_note ++ ([] : List Cond))))))
theorem zg_k184_X11_appendPlace : ∀ w ∈ wz_k184_X11_appendPlace, goodWord w = true := zg_cons rfl (zg_app (by decide +kernel) (zg_app zgU_wsX60 (zg_app zgU_wsX110 (zg_app zg_k172_X6_append (zg_app zg_k185_X3_note zg_nil)))))
theorem zi_k184_X11_appendPlace : ∀ w ∈ wz_k184_X11_appendPlace, w ∈ lw_tbl := zi_cons zw_822 (zi_app (zi_cons zw_489 (zi_cons zw_823 (zi_cons zw_778 (zi_cons zw_779 (zi_cons zw_109 (zi_cons zw_492 (zi_cons zw_824 (zi_cons zw_825 (zi_cons zw_826 (zi_cons zw_110 (zi_cons zw_284 zi_nil))))))))))) (zi_app inX6 (zi_app inX11 (zi_app zi_k172_X6_append (zi_app zi_k185_X3_note zi_nil)))))
set_option maxHeartbeats 4000000 in
set_option maxRecDepth 100000 in
theorem k184_X11_appendPlace (l : Launch) (D : va_G) (zt : Nat × Nat × Nat × (Nat → Nat) × (Nat → Nat)) (q : Nat → Nat) (d : Nat → ClassId) (I : Nat → Int32) (A : Nat → Nat → Int32) (z1 : Int32) (hIv : IvX I A) : GM l D zt (tyX d) yX11_appendPlace wz_k184_X11_appendPlace ({ frames := 2, cells := 0, slots := 0, locals := 37 } : Room) [.ref (q 0), .int z1] (wX q d I A) (fun v _ w' => ∃ (I' : Nat → Int32) (A' : Nat → Nat → Int32), Md [18, 20, 21] I I' ∧ Md [7, 11, 12, 13] A A' ∧ IvX I' A' ∧ ∃ y0 : Int32, ((-1) ≤ y0.toInt) ∧ (y0.toInt ≤ 160) ∧ v = some (.int y0) ∧ w' = wX q d I' A') 0 0 := by
  refine GM.of (cc := cX11_appendPlace) (maxL := 2) (ret := (some .int)) (own := RX11) (lv := [(0, .ref (q 0)), (1, .int z1)]) (by decide) rfl rfl (Nat.le_of_ble_eq_true rfl) rfl (fun κ sz hk hR hN => ?_)
  have hin6 : ∀ w ∈ u_ws RX6 TX6 3, w ∈ wz_k184_X11_appendPlace := fun w h => (List.mem_cons_of_mem _ (List.mem_append_right _ (List.mem_append_left _ h)))
  have hin11 : ∀ w ∈ u_ws RX11 TX11 10, w ∈ wz_k184_X11_appendPlace := fun w h => (List.mem_cons_of_mem _ (List.mem_append_right _ (List.mem_append_right _ (List.mem_append_left _ h))))
  refine g_aload_n hk dX11_appendPlace_0 rfl ?_
  refine gX_r0_2 hk hin11 (List.mem_cons_of_mem _ (List.mem_append_left _ (List.mem_of_getElem? (i := 0) rfl))) dX11_appendPlace_1 ?_
  refine g_iload_n hk dX11_appendPlace_4 rfl ?_
  refine g_callV (n := 1) hk (k172_X6_append l D zt q d I A z1 hIv) (SP.same _) (fun _ h => h) (gi_V (List.mem_cons_of_mem _ (List.mem_append_left _ (List.mem_of_getElem? (i := 1) rfl))) (List.mem_cons_of_mem _ (List.mem_append_left _ (List.mem_of_getElem? (i := 2) rfl))) (List.mem_cons_of_mem _ (List.mem_append_left _ (List.mem_of_getElem? (i := 3) rfl))) (List.mem_cons_of_mem _ (List.mem_append_left _ (List.mem_of_getElem? (i := 4) rfl))) (gi_sub (fun w h => (List.mem_cons_of_mem _ (List.mem_append_right _ (List.mem_append_right _ (List.mem_append_right _ (List.mem_append_left _ h)))))) zg_k172_X6_append)) rfl rfl rfl (by decide +kernel) ⟨Nat.le_of_ble_eq_true rfl, Nat.le_of_ble_eq_true rfl⟩ 13 rfl rfl rfl rfl (Nat.le_of_ble_eq_true rfl) ⟨Nat.le_of_ble_eq_true rfl, Nat.le_of_ble_eq_true rfl⟩ dX11_appendPlace_5 (fun v ty' w' hp hk' => ?_)
  obtain ⟨I2047, A2047, hI2047, hA2047, hV2047, y2044, c2045, c2046, rfl, rfl⟩ := hp
  show GW κ 2 0 0 (wX q d I2047 A2047) 8 [(0, .ref (q 0)), (1, .int z1)] [.int y2044]
  refine g_if_ne (tgt := 13) (a := y2044.toInt) hk dX11_appendPlace_8 (by decide) rfl (fun c2048 => ?_) (fun c2048 => ?_)
  · skip
    refine g_aload_n hk dX11_appendPlace_13 rfl ?_
    refine gX_r0_5 hk hin11 (List.mem_cons_of_mem _ (List.mem_append_left _ (List.mem_of_getElem? (i := 5) rfl))) dX11_appendPlace_14 ?_
    refine g_iconst (v := 0) hk dX11_appendPlace_17 (by decide) ?_
    refine g_iconst (v := 0) hk dX11_appendPlace_18 (by decide) ?_
    refine g_iconst (v := 0) hk dX11_appendPlace_19 (by decide) ?_
    have k2064 : (0 : Int32).toInt = 0 := rfl
    refine g_callV (n := 3) hk (k185_X3_note l D zt q d I2047 A2047 0 0 0 hV2047) (SP.same _) (fun _ h => h) (gi_V (List.mem_cons_of_mem _ (List.mem_append_left _ (List.mem_of_getElem? (i := 6) rfl))) (List.mem_cons_of_mem _ (List.mem_append_left _ (List.mem_of_getElem? (i := 7) rfl))) (List.mem_cons_of_mem _ (List.mem_append_left _ (List.mem_of_getElem? (i := 8) rfl))) (List.mem_cons_of_mem _ (List.mem_append_left _ (List.mem_of_getElem? (i := 9) rfl))) (gi_sub (fun w h => (List.mem_cons_of_mem _ (List.mem_append_right _ (List.mem_append_right _ (List.mem_append_right _ (List.mem_append_right _ (List.mem_append_left _ h))))))) zg_k185_X3_note)) rfl rfl rfl (by decide +kernel) ⟨Nat.le_of_ble_eq_true rfl, Nat.le_of_ble_eq_true rfl⟩ 20 rfl rfl rfl rfl (Nat.le_of_ble_eq_true rfl) ⟨Nat.le_of_ble_eq_true rfl, Nat.le_of_ble_eq_true rfl⟩ dX11_appendPlace_20 (fun v ty' w' hp hk' => ?_)
    obtain ⟨I2066, A2066, hI2066, hA2066, hV2066, rfl, rfl⟩ := hp
    show GW κ 2 0 0 (wX q d I2066 A2066) 23 [(0, .ref (q 0)), (1, .int z1)] []
    refine g_aload_n hk dX11_appendPlace_23 rfl ?_
    refine gX_r0_2 hk hin11 (List.mem_cons_of_mem _ (List.mem_append_left _ (List.mem_of_getElem? (i := 0) rfl))) dX11_appendPlace_24 ?_
    refine gX_i18 (v := (I2047 18)) hk hin6 (List.mem_cons_of_mem _ (List.mem_append_left _ (List.mem_of_getElem? (i := 10) rfl))) dX11_appendPlace_27 (hI2066 18 rfl) ?_
    have f2067 := IvX_f18 hV2047
    exact g_iret hk hR rfl ⟨I2066, A2066, (show Md [18, 20, 21] I I2066 from (Md.tr (Md.tr Md.rf hI2047 rfl) hI2066 rfl)), (show Md [7, 11, 12, 13] A A2066 from (Md.tr (Md.tr Md.rf hA2047 rfl) hA2066 rfl)), hV2066, (I2047 18), (by omega), (by omega), rfl, rfl⟩ dX11_appendPlace_30
  · skip
    refine g_iconst (v := (-1)) hk dX11_appendPlace_11 (by decide) ?_
    exact g_iret hk hR rfl ⟨I2047, A2047, (show Md [18, 20, 21] I I2047 from (Md.tr Md.rf hI2047 rfl)), (show Md [7, 11, 12, 13] A A2047 from (Md.tr Md.rf hA2047 rfl)), hV2047, (-1), (by decide), (by decide), rfl, rfl⟩ dX11_appendPlace_12
def wo_k183_X11_push : List Cond := [Cond.methodLink RX11 127 yX11_appendPlace, Cond.instanceMethod yX11_appendPlace, Cond.selects RX11 yX11_appendPlace yX11_appendPlace, Cond.initialized RX11]
def wz_k183_X11_push : List Cond := .code yX11_push cX11_push 2 (some .int) :: (wo_k183_X11_push ++ (wz_k184_X11_appendPlace ++ ([] : List Cond)))
theorem zg_k183_X11_push : ∀ w ∈ wz_k183_X11_push, goodWord w = true := zg_cons rfl (zg_app (by decide +kernel) (zg_app zg_k184_X11_appendPlace zg_nil))
theorem zi_k183_X11_push : ∀ w ∈ wz_k183_X11_push, w ∈ lw_tbl := zi_cons zw_818 (zi_app (zi_cons zw_819 (zi_cons zw_821 (zi_cons zw_23 (zi_cons zw_103 zi_nil)))) (zi_app zi_k184_X11_appendPlace zi_nil))
set_option maxHeartbeats 4000000 in
set_option maxRecDepth 100000 in
theorem k183_X11_push (l : Launch) (D : va_G) (zt : Nat × Nat × Nat × (Nat → Nat) × (Nat → Nat)) (q : Nat → Nat) (d : Nat → ClassId) (I : Nat → Int32) (A : Nat → Nat → Int32) (z1 : Int32) (hIv : IvX I A) : GM l D zt (tyX d) yX11_push wz_k183_X11_push ({ frames := 3, cells := 0, slots := 0, locals := 58 } : Room) [.ref (q 0), .int z1] (wX q d I A) (fun v _ w' => ∃ (I' : Nat → Int32) (A' : Nat → Nat → Int32), Md [18, 20, 21] I I' ∧ Md [7, 11, 12, 13] A A' ∧ IvX I' A' ∧ ∃ y0 : Int32, ((-1) ≤ y0.toInt) ∧ (y0.toInt ≤ 160) ∧ v = some (.int y0) ∧ w' = wX q d I' A') 0 0 := by
  refine GM.of (cc := cX11_push) (maxL := 2) (ret := (some .int)) (own := RX11) (lv := [(0, .ref (q 0)), (1, .int z1)]) (by decide) rfl rfl (Nat.le_of_ble_eq_true rfl) rfl (fun κ sz hk hR hN => ?_)
  refine g_iload_n hk dX11_push_0 rfl ?_
  refine g_sipush (v := (-999)) hk dX11_push_1 (by decide) ?_
  have b2041l := Int32.le_toInt z1
  have b2041h := Int32.toInt_lt z1
  refine g_icmp_lt (tgt := 14) (a := z1.toInt) (b := (-999)) hk dX11_push_4 (by decide) rfl rfl (fun c2042 => ?_) (fun c2042 => ?_)
  · skip
    refine g_iconst (v := (-1)) hk dX11_push_14 (by decide) ?_
    exact g_iret hk hR rfl ⟨I, A, (show Md [18, 20, 21] I I from Md.rf), (show Md [7, 11, 12, 13] A A from Md.rf), hIv, (-1), (by decide), (by decide), rfl, rfl⟩ dX11_push_15
  · skip
    refine g_iload_n hk dX11_push_7 rfl ?_
    refine g_sipush (v := 999) hk dX11_push_8 (by decide) ?_
    refine g_icmp_le (tgt := 16) (a := z1.toInt) (b := 999) hk dX11_push_11 (by decide) rfl rfl (fun c2043 => ?_) (fun c2043 => ?_)
    · skip
      refine g_aload_n hk dX11_push_16 rfl ?_
      refine g_iload_n hk dX11_push_17 rfl ?_
      refine g_callV (n := 1) hk (k184_X11_appendPlace l D zt q d I A z1 hIv) (SP.same _) (fun _ h => h) (gi_V (List.mem_cons_of_mem _ (List.mem_append_left _ (List.mem_of_getElem? (i := 0) rfl))) (List.mem_cons_of_mem _ (List.mem_append_left _ (List.mem_of_getElem? (i := 1) rfl))) (List.mem_cons_of_mem _ (List.mem_append_left _ (List.mem_of_getElem? (i := 2) rfl))) (List.mem_cons_of_mem _ (List.mem_append_left _ (List.mem_of_getElem? (i := 3) rfl))) (gi_sub (fun w h => (List.mem_cons_of_mem _ (List.mem_append_right _ (List.mem_append_left _ h)))) zg_k184_X11_appendPlace)) rfl rfl rfl (by decide +kernel) ⟨Nat.le_of_ble_eq_true rfl, Nat.le_of_ble_eq_true rfl⟩ 0 rfl rfl rfl rfl (Nat.le_of_ble_eq_true rfl) ⟨Nat.le_of_ble_eq_true rfl, Nat.le_of_ble_eq_true rfl⟩ dX11_push_18 (fun v ty' w' hp hk' => ?_)
      obtain ⟨I2071, A2071, hI2071, hA2071, hV2071, y2068, c2069, c2070, rfl, rfl⟩ := hp
      show GW κ 2 0 0 (wX q d I2071 A2071) 21 [(0, .ref (q 0)), (1, .int z1)] [.int y2068]
      exact g_iret hk hR rfl ⟨I2071, A2071, (show Md [18, 20, 21] I I2071 from (Md.tr Md.rf hI2071 rfl)), (show Md [7, 11, 12, 13] A A2071 from (Md.tr Md.rf hA2071 rfl)), hV2071, y2068, (by omega), (by omega), rfl, rfl⟩ dX11_push_21
    · skip
      refine g_iconst (v := (-1)) hk dX11_push_14 (by decide) ?_
      exact g_iret hk hR rfl ⟨I, A, (show Md [18, 20, 21] I I from Md.rf), (show Md [7, 11, 12, 13] A A from Md.rf), hIv, (-1), (by decide), (by decide), rfl, rfl⟩ dX11_push_15
def wo_k186_X11_gap : List Cond := [Cond.methodLink RX11 127 yX11_appendPlace, Cond.instanceMethod yX11_appendPlace, Cond.selects RX11 yX11_appendPlace yX11_appendPlace, Cond.initialized RX11]
def wz_k186_X11_gap : List Cond := .code yX11_gap cX11_gap 1 (some .int) :: (wo_k186_X11_gap ++ (wz_k184_X11_appendPlace ++ ([] : List Cond)))
theorem zg_k186_X11_gap : ∀ w ∈ wz_k186_X11_gap, goodWord w = true := zg_cons rfl (zg_app (by decide +kernel) (zg_app zg_k184_X11_appendPlace zg_nil))
theorem zi_k186_X11_gap : ∀ w ∈ wz_k186_X11_gap, w ∈ lw_tbl := zi_cons zw_834 (zi_app (zi_cons zw_819 (zi_cons zw_821 (zi_cons zw_23 (zi_cons zw_103 zi_nil)))) (zi_app zi_k184_X11_appendPlace zi_nil))
set_option maxHeartbeats 4000000 in
set_option maxRecDepth 100000 in
theorem k186_X11_gap (l : Launch) (D : va_G) (zt : Nat × Nat × Nat × (Nat → Nat) × (Nat → Nat)) (q : Nat → Nat) (d : Nat → ClassId) (I : Nat → Int32) (A : Nat → Nat → Int32) (hIv : IvX I A) : GM l D zt (tyX d) yX11_gap wz_k186_X11_gap ({ frames := 3, cells := 0, slots := 0, locals := 58 } : Room) [.ref (q 0)] (wX q d I A) (fun v _ w' => ∃ (I' : Nat → Int32) (A' : Nat → Nat → Int32), Md [18, 20, 21] I I' ∧ Md [7, 11, 12, 13] A A' ∧ IvX I' A' ∧ ∃ y0 : Int32, ((-1) ≤ y0.toInt) ∧ (y0.toInt ≤ 160) ∧ v = some (.int y0) ∧ w' = wX q d I' A') 0 0 := by
  refine GM.of (cc := cX11_gap) (maxL := 1) (ret := (some .int)) (own := RX11) (lv := [(0, .ref (q 0))]) (by decide) rfl rfl (Nat.le_of_ble_eq_true rfl) rfl (fun κ sz hk hR hN => ?_)
  refine g_aload_n hk dX11_gap_0 rfl ?_
  refine g_sipush (v := (-1000)) hk dX11_gap_1 (by decide) ?_
  have k2072 : ((-1000) : Int32).toInt = (-1000) := rfl
  refine g_callV (n := 1) hk (k184_X11_appendPlace l D zt q d I A (-1000) hIv) (SP.same _) (fun _ h => h) (gi_V (List.mem_cons_of_mem _ (List.mem_append_left _ (List.mem_of_getElem? (i := 0) rfl))) (List.mem_cons_of_mem _ (List.mem_append_left _ (List.mem_of_getElem? (i := 1) rfl))) (List.mem_cons_of_mem _ (List.mem_append_left _ (List.mem_of_getElem? (i := 2) rfl))) (List.mem_cons_of_mem _ (List.mem_append_left _ (List.mem_of_getElem? (i := 3) rfl))) (gi_sub (fun w h => (List.mem_cons_of_mem _ (List.mem_append_right _ (List.mem_append_left _ h)))) zg_k184_X11_appendPlace)) rfl rfl rfl (by decide +kernel) ⟨Nat.le_of_ble_eq_true rfl, Nat.le_of_ble_eq_true rfl⟩ 0 rfl rfl rfl rfl (Nat.le_of_ble_eq_true rfl) ⟨Nat.le_of_ble_eq_true rfl, Nat.le_of_ble_eq_true rfl⟩ dX11_gap_4 (fun v ty' w' hp hk' => ?_)
  obtain ⟨I2076, A2076, hI2076, hA2076, hV2076, y2073, c2074, c2075, rfl, rfl⟩ := hp
  show GW κ 1 0 0 (wX q d I2076 A2076) 7 [(0, .ref (q 0))] [.int y2073]
  exact g_iret hk hR rfl ⟨I2076, A2076, (show Md [18, 20, 21] I I2076 from (Md.tr Md.rf hI2076 rfl)), (show Md [7, 11, 12, 13] A A2076 from (Md.tr Md.rf hA2076 rfl)), hV2076, y2073, (by omega), (by omega), rfl, rfl⟩ dX11_gap_7
def wo_k188_X6_hasReading : List Cond := [Cond.methodLink RX6 33 yX6_valueAt, Cond.instanceMethod yX6_valueAt, Cond.selects RX6 yX6_valueAt yX6_valueAt, Cond.initialized RX6]
def wz_k188_X6_hasReading : List Cond := .code yX6_hasReading cX6_hasReading 2 (some .boolean) :: (wo_k188_X6_hasReading ++ (wz_k179_X6_valueAt ++ ([] : List Cond)))
theorem zg_k188_X6_hasReading : ∀ w ∈ wz_k188_X6_hasReading, goodWord w = true := zg_cons rfl (zg_app (by decide +kernel) (zg_app zg_k179_X6_valueAt zg_nil))
theorem zi_k188_X6_hasReading : ∀ w ∈ wz_k188_X6_hasReading, w ∈ lw_tbl := zi_cons zw_842 (zi_app (zi_cons zw_843 (zi_cons zw_807 (zi_cons zw_808 (zi_cons zw_109 zi_nil)))) (zi_app zi_k179_X6_valueAt zi_nil))
set_option maxHeartbeats 4000000 in
set_option maxRecDepth 100000 in
theorem k188_X6_hasReading (l : Launch) (D : va_G) (zt : Nat × Nat × Nat × (Nat → Nat) × (Nat → Nat)) (q : Nat → Nat) (d : Nat → ClassId) (I : Nat → Int32) (A : Nat → Nat → Int32) (z1 : Int32) (hIv : IvX I A) : GM l D zt (tyX d) yX6_hasReading wz_k188_X6_hasReading ({ frames := 1, cells := 0, slots := 0, locals := 21 } : Room) [.ref (q 13), .int z1] (wX q d I A) (fun v _ w' => (v = some (.int 0) ∧ w' = wX q d I A) ∨ (v = some (.int 1) ∧ w' = wX q d I A)) 0 0 := by
  refine GM.of (cc := cX6_hasReading) (maxL := 2) (ret := (some .boolean)) (own := RX6) (lv := [(0, .ref (q 13)), (1, .int z1)]) (by decide) rfl rfl (Nat.le_of_ble_eq_true rfl) rfl (fun κ sz hk hR hN => ?_)
  refine g_aload_n hk dX6_hasReading_0 rfl ?_
  refine g_iload_n hk dX6_hasReading_1 rfl ?_
  refine g_callV (n := 1) hk (k179_X6_valueAt l D zt q d I A z1 hIv) (SP.same _) (fun _ h => h) (gi_V (List.mem_cons_of_mem _ (List.mem_append_left _ (List.mem_of_getElem? (i := 0) rfl))) (List.mem_cons_of_mem _ (List.mem_append_left _ (List.mem_of_getElem? (i := 1) rfl))) (List.mem_cons_of_mem _ (List.mem_append_left _ (List.mem_of_getElem? (i := 2) rfl))) (List.mem_cons_of_mem _ (List.mem_append_left _ (List.mem_of_getElem? (i := 3) rfl))) (gi_sub (fun w h => (List.mem_cons_of_mem _ (List.mem_append_right _ (List.mem_append_left _ h)))) zg_k179_X6_valueAt)) rfl rfl rfl (by decide +kernel) ⟨Nat.le_of_ble_eq_true rfl, Nat.le_of_ble_eq_true rfl⟩ 13 rfl rfl rfl rfl (Nat.le_of_ble_eq_true rfl) ⟨Nat.le_of_ble_eq_true rfl, Nat.le_of_ble_eq_true rfl⟩ dX6_hasReading_2 (fun v ty' w' hp hk' => ?_)
  obtain ⟨y2082, rfl, rfl⟩ := hp
  show GW κ 2 0 0 (wX q d I A) 5 [(0, .ref (q 13)), (1, .int z1)] [.int y2082]
  refine g_sipush (v := (-1000)) hk dX6_hasReading_5 (by decide) ?_
  have b2083l := Int32.le_toInt y2082
  have b2083h := Int32.toInt_lt y2082
  refine g_icmp_eq (tgt := 15) (a := y2082.toInt) (b := (-1000)) hk dX6_hasReading_8 (by decide) rfl rfl (fun c2084 => ?_) (fun c2084 => ?_)
  · skip
    refine g_iconst (v := 0) hk dX6_hasReading_15 (by decide) ?_
    exact g_iret hk hR rfl (Or.inl ⟨rfl, rfl⟩) dX6_hasReading_16
  · skip
    refine g_iconst (v := 1) hk dX6_hasReading_11 (by decide) ?_
    refine g_goto (tgt := 16) hk dX6_hasReading_12 (by decide) ?_
    exact g_iret hk hR rfl (Or.inr (⟨rfl, rfl⟩)) dX6_hasReading_16
def wo_k189_J9_floorDiv_7cf53 : List Cond := []
def wz_k189_J9_floorDiv_7cf53 : List Cond := .code yJ9_floorDiv_7cf53 cJ9_floorDiv_7cf53 3 (some .int) :: (wo_k189_J9_floorDiv_7cf53 ++ ([] : List Cond))
theorem zg_k189_J9_floorDiv_7cf53 : ∀ w ∈ wz_k189_J9_floorDiv_7cf53, goodWord w = true := zg_cons rfl (zg_app (by decide +kernel) zg_nil)
theorem zi_k189_J9_floorDiv_7cf53 : ∀ w ∈ wz_k189_J9_floorDiv_7cf53, w ∈ lw_tbl := zi_cons zw_846 (zi_app zi_nil zi_nil)
set_option maxHeartbeats 4000000 in
set_option maxRecDepth 100000 in
theorem k189_J9_floorDiv_7cf53 (l : Launch) (D : va_G) (zt : Nat × Nat × Nat × (Nat → Nat) × (Nat → Nat)) (q : Nat → Nat) (d : Nat → ClassId) (I : Nat → Int32) (A : Nat → Nat → Int32) (z0 : Int32) (z1 : Int32) (hIv : IvX I A) (hp0 : 1 ≤ z1.toInt) : GM l D zt (tyX d) yJ9_floorDiv_7cf53 wz_k189_J9_floorDiv_7cf53 ({ frames := 0, cells := 0, slots := 0, locals := 0 } : Room) [.int z0, .int z1] (wX q d I A) (fun v _ w' => ∃ y0 : Int32, v = some (.int y0) ∧ w' = wX q d I A) 0 0 := by
  refine GM.ofF (cc := cJ9_floorDiv_7cf53) (maxL := 3) (ret := (some .int)) (own := RJ9) (lv := [(0, .int z0), (1, .int z1)]) (by decide +kernel) rfl rfl (Nat.le_of_ble_eq_true rfl) rfl (fun κ sz hk hR hN => ?_)
  refine g_iload_n hk dJ9_floorDiv_7cf53_0 rfl ?_
  refine g_iload_n hk dJ9_floorDiv_7cf53_1 rfl ?_
  have b2100l := Int32.le_toInt z1
  have b2100h := Int32.toInt_lt z1
  refine g_idiv hk dJ9_floorDiv_7cf53_2 (i32_ne0 (by omega)) ?_
  refine g_topi (fun y2101 ey2101 => ?_)
  refine g_istore_n (lv' := [(2, .int y2101), (0, .int z0), (1, .int z1)]) hk dJ9_floorDiv_7cf53_3 (by decide) rfl ?_
  refine g_iload_n hk dJ9_floorDiv_7cf53_4 rfl ?_
  refine g_iload_n hk dJ9_floorDiv_7cf53_5 rfl ?_
  have b2102l := Int32.le_toInt z0
  have b2102h := Int32.toInt_lt z0
  refine g_ixor hk dJ9_floorDiv_7cf53_6 ?_
  refine g_topi (fun y2103 ey2103 => ?_)
  have b2104l := Int32.le_toInt y2103
  have b2104h := Int32.toInt_lt y2103
  refine g_if_ge (tgt := 21) (a := y2103.toInt) hk dJ9_floorDiv_7cf53_7 (by decide) rfl (fun c2105 => ?_) (fun c2105 => ?_)
  · skip
    refine g_iload_n hk dJ9_floorDiv_7cf53_21 rfl ?_
    have b2106l := Int32.le_toInt y2101
    have b2106h := Int32.toInt_lt y2101
    exact g_iret hk hR rfl ⟨y2101, rfl, rfl⟩ dJ9_floorDiv_7cf53_22
  · skip
    refine g_iload_n hk dJ9_floorDiv_7cf53_10 rfl ?_
    refine g_iload_n hk dJ9_floorDiv_7cf53_11 rfl ?_
    have b2107l := Int32.le_toInt y2101
    have b2107h := Int32.toInt_lt y2101
    refine g_imul hk dJ9_floorDiv_7cf53_12 ?_
    refine g_topi (fun y2108 ey2108 => ?_)
    refine g_iload_n hk dJ9_floorDiv_7cf53_13 rfl ?_
    have b2109l := Int32.le_toInt y2108
    have b2109h := Int32.toInt_lt y2108
    refine g_icmp_eq (tgt := 21) (a := y2108.toInt) (b := z0.toInt) hk dJ9_floorDiv_7cf53_14 (by decide) rfl rfl (fun c2110 => ?_) (fun c2110 => ?_)
    · skip
      refine g_iload_n hk dJ9_floorDiv_7cf53_21 rfl ?_
      exact g_iret hk hR rfl ⟨y2101, rfl, rfl⟩ dJ9_floorDiv_7cf53_22
    · skip
      refine g_iload_n hk dJ9_floorDiv_7cf53_17 rfl ?_
      refine g_iconst (v := 1) hk dJ9_floorDiv_7cf53_18 (by decide) ?_
      refine g_isub hk dJ9_floorDiv_7cf53_19 ?_
      refine g_topi (fun y2111 ey2111 => ?_)
      have hy2111 := i32_sub0 ey2111
      have b2112l := Int32.le_toInt y2111
      have b2112h := Int32.toInt_lt y2111
      exact g_iret hk hR rfl ⟨y2111, rfl, rfl⟩ dJ9_floorDiv_7cf53_20
def wo_k190_X6_putAt : List Cond := [Cond.fieldLink RX6 19 "WarpDesk$Series" "size" "I", Cond.fieldLink RX6 11 "WarpDesk$Series" "ring" "[I", Cond.fieldLink RX6 15 "WarpDesk$Series" "first" "I"]
def wz_k190_X6_putAt : List Cond := .code yX6_putAt cX6_putAt 3 none :: (wo_k190_X6_putAt ++ (wsX60 ++ ([] : List Cond)))
theorem zg_k190_X6_putAt : ∀ w ∈ wz_k190_X6_putAt, goodWord w = true := zg_cons rfl (zg_app (by decide +kernel) (zg_app zgU_wsX60 zg_nil))
theorem zi_k190_X6_putAt : ∀ w ∈ wz_k190_X6_putAt, w ∈ lw_tbl := zi_cons zw_850 (zi_app (zi_cons zw_282 (zi_cons zw_280 (zi_cons zw_281 zi_nil))) (zi_app inX6 zi_nil))
set_option maxHeartbeats 4000000 in
set_option maxRecDepth 100000 in
theorem k190_X6_putAt (l : Launch) (D : va_G) (zt : Nat × Nat × Nat × (Nat → Nat) × (Nat → Nat)) (q : Nat → Nat) (d : Nat → ClassId) (I : Nat → Int32) (A : Nat → Nat → Int32) (z1 : Int32) (z2 : Int32) (hIv : IvX I A) : GM l D zt (tyX d) yX6_putAt wz_k190_X6_putAt ({ frames := 0, cells := 0, slots := 0, locals := 0 } : Room) [.ref (q 13), .int z1, .int z2] (wX q d I A) (fun v _ w' => ∃ (I' : Nat → Int32) (A' : Nat → Nat → Int32), Md [] I I' ∧ Md [7] A A' ∧ IvX I' A' ∧ v = none ∧ w' = wX q d I' A') 0 0 := by
  refine GM.of (cc := cX6_putAt) (maxL := 3) (ret := none) (own := RX6) (lv := [(0, .ref (q 13)), (1, .int z1), (2, .int z2)]) (by decide) rfl rfl (Nat.le_of_ble_eq_true rfl) rfl (fun κ sz hk hR hN => ?_)
  have hin6 : ∀ w ∈ u_ws RX6 TX6 3, w ∈ wz_k190_X6_putAt := fun w h => (List.mem_cons_of_mem _ (List.mem_append_right _ (List.mem_append_left _ h)))
  refine g_iload_n hk dX6_putAt_0 rfl ?_
  have b2115l := Int32.le_toInt z1
  have b2115h := Int32.toInt_lt z1
  refine g_if_lt (tgt := 28) (a := z1.toInt) hk dX6_putAt_1 (by decide) rfl (fun c2116 => ?_) (fun c2116 => ?_)
  · skip
    exact g_vret hk hR ⟨I, A, (show Md [] I I from Md.rf), (show Md [7] A A from Md.rf), hIv, rfl, rfl⟩ dX6_putAt_28
  · skip
    refine g_iload_n hk dX6_putAt_4 rfl ?_
    refine g_aload_n hk dX6_putAt_5 rfl ?_
    refine gX_i18 (v := (I 18)) hk hin6 (List.mem_cons_of_mem _ (List.mem_append_left _ (List.mem_of_getElem? (i := 0) rfl))) dX6_putAt_6 rfl ?_
    have f2117 := IvX_f18 hIv
    refine g_icmp_ge (tgt := 28) (a := z1.toInt) (b := (I 18).toInt) hk dX6_putAt_9 (by decide) rfl rfl (fun c2118 => ?_) (fun c2118 => ?_)
    · skip
      exact g_vret hk hR ⟨I, A, (show Md [] I I from Md.rf), (show Md [7] A A from Md.rf), hIv, rfl, rfl⟩ dX6_putAt_28
    · skip
      refine g_aload_n hk dX6_putAt_12 rfl ?_
      refine gX_r13_0 hk hin6 (List.mem_cons_of_mem _ (List.mem_append_left _ (List.mem_of_getElem? (i := 1) rfl))) dX6_putAt_13 ?_
      refine g_aload_n hk dX6_putAt_16 rfl ?_
      refine gX_i17 (v := (I 17)) hk hin6 (List.mem_cons_of_mem _ (List.mem_append_left _ (List.mem_of_getElem? (i := 2) rfl))) dX6_putAt_17 rfl ?_
      refine g_iload_n hk dX6_putAt_20 rfl ?_
      have b2119l := Int32.le_toInt (I 17)
      have b2119h := Int32.toInt_lt (I 17)
      refine g_iadd hk dX6_putAt_21 ?_
      refine g_topi (fun y2120 ey2120 => ?_)
      refine g_sipush (v := 255) hk dX6_putAt_22 (by decide) ?_
      have b2121l := Int32.le_toInt y2120
      have b2121h := Int32.toInt_lt y2120
      refine g_iand hk dX6_putAt_25 ?_
      refine g_topi (fun y2122 ey2122 => ?_)
      have hy2122 : 0 ≤ y2122.toInt ∧ y2122.toInt ≤ 255 := i32_mask 8 ey2122 (by decide) (by decide)
      refine g_iload_n hk dX6_putAt_26 rfl ?_
      refine sX_7 (j := y2122.toNatClampNeg) hk (vp_in_iff.mpr ⟨by omega, by omega⟩) rfl dX6_putAt_27 ?_
      exact g_vret hk hR ⟨I, (up3 A 7 (y2122.toNatClampNeg) z2), (show Md [] I I from Md.rf), (show Md [7] A (up3 A 7 (y2122.toNatClampNeg) z2) from (Md.up3 Md.rf rfl)), ⟨(IvX_f0 (I := I) (A := A) hIv), (IvX_f18 (I := I) (A := A) hIv), (IvX_f30 (I := I) (A := A) hIv), (IvX_f31 (I := I) (A := A) hIv), (IvX_a4 (I := I) (A := A) hIv), (IvX_a9 (I := I) (A := A) hIv), trivial⟩, rfl, rfl⟩ dX6_putAt_28
def wo_k187_X11_mend : List Cond := [Cond.fieldLink RX11 28 "WarpDesk" "series" "LWarpDesk$Series;", Cond.fieldLink RX11 138 "WarpDesk$Series" "size" "I", Cond.methodLink RX11 139 yX6_hasReading, Cond.instanceMethod yX6_hasReading, Cond.selects RX6 yX6_hasReading yX6_hasReading, Cond.initialized RX6, Cond.methodLink RX11 120 yX6_valueAt, Cond.instanceMethod yX6_valueAt, Cond.selects RX6 yX6_valueAt yX6_valueAt, Cond.methodLink RX11 142 yJ9_floorDiv_7cf53, Cond.static yJ9_floorDiv_7cf53, Cond.initialized RJ9, Cond.methodLink RX11 147 yX6_putAt, Cond.instanceMethod yX6_putAt, Cond.selects RX6 yX6_putAt yX6_putAt, Cond.fieldLink RX11 49 "WarpDesk" "past" "LWarpDesk$Past;", Cond.methodLink RX11 134 yX3_note, Cond.instanceMethod yX3_note, Cond.selects RX3 yX3_note yX3_note, Cond.initialized RX3]
def wz_k187_X11_mend : List Cond := .code yX11_mend cX11_mend 3 (some .int) :: (wo_k187_X11_mend ++ (wsX60 ++ (wsX110 ++ (wz_k188_X6_hasReading ++ (wz_k179_X6_valueAt ++ (wz_k189_J9_floorDiv_7cf53 ++ (wz_k190_X6_putAt ++ (wz_k185_X3_note ++ ([] : List Cond)))))))))
theorem zg_k187_X11_mend : ∀ w ∈ wz_k187_X11_mend, goodWord w = true := zg_cons rfl (zg_app (by decide +kernel) (zg_app zgU_wsX60 (zg_app zgU_wsX110 (zg_app zg_k188_X6_hasReading (zg_app zg_k179_X6_valueAt (zg_app zg_k189_J9_floorDiv_7cf53 (zg_app zg_k190_X6_putAt (zg_app zg_k185_X3_note zg_nil))))))))
theorem zi_k187_X11_mend : ∀ w ∈ wz_k187_X11_mend, w ∈ lw_tbl := zi_cons zw_838 (zi_app (zi_cons zw_489 (zi_cons zw_284 (zi_cons zw_839 (zi_cons zw_840 (zi_cons zw_841 (zi_cons zw_109 (zi_cons zw_806 (zi_cons zw_807 (zi_cons zw_808 (zi_cons zw_844 (zi_cons zw_845 (zi_cons zw_120 (zi_cons zw_847 (zi_cons zw_848 (zi_cons zw_849 (zi_cons zw_492 (zi_cons zw_824 (zi_cons zw_825 (zi_cons zw_826 (zi_cons zw_110 zi_nil)))))))))))))))))))) (zi_app inX6 (zi_app inX11 (zi_app zi_k188_X6_hasReading (zi_app zi_k179_X6_valueAt (zi_app zi_k189_J9_floorDiv_7cf53 (zi_app zi_k190_X6_putAt (zi_app zi_k185_X3_note zi_nil))))))))
set_option maxHeartbeats 4000000 in
set_option maxRecDepth 100000 in
theorem k187_X11_mend (l : Launch) (D : va_G) (zt : Nat × Nat × Nat × (Nat → Nat) × (Nat → Nat)) (q : Nat → Nat) (d : Nat → ClassId) (I : Nat → Int32) (A : Nat → Nat → Int32) (z1 : Int32) (hIv : IvX I A) : GM l D zt (tyX d) yX11_mend wz_k187_X11_mend ({ frames := 2, cells := 0, slots := 0, locals := 42 } : Room) [.ref (q 0), .int z1] (wX q d I A) (fun v _ w' => ∃ (I' : Nat → Int32) (A' : Nat → Nat → Int32), Md [20, 21] I I' ∧ Md [7, 11, 12, 13] A A' ∧ IvX I' A' ∧ ∃ y0 : Int32, v = some (.int y0) ∧ w' = wX q d I' A') 0 0 := by
  refine GM.of (cc := cX11_mend) (maxL := 3) (ret := (some .int)) (own := RX11) (lv := [(0, .ref (q 0)), (1, .int z1)]) (by decide) rfl rfl (Nat.le_of_ble_eq_true rfl) rfl (fun κ sz hk hR hN => ?_)
  have hin6 : ∀ w ∈ u_ws RX6 TX6 3, w ∈ wz_k187_X11_mend := fun w h => (List.mem_cons_of_mem _ (List.mem_append_right _ (List.mem_append_left _ h)))
  have hin11 : ∀ w ∈ u_ws RX11 TX11 10, w ∈ wz_k187_X11_mend := fun w h => (List.mem_cons_of_mem _ (List.mem_append_right _ (List.mem_append_right _ (List.mem_append_left _ h))))
  refine g_iload_n hk dX11_mend_0 rfl ?_
  refine g_iconst (v := 1) hk dX11_mend_1 (by decide) ?_
  have b2077l := Int32.le_toInt z1
  have b2077h := Int32.toInt_lt z1
  refine g_icmp_lt (tgt := 29) (a := z1.toInt) (b := 1) hk dX11_mend_2 (by decide) rfl rfl (fun c2078 => ?_) (fun c2078 => ?_)
  · skip
    refine g_sipush (v := (-1000)) hk dX11_mend_29 (by decide) ?_
    exact g_iret hk hR rfl ⟨I, A, (show Md [20, 21] I I from Md.rf), (show Md [7, 11, 12, 13] A A from Md.rf), hIv, (-1000), rfl, rfl⟩ dX11_mend_32
  · skip
    refine g_iload_n hk dX11_mend_5 rfl ?_
    refine g_aload_n hk dX11_mend_6 rfl ?_
    refine gX_r0_2 hk hin11 (List.mem_cons_of_mem _ (List.mem_append_left _ (List.mem_of_getElem? (i := 0) rfl))) dX11_mend_7 ?_
    refine gX_i18 (v := (I 18)) hk hin6 (List.mem_cons_of_mem _ (List.mem_append_left _ (List.mem_of_getElem? (i := 1) rfl))) dX11_mend_10 rfl ?_
    have f2079 := IvX_f18 hIv
    refine g_iconst (v := 1) hk dX11_mend_13 (by decide) ?_
    refine g_isub hk dX11_mend_14 ?_
    refine g_topi (fun y2080 ey2080 => ?_)
    have hy2080 : y2080.toInt = (I 18).toInt - 1 := i32_sub ey2080 rfl rfl (by omega) (by omega)
    refine g_icmp_ge (tgt := 29) (a := z1.toInt) (b := y2080.toInt) hk dX11_mend_15 (by decide) rfl rfl (fun c2081 => ?_) (fun c2081 => ?_)
    · skip
      refine g_sipush (v := (-1000)) hk dX11_mend_29 (by decide) ?_
      exact g_iret hk hR rfl ⟨I, A, (show Md [20, 21] I I from Md.rf), (show Md [7, 11, 12, 13] A A from Md.rf), hIv, (-1000), rfl, rfl⟩ dX11_mend_32
    · skip
      refine g_aload_n hk dX11_mend_18 rfl ?_
      refine gX_r0_2 hk hin11 (List.mem_cons_of_mem _ (List.mem_append_left _ (List.mem_of_getElem? (i := 0) rfl))) dX11_mend_19 ?_
      refine g_iload_n hk dX11_mend_22 rfl ?_
      refine g_callV (n := 1) hk (k188_X6_hasReading l D zt q d I A z1 hIv) (SP.same _) (fun _ h => h) (gi_V (List.mem_cons_of_mem _ (List.mem_append_left _ (List.mem_of_getElem? (i := 2) rfl))) (List.mem_cons_of_mem _ (List.mem_append_left _ (List.mem_of_getElem? (i := 3) rfl))) (List.mem_cons_of_mem _ (List.mem_append_left _ (List.mem_of_getElem? (i := 4) rfl))) (List.mem_cons_of_mem _ (List.mem_append_left _ (List.mem_of_getElem? (i := 5) rfl))) (gi_sub (fun w h => (List.mem_cons_of_mem _ (List.mem_append_right _ (List.mem_append_right _ (List.mem_append_right _ (List.mem_append_left _ h)))))) zg_k188_X6_hasReading)) rfl rfl rfl (by decide +kernel) ⟨Nat.le_of_ble_eq_true rfl, Nat.le_of_ble_eq_true rfl⟩ 13 rfl rfl rfl rfl (Nat.le_of_ble_eq_true rfl) ⟨Nat.le_of_ble_eq_true rfl, Nat.le_of_ble_eq_true rfl⟩ dX11_mend_23 (fun v ty' w' hp hk' => ?_)
      rcases hp with ⟨rfl, rfl⟩ | ⟨rfl, rfl⟩
      · skip
        show GW κ 3 0 0 (wX q d I A) 26 [(0, .ref (q 0)), (1, .int z1)] [.int 0]
        refine g_if_eq (tgt := 33) (a := 0) hk dX11_mend_26 (by decide) rfl (fun _ => ?_) (fun z9 => absurd (show (0 : Int) = (0 : Int) from by decide) z9)
        refine g_aload_n hk dX11_mend_33 rfl ?_
        refine gX_r0_2 hk hin11 (List.mem_cons_of_mem _ (List.mem_append_left _ (List.mem_of_getElem? (i := 0) rfl))) dX11_mend_34 ?_
        refine g_iload_n hk dX11_mend_37 rfl ?_
        refine g_iconst (v := 1) hk dX11_mend_38 (by decide) ?_
        refine g_isub hk dX11_mend_39 ?_
        refine g_topi (fun y2087 ey2087 => ?_)
        have hy2087 : y2087.toInt = z1.toInt - 1 := i32_sub ey2087 rfl rfl (by omega) (by omega)
        refine g_callV (n := 1) hk (k188_X6_hasReading l D zt q d I A y2087 hIv) (SP.same _) (fun _ h => h) (gi_V (List.mem_cons_of_mem _ (List.mem_append_left _ (List.mem_of_getElem? (i := 2) rfl))) (List.mem_cons_of_mem _ (List.mem_append_left _ (List.mem_of_getElem? (i := 3) rfl))) (List.mem_cons_of_mem _ (List.mem_append_left _ (List.mem_of_getElem? (i := 4) rfl))) (List.mem_cons_of_mem _ (List.mem_append_left _ (List.mem_of_getElem? (i := 5) rfl))) (gi_sub (fun w h => (List.mem_cons_of_mem _ (List.mem_append_right _ (List.mem_append_right _ (List.mem_append_right _ (List.mem_append_left _ h)))))) zg_k188_X6_hasReading)) rfl rfl rfl (by decide +kernel) ⟨Nat.le_of_ble_eq_true rfl, Nat.le_of_ble_eq_true rfl⟩ 13 rfl rfl rfl rfl (Nat.le_of_ble_eq_true rfl) ⟨Nat.le_of_ble_eq_true rfl, Nat.le_of_ble_eq_true rfl⟩ dX11_mend_40 (fun v ty' w' hp hk' => ?_)
        rcases hp with ⟨rfl, rfl⟩ | ⟨rfl, rfl⟩
        · skip
          show GW κ 3 0 0 (wX q d I A) 43 [(0, .ref (q 0)), (1, .int z1)] [.int 0]
          refine g_if_eq (tgt := 59) (a := 0) hk dX11_mend_43 (by decide) rfl (fun _ => ?_) (fun z9 => absurd (show (0 : Int) = (0 : Int) from by decide) z9)
          refine g_sipush (v := (-1000)) hk dX11_mend_59 (by decide) ?_
          exact g_iret hk hR rfl ⟨I, A, (show Md [20, 21] I I from Md.rf), (show Md [7, 11, 12, 13] A A from Md.rf), hIv, (-1000), rfl, rfl⟩ dX11_mend_62
        · skip
          show GW κ 3 0 0 (wX q d I A) 43 [(0, .ref (q 0)), (1, .int z1)] [.int 1]
          refine g_if_eq (tgt := 59) (a := 1) hk dX11_mend_43 (by decide) rfl (fun z9 => absurd z9 (show ¬ ((1 : Int) = (0 : Int)) from by decide)) (fun _ => ?_)
          refine g_aload_n hk dX11_mend_46 rfl ?_
          refine gX_r0_2 hk hin11 (List.mem_cons_of_mem _ (List.mem_append_left _ (List.mem_of_getElem? (i := 0) rfl))) dX11_mend_47 ?_
          refine g_iload_n hk dX11_mend_50 rfl ?_
          refine g_iconst (v := 1) hk dX11_mend_51 (by decide) ?_
          refine g_iadd hk dX11_mend_52 ?_
          refine g_topi (fun y2090 ey2090 => ?_)
          have hy2090 : y2090.toInt = z1.toInt + 1 := i32_add ey2090 rfl rfl (by omega) (by omega)
          refine g_callV (n := 1) hk (k188_X6_hasReading l D zt q d I A y2090 hIv) (SP.same _) (fun _ h => h) (gi_V (List.mem_cons_of_mem _ (List.mem_append_left _ (List.mem_of_getElem? (i := 2) rfl))) (List.mem_cons_of_mem _ (List.mem_append_left _ (List.mem_of_getElem? (i := 3) rfl))) (List.mem_cons_of_mem _ (List.mem_append_left _ (List.mem_of_getElem? (i := 4) rfl))) (List.mem_cons_of_mem _ (List.mem_append_left _ (List.mem_of_getElem? (i := 5) rfl))) (gi_sub (fun w h => (List.mem_cons_of_mem _ (List.mem_append_right _ (List.mem_append_right _ (List.mem_append_right _ (List.mem_append_left _ h)))))) zg_k188_X6_hasReading)) rfl rfl rfl (by decide +kernel) ⟨Nat.le_of_ble_eq_true rfl, Nat.le_of_ble_eq_true rfl⟩ 13 rfl rfl rfl rfl (Nat.le_of_ble_eq_true rfl) ⟨Nat.le_of_ble_eq_true rfl, Nat.le_of_ble_eq_true rfl⟩ dX11_mend_53 (fun v ty' w' hp hk' => ?_)
          rcases hp with ⟨rfl, rfl⟩ | ⟨rfl, rfl⟩
          · skip
            show GW κ 3 0 0 (wX q d I A) 56 [(0, .ref (q 0)), (1, .int z1)] [.int 0]
            refine g_if_ne (tgt := 63) (a := 0) hk dX11_mend_56 (by decide) rfl (fun z9 => absurd z9 (show ¬ ((0 : Int) ≠ (0 : Int)) from by decide)) (fun _ => ?_)
            refine g_sipush (v := (-1000)) hk dX11_mend_59 (by decide) ?_
            exact g_iret hk hR rfl ⟨I, A, (show Md [20, 21] I I from Md.rf), (show Md [7, 11, 12, 13] A A from Md.rf), hIv, (-1000), rfl, rfl⟩ dX11_mend_62
          · skip
            show GW κ 3 0 0 (wX q d I A) 56 [(0, .ref (q 0)), (1, .int z1)] [.int 1]
            refine g_if_ne (tgt := 63) (a := 1) hk dX11_mend_56 (by decide) rfl (fun _ => ?_) (fun z9 => absurd (show (1 : Int) ≠ (0 : Int) from by decide) z9)
            refine g_aload_n hk dX11_mend_63 rfl ?_
            refine gX_r0_2 hk hin11 (List.mem_cons_of_mem _ (List.mem_append_left _ (List.mem_of_getElem? (i := 0) rfl))) dX11_mend_64 ?_
            refine g_iload_n hk dX11_mend_67 rfl ?_
            refine g_iconst (v := 1) hk dX11_mend_68 (by decide) ?_
            refine g_isub hk dX11_mend_69 ?_
            refine g_topi (fun y2093 ey2093 => ?_)
            have hy2093 : y2093.toInt = z1.toInt - 1 := i32_sub ey2093 rfl rfl (by omega) (by omega)
            refine g_callV (n := 1) hk (k179_X6_valueAt l D zt q d I A y2093 hIv) (SP.same _) (fun _ h => h) (gi_V (List.mem_cons_of_mem _ (List.mem_append_left _ (List.mem_of_getElem? (i := 6) rfl))) (List.mem_cons_of_mem _ (List.mem_append_left _ (List.mem_of_getElem? (i := 7) rfl))) (List.mem_cons_of_mem _ (List.mem_append_left _ (List.mem_of_getElem? (i := 8) rfl))) (List.mem_cons_of_mem _ (List.mem_append_left _ (List.mem_of_getElem? (i := 5) rfl))) (gi_sub (fun w h => (List.mem_cons_of_mem _ (List.mem_append_right _ (List.mem_append_right _ (List.mem_append_right _ (List.mem_append_right _ (List.mem_append_left _ h))))))) zg_k179_X6_valueAt)) rfl rfl rfl (by decide +kernel) ⟨Nat.le_of_ble_eq_true rfl, Nat.le_of_ble_eq_true rfl⟩ 13 rfl rfl rfl rfl (Nat.le_of_ble_eq_true rfl) ⟨Nat.le_of_ble_eq_true rfl, Nat.le_of_ble_eq_true rfl⟩ dX11_mend_70 (fun v ty' w' hp hk' => ?_)
            obtain ⟨y2094, rfl, rfl⟩ := hp
            show GW κ 3 0 0 (wX q d I A) 73 [(0, .ref (q 0)), (1, .int z1)] [.int y2094]
            refine g_aload_n hk dX11_mend_73 rfl ?_
            refine gX_r0_2 hk hin11 (List.mem_cons_of_mem _ (List.mem_append_left _ (List.mem_of_getElem? (i := 0) rfl))) dX11_mend_74 ?_
            refine g_iload_n hk dX11_mend_77 rfl ?_
            refine g_iconst (v := 1) hk dX11_mend_78 (by decide) ?_
            refine g_iadd hk dX11_mend_79 ?_
            refine g_topi (fun y2095 ey2095 => ?_)
            have hy2095 : y2095.toInt = z1.toInt + 1 := i32_add ey2095 rfl rfl (by omega) (by omega)
            refine g_callV (n := 1) hk (k179_X6_valueAt l D zt q d I A y2095 hIv) (SP.same _) (fun _ h => h) (gi_V (List.mem_cons_of_mem _ (List.mem_append_left _ (List.mem_of_getElem? (i := 6) rfl))) (List.mem_cons_of_mem _ (List.mem_append_left _ (List.mem_of_getElem? (i := 7) rfl))) (List.mem_cons_of_mem _ (List.mem_append_left _ (List.mem_of_getElem? (i := 8) rfl))) (List.mem_cons_of_mem _ (List.mem_append_left _ (List.mem_of_getElem? (i := 5) rfl))) (gi_sub (fun w h => (List.mem_cons_of_mem _ (List.mem_append_right _ (List.mem_append_right _ (List.mem_append_right _ (List.mem_append_right _ (List.mem_append_left _ h))))))) zg_k179_X6_valueAt)) rfl rfl rfl (by decide +kernel) ⟨Nat.le_of_ble_eq_true rfl, Nat.le_of_ble_eq_true rfl⟩ 13 rfl rfl rfl rfl (Nat.le_of_ble_eq_true rfl) ⟨Nat.le_of_ble_eq_true rfl, Nat.le_of_ble_eq_true rfl⟩ dX11_mend_80 (fun v ty' w' hp hk' => ?_)
            obtain ⟨y2096, rfl, rfl⟩ := hp
            show GW κ 3 0 0 (wX q d I A) 83 [(0, .ref (q 0)), (1, .int z1)] [.int y2096, .int y2094]
            have b2097l := Int32.le_toInt y2094
            have b2097h := Int32.toInt_lt y2094
            have b2098l := Int32.le_toInt y2096
            have b2098h := Int32.toInt_lt y2096
            refine g_iadd hk dX11_mend_83 ?_
            refine g_topi (fun y2099 ey2099 => ?_)
            refine g_iconst (v := 2) hk dX11_mend_84 (by decide) ?_
            have k2113 : (2 : Int32).toInt = 2 := rfl
            refine g_callS (n := 2) hk (k189_J9_floorDiv_7cf53 l D zt q d I A y2099 2 hIv (by decide)) (SP.same _) (fun _ h => h) (gi_S (List.mem_cons_of_mem _ (List.mem_append_left _ (List.mem_of_getElem? (i := 9) rfl))) (List.mem_cons_of_mem _ (List.mem_append_left _ (List.mem_of_getElem? (i := 10) rfl))) (List.mem_cons_of_mem _ (List.mem_append_left _ (List.mem_of_getElem? (i := 11) rfl))) (gi_sub (fun w h => (List.mem_cons_of_mem _ (List.mem_append_right _ (List.mem_append_right _ (List.mem_append_right _ (List.mem_append_right _ (List.mem_append_right _ (List.mem_append_left _ h)))))))) zg_k189_J9_floorDiv_7cf53)) rfl rfl rfl (by decide +kernel) ⟨Nat.le_of_ble_eq_true rfl, Nat.le_of_ble_eq_true rfl⟩ rfl rfl (Nat.le_of_ble_eq_true rfl) ⟨Nat.le_of_ble_eq_true rfl, Nat.le_of_ble_eq_true rfl⟩ dX11_mend_85 (fun v ty' w' hp hk' => ?_)
            obtain ⟨y2114, rfl, rfl⟩ := hp
            show GW κ 3 0 0 (wX q d I A) 88 [(0, .ref (q 0)), (1, .int z1)] [.int y2114]
            refine g_istore_n (lv' := [(2, .int y2114), (0, .ref (q 0)), (1, .int z1)]) hk dX11_mend_88 (by decide) rfl ?_
            refine g_aload_n hk dX11_mend_89 rfl ?_
            refine gX_r0_2 hk hin11 (List.mem_cons_of_mem _ (List.mem_append_left _ (List.mem_of_getElem? (i := 0) rfl))) dX11_mend_90 ?_
            refine g_iload_n hk dX11_mend_93 rfl ?_
            refine g_iload_n hk dX11_mend_94 rfl ?_
            refine g_callV (n := 2) hk (k190_X6_putAt l D zt q d I A z1 y2114 hIv) (SP.same _) (fun _ h => h) (gi_V (List.mem_cons_of_mem _ (List.mem_append_left _ (List.mem_of_getElem? (i := 12) rfl))) (List.mem_cons_of_mem _ (List.mem_append_left _ (List.mem_of_getElem? (i := 13) rfl))) (List.mem_cons_of_mem _ (List.mem_append_left _ (List.mem_of_getElem? (i := 14) rfl))) (List.mem_cons_of_mem _ (List.mem_append_left _ (List.mem_of_getElem? (i := 5) rfl))) (gi_sub (fun w h => (List.mem_cons_of_mem _ (List.mem_append_right _ (List.mem_append_right _ (List.mem_append_right _ (List.mem_append_right _ (List.mem_append_right _ (List.mem_append_right _ (List.mem_append_left _ h))))))))) zg_k190_X6_putAt)) rfl rfl rfl (by decide +kernel) ⟨Nat.le_of_ble_eq_true rfl, Nat.le_of_ble_eq_true rfl⟩ 13 rfl rfl rfl rfl (Nat.le_of_ble_eq_true rfl) ⟨Nat.le_of_ble_eq_true rfl, Nat.le_of_ble_eq_true rfl⟩ dX11_mend_95 (fun v ty' w' hp hk' => ?_)
            obtain ⟨I2124, A2124, hI2124, hA2124, hV2124, rfl, rfl⟩ := hp
            show GW κ 3 0 0 (wX q d I2124 A2124) 98 [(2, .int y2114), (0, .ref (q 0)), (1, .int z1)] []
            refine g_aload_n hk dX11_mend_98 rfl ?_
            refine gX_r0_5 hk hin11 (List.mem_cons_of_mem _ (List.mem_append_left _ (List.mem_of_getElem? (i := 15) rfl))) dX11_mend_99 ?_
            refine g_iconst (v := 1) hk dX11_mend_102 (by decide) ?_
            refine g_iload_n hk dX11_mend_103 rfl ?_
            refine g_iconst (v := 0) hk dX11_mend_104 (by decide) ?_
            have k2125 : (1 : Int32).toInt = 1 := rfl
            have k2126 : (0 : Int32).toInt = 0 := rfl
            refine g_callV (n := 3) hk (k185_X3_note l D zt q d I2124 A2124 1 z1 0 hV2124) (SP.same _) (fun _ h => h) (gi_V (List.mem_cons_of_mem _ (List.mem_append_left _ (List.mem_of_getElem? (i := 16) rfl))) (List.mem_cons_of_mem _ (List.mem_append_left _ (List.mem_of_getElem? (i := 17) rfl))) (List.mem_cons_of_mem _ (List.mem_append_left _ (List.mem_of_getElem? (i := 18) rfl))) (List.mem_cons_of_mem _ (List.mem_append_left _ (List.mem_of_getElem? (i := 19) rfl))) (gi_sub (fun w h => (List.mem_cons_of_mem _ (List.mem_append_right _ (List.mem_append_right _ (List.mem_append_right _ (List.mem_append_right _ (List.mem_append_right _ (List.mem_append_right _ (List.mem_append_right _ (List.mem_append_left _ h)))))))))) zg_k185_X3_note)) rfl rfl rfl (by decide +kernel) ⟨Nat.le_of_ble_eq_true rfl, Nat.le_of_ble_eq_true rfl⟩ 20 rfl rfl rfl rfl (Nat.le_of_ble_eq_true rfl) ⟨Nat.le_of_ble_eq_true rfl, Nat.le_of_ble_eq_true rfl⟩ dX11_mend_105 (fun v ty' w' hp hk' => ?_)
            obtain ⟨I2128, A2128, hI2128, hA2128, hV2128, rfl, rfl⟩ := hp
            show GW κ 3 0 0 (wX q d I2128 A2128) 108 [(2, .int y2114), (0, .ref (q 0)), (1, .int z1)] []
            refine g_iload_n hk dX11_mend_108 rfl ?_
            have b2129l := Int32.le_toInt y2114
            have b2129h := Int32.toInt_lt y2114
            exact g_iret hk hR rfl ⟨I2128, A2128, (show Md [20, 21] I I2128 from (Md.tr (Md.tr Md.rf hI2124 rfl) hI2128 rfl)), (show Md [7, 11, 12, 13] A A2128 from (Md.tr (Md.tr Md.rf hA2124 rfl) hA2128 rfl)), hV2128, y2114, rfl, rfl⟩ dX11_mend_109
      · skip
        show GW κ 3 0 0 (wX q d I A) 26 [(0, .ref (q 0)), (1, .int z1)] [.int 1]
        refine g_if_eq (tgt := 33) (a := 1) hk dX11_mend_26 (by decide) rfl (fun z9 => absurd z9 (show ¬ ((1 : Int) = (0 : Int)) from by decide)) (fun _ => ?_)
        refine g_sipush (v := (-1000)) hk dX11_mend_29 (by decide) ?_
        exact g_iret hk hR rfl ⟨I, A, (show Md [20, 21] I I from Md.rf), (show Md [7, 11, 12, 13] A A from Md.rf), hIv, (-1000), rfl, rfl⟩ dX11_mend_32
def wo_k192_X6_cutFirst : List Cond := [Cond.fieldLink RX6 19 "WarpDesk$Series" "size" "I", Cond.fieldLink RX6 15 "WarpDesk$Series" "first" "I"]
def wz_k192_X6_cutFirst : List Cond := .code yX6_cutFirst cX6_cutFirst 2 (some .boolean) :: (wo_k192_X6_cutFirst ++ (wsX60 ++ ([] : List Cond)))
theorem zg_k192_X6_cutFirst : ∀ w ∈ wz_k192_X6_cutFirst, goodWord w = true := zg_cons rfl (zg_app (by decide +kernel) (zg_app zgU_wsX60 zg_nil))
theorem zi_k192_X6_cutFirst : ∀ w ∈ wz_k192_X6_cutFirst, w ∈ lw_tbl := zi_cons zw_858 (zi_app (zi_cons zw_282 (zi_cons zw_281 zi_nil)) (zi_app inX6 zi_nil))
set_option maxHeartbeats 4000000 in
set_option maxRecDepth 100000 in
theorem k192_X6_cutFirst (l : Launch) (D : va_G) (zt : Nat × Nat × Nat × (Nat → Nat) × (Nat → Nat)) (q : Nat → Nat) (d : Nat → ClassId) (I : Nat → Int32) (A : Nat → Nat → Int32) (z1 : Int32) (hIv : IvX I A) : GM l D zt (tyX d) yX6_cutFirst wz_k192_X6_cutFirst ({ frames := 0, cells := 0, slots := 0, locals := 0 } : Room) [.ref (q 13), .int z1] (wX q d I A) (fun v _ w' => ∃ (I' : Nat → Int32) (A' : Nat → Nat → Int32), Md [17, 18] I I' ∧ Md [] A A' ∧ IvX I' A' ∧ ∃ y0 : Int32, (0 ≤ y0.toInt) ∧ (y0.toInt ≤ 1) ∧ v = some (.int y0) ∧ w' = wX q d I' A') 0 0 := by
  refine GM.of (cc := cX6_cutFirst) (maxL := 2) (ret := (some .boolean)) (own := RX6) (lv := [(0, .ref (q 13)), (1, .int z1)]) (by decide) rfl rfl (Nat.le_of_ble_eq_true rfl) rfl (fun κ sz hk hR hN => ?_)
  have hin6 : ∀ w ∈ u_ws RX6 TX6 3, w ∈ wz_k192_X6_cutFirst := fun w h => (List.mem_cons_of_mem _ (List.mem_append_right _ (List.mem_append_left _ h)))
  refine g_iload_n hk dX6_cutFirst_0 rfl ?_
  refine g_iconst (v := 1) hk dX6_cutFirst_1 (by decide) ?_
  have b2130l := Int32.le_toInt z1
  have b2130h := Int32.toInt_lt z1
  refine g_icmp_lt (tgt := 13) (a := z1.toInt) (b := 1) hk dX6_cutFirst_2 (by decide) rfl rfl (fun c2131 => ?_) (fun c2131 => ?_)
  · skip
    refine g_iconst (v := 0) hk dX6_cutFirst_13 (by decide) ?_
    exact g_iret hk hR rfl ⟨I, A, (show Md [17, 18] I I from Md.rf), (show Md [] A A from Md.rf), hIv, 0, (by decide), (by decide), rfl, rfl⟩ dX6_cutFirst_14
  · skip
    refine g_iload_n hk dX6_cutFirst_5 rfl ?_
    refine g_aload_n hk dX6_cutFirst_6 rfl ?_
    refine gX_i18 (v := (I 18)) hk hin6 (List.mem_cons_of_mem _ (List.mem_append_left _ (List.mem_of_getElem? (i := 0) rfl))) dX6_cutFirst_7 rfl ?_
    have f2132 := IvX_f18 hIv
    refine g_icmp_le (tgt := 15) (a := z1.toInt) (b := (I 18).toInt) hk dX6_cutFirst_10 (by decide) rfl rfl (fun c2133 => ?_) (fun c2133 => ?_)
    · skip
      refine g_aload_n hk dX6_cutFirst_15 rfl ?_
      refine g_aload_n hk dX6_cutFirst_16 rfl ?_
      refine gX_i17 (v := (I 17)) hk hin6 (List.mem_cons_of_mem _ (List.mem_append_left _ (List.mem_of_getElem? (i := 1) rfl))) dX6_cutFirst_17 rfl ?_
      refine g_iload_n hk dX6_cutFirst_20 rfl ?_
      have b2134l := Int32.le_toInt (I 17)
      have b2134h := Int32.toInt_lt (I 17)
      refine g_iadd hk dX6_cutFirst_21 ?_
      refine g_topi (fun y2135 ey2135 => ?_)
      refine g_sipush (v := 255) hk dX6_cutFirst_22 (by decide) ?_
      have b2136l := Int32.le_toInt y2135
      have b2136h := Int32.toInt_lt y2135
      refine g_iand hk dX6_cutFirst_25 ?_
      refine g_topi (fun y2137 ey2137 => ?_)
      have hy2137 : 0 ≤ y2137.toInt ∧ y2137.toInt ≤ 255 := i32_mask 8 ey2137 (by decide) (by decide)
      refine pX_i17 hk hin6 (List.mem_cons_of_mem _ (List.mem_append_left _ (List.mem_of_getElem? (i := 1) rfl))) dX6_cutFirst_26 ?_
      refine g_aload_n hk dX6_cutFirst_29 rfl ?_
      refine g_dup hk dX6_cutFirst_30 rfl ?_
      refine gX_i18 (v := (I 18)) hk hin6 (List.mem_cons_of_mem _ (List.mem_append_left _ (List.mem_of_getElem? (i := 0) rfl))) dX6_cutFirst_31 rfl ?_
      refine g_iload_n hk dX6_cutFirst_34 rfl ?_
      refine g_isub hk dX6_cutFirst_35 ?_
      refine g_topi (fun y2138 ey2138 => ?_)
      have hy2138 : y2138.toInt = (I 18).toInt - z1.toInt := i32_sub ey2138 rfl rfl (by omega) (by omega)
      refine pX_i18 hk hin6 (List.mem_cons_of_mem _ (List.mem_append_left _ (List.mem_of_getElem? (i := 0) rfl))) dX6_cutFirst_36 ?_
      refine g_iconst (v := 1) hk dX6_cutFirst_39 (by decide) ?_
      exact g_iret hk hR rfl ⟨(upd (upd I 17 y2137) 18 y2138), A, (show Md [17, 18] I (upd (upd I 17 y2137) 18 y2138) from (Md.up (Md.up Md.rf rfl) rfl)), (show Md [] A A from Md.rf), ⟨(IvX_f0 (I := I) (A := A) hIv), (show 0 ≤ y2138.toInt ∧ y2138.toInt ≤ 160 from ⟨by omega, by omega⟩), (IvX_f30 (I := I) (A := A) hIv), (IvX_f31 (I := I) (A := A) hIv), (IvX_a4 (I := I) (A := A) hIv), (IvX_a9 (I := I) (A := A) hIv), trivial⟩, 1, (by decide), (by decide), rfl, rfl⟩ dX6_cutFirst_40
    · skip
      refine g_iconst (v := 0) hk dX6_cutFirst_13 (by decide) ?_
      exact g_iret hk hR rfl ⟨I, A, (show Md [17, 18] I I from Md.rf), (show Md [] A A from Md.rf), hIv, 0, (by decide), (by decide), rfl, rfl⟩ dX6_cutFirst_14
def wo_k191_X11_drop : List Cond := [Cond.fieldLink RX11 28 "WarpDesk" "series" "LWarpDesk$Series;", Cond.methodLink RX11 151 yX6_cutFirst, Cond.instanceMethod yX6_cutFirst, Cond.selects RX6 yX6_cutFirst yX6_cutFirst, Cond.initialized RX6, Cond.fieldLink RX11 49 "WarpDesk" "past" "LWarpDesk$Past;", Cond.methodLink RX11 134 yX3_note, Cond.instanceMethod yX3_note, Cond.selects RX3 yX3_note yX3_note, Cond.initialized RX3]
def wz_k191_X11_drop : List Cond := .code yX11_drop cX11_drop 2 (some .boolean) :: (wo_k191_X11_drop ++ (wsX110 ++ (wz_k192_X6_cutFirst ++ (wz_k185_X3_note ++ ([] : List Cond)))))
theorem zg_k191_X11_drop : ∀ w ∈ wz_k191_X11_drop, goodWord w = true := zg_cons rfl (zg_app (by decide +kernel) (zg_app zgU_wsX110 (zg_app zg_k192_X6_cutFirst (zg_app zg_k185_X3_note zg_nil))))
theorem zi_k191_X11_drop : ∀ w ∈ wz_k191_X11_drop, w ∈ lw_tbl := zi_cons zw_854 (zi_app (zi_cons zw_489 (zi_cons zw_855 (zi_cons zw_856 (zi_cons zw_857 (zi_cons zw_109 (zi_cons zw_492 (zi_cons zw_824 (zi_cons zw_825 (zi_cons zw_826 (zi_cons zw_110 zi_nil)))))))))) (zi_app inX11 (zi_app zi_k192_X6_cutFirst (zi_app zi_k185_X3_note zi_nil))))
set_option maxHeartbeats 4000000 in
set_option maxRecDepth 100000 in
theorem k191_X11_drop (l : Launch) (D : va_G) (zt : Nat × Nat × Nat × (Nat → Nat) × (Nat → Nat)) (q : Nat → Nat) (d : Nat → ClassId) (I : Nat → Int32) (A : Nat → Nat → Int32) (z1 : Int32) (hIv : IvX I A) : GM l D zt (tyX d) yX11_drop wz_k191_X11_drop ({ frames := 2, cells := 0, slots := 0, locals := 37 } : Room) [.ref (q 0), .int z1] (wX q d I A) (fun v _ w' => ∃ (I' : Nat → Int32) (A' : Nat → Nat → Int32), Md [17, 18, 20, 21] I I' ∧ Md [11, 12, 13] A A' ∧ IvX I' A' ∧ ∃ y0 : Int32, (0 ≤ y0.toInt) ∧ (y0.toInt ≤ 1) ∧ v = some (.int y0) ∧ w' = wX q d I' A') 0 0 := by
  refine GM.of (cc := cX11_drop) (maxL := 2) (ret := (some .boolean)) (own := RX11) (lv := [(0, .ref (q 0)), (1, .int z1)]) (by decide) rfl rfl (Nat.le_of_ble_eq_true rfl) rfl (fun κ sz hk hR hN => ?_)
  have hin11 : ∀ w ∈ u_ws RX11 TX11 10, w ∈ wz_k191_X11_drop := fun w h => (List.mem_cons_of_mem _ (List.mem_append_right _ (List.mem_append_left _ h)))
  refine g_aload_n hk dX11_drop_0 rfl ?_
  refine gX_r0_2 hk hin11 (List.mem_cons_of_mem _ (List.mem_append_left _ (List.mem_of_getElem? (i := 0) rfl))) dX11_drop_1 ?_
  refine g_iload_n hk dX11_drop_4 rfl ?_
  refine g_callV (n := 1) hk (k192_X6_cutFirst l D zt q d I A z1 hIv) (SP.same _) (fun _ h => h) (gi_V (List.mem_cons_of_mem _ (List.mem_append_left _ (List.mem_of_getElem? (i := 1) rfl))) (List.mem_cons_of_mem _ (List.mem_append_left _ (List.mem_of_getElem? (i := 2) rfl))) (List.mem_cons_of_mem _ (List.mem_append_left _ (List.mem_of_getElem? (i := 3) rfl))) (List.mem_cons_of_mem _ (List.mem_append_left _ (List.mem_of_getElem? (i := 4) rfl))) (gi_sub (fun w h => (List.mem_cons_of_mem _ (List.mem_append_right _ (List.mem_append_right _ (List.mem_append_left _ h))))) zg_k192_X6_cutFirst)) rfl rfl rfl (by decide +kernel) ⟨Nat.le_of_ble_eq_true rfl, Nat.le_of_ble_eq_true rfl⟩ 13 rfl rfl rfl rfl (Nat.le_of_ble_eq_true rfl) ⟨Nat.le_of_ble_eq_true rfl, Nat.le_of_ble_eq_true rfl⟩ dX11_drop_5 (fun v ty' w' hp hk' => ?_)
  obtain ⟨I2142, A2142, hI2142, hA2142, hV2142, y2139, c2140, c2141, rfl, rfl⟩ := hp
  show GW κ 2 0 0 (wX q d I2142 A2142) 8 [(0, .ref (q 0)), (1, .int z1)] [.int y2139]
  refine g_if_ne (tgt := 13) (a := y2139.toInt) hk dX11_drop_8 (by decide) rfl (fun c2143 => ?_) (fun c2143 => ?_)
  · skip
    refine g_aload_n hk dX11_drop_13 rfl ?_
    refine gX_r0_5 hk hin11 (List.mem_cons_of_mem _ (List.mem_append_left _ (List.mem_of_getElem? (i := 5) rfl))) dX11_drop_14 ?_
    refine g_iconst (v := 2) hk dX11_drop_17 (by decide) ?_
    refine g_iload_n hk dX11_drop_18 rfl ?_
    refine g_iconst (v := 0) hk dX11_drop_19 (by decide) ?_
    have k2144 : (2 : Int32).toInt = 2 := rfl
    have k2145 : (0 : Int32).toInt = 0 := rfl
    refine g_callV (n := 3) hk (k185_X3_note l D zt q d I2142 A2142 2 z1 0 hV2142) (SP.same _) (fun _ h => h) (gi_V (List.mem_cons_of_mem _ (List.mem_append_left _ (List.mem_of_getElem? (i := 6) rfl))) (List.mem_cons_of_mem _ (List.mem_append_left _ (List.mem_of_getElem? (i := 7) rfl))) (List.mem_cons_of_mem _ (List.mem_append_left _ (List.mem_of_getElem? (i := 8) rfl))) (List.mem_cons_of_mem _ (List.mem_append_left _ (List.mem_of_getElem? (i := 9) rfl))) (gi_sub (fun w h => (List.mem_cons_of_mem _ (List.mem_append_right _ (List.mem_append_right _ (List.mem_append_right _ (List.mem_append_left _ h)))))) zg_k185_X3_note)) rfl rfl rfl (by decide +kernel) ⟨Nat.le_of_ble_eq_true rfl, Nat.le_of_ble_eq_true rfl⟩ 20 rfl rfl rfl rfl (Nat.le_of_ble_eq_true rfl) ⟨Nat.le_of_ble_eq_true rfl, Nat.le_of_ble_eq_true rfl⟩ dX11_drop_20 (fun v ty' w' hp hk' => ?_)
    obtain ⟨I2147, A2147, hI2147, hA2147, hV2147, rfl, rfl⟩ := hp
    show GW κ 2 0 0 (wX q d I2147 A2147) 23 [(0, .ref (q 0)), (1, .int z1)] []
    refine g_iconst (v := 1) hk dX11_drop_23 (by decide) ?_
    exact g_iret hk hR rfl ⟨I2147, A2147, (show Md [17, 18, 20, 21] I I2147 from (Md.tr (Md.tr Md.rf hI2142 rfl) hI2147 rfl)), (show Md [11, 12, 13] A A2147 from (Md.tr (Md.tr Md.rf hA2142 rfl) hA2147 rfl)), hV2147, 1, (by decide), (by decide), rfl, rfl⟩ dX11_drop_24
  · skip
    refine g_iconst (v := 0) hk dX11_drop_11 (by decide) ?_
    exact g_iret hk hR rfl ⟨I2142, A2142, (show Md [17, 18, 20, 21] I I2142 from (Md.tr Md.rf hI2142 rfl)), (show Md [11, 12, 13] A A2142 from (Md.tr Md.rf hA2142 rfl)), hV2142, 0, (by decide), (by decide), rfl, rfl⟩ dX11_drop_12
def wo_k194_X7_valueOf : List Cond := [Cond.fieldLink RX7 20 "WarpDesk$Settings" "values" "[I"]
def wz_k194_X7_valueOf : List Cond := .code yX7_valueOf cX7_valueOf 2 (some .int) :: (wo_k194_X7_valueOf ++ (wsX70 ++ ([] : List Cond)))
theorem zg_k194_X7_valueOf : ∀ w ∈ wz_k194_X7_valueOf, goodWord w = true := zg_cons rfl (zg_app (by decide +kernel) (zg_app zgU_wsX70 zg_nil))
theorem zi_k194_X7_valueOf : ∀ w ∈ wz_k194_X7_valueOf, w ∈ lw_tbl := zi_cons zw_788 (zi_app (zi_cons zw_190 zi_nil) (zi_app inX7 zi_nil))
set_option maxHeartbeats 4000000 in
set_option maxRecDepth 100000 in
theorem k194_X7_valueOf (l : Launch) (D : va_G) (zt : Nat × Nat × Nat × (Nat → Nat) × (Nat → Nat)) (q : Nat → Nat) (d : Nat → ClassId) (I : Nat → Int32) (A : Nat → Nat → Int32) (z1 : Int32) (hIv : IvX I A) : GM l D zt (tyX d) yX7_valueOf wz_k194_X7_valueOf ({ frames := 0, cells := 0, slots := 0, locals := 0 } : Room) [.ref (q 18), .int z1] (wX q d I A) (fun v _ w' => ∃ y0 : Int32, v = some (.int y0) ∧ w' = wX q d I A) 0 0 := by
  refine GM.of (cc := cX7_valueOf) (maxL := 2) (ret := (some .int)) (own := RX7) (lv := [(0, .ref (q 18)), (1, .int z1)]) (by decide) rfl rfl (Nat.le_of_ble_eq_true rfl) rfl (fun κ sz hk hR hN => ?_)
  have hin7 : ∀ w ∈ u_ws RX7 TX7 1, w ∈ wz_k194_X7_valueOf := fun w h => (List.mem_cons_of_mem _ (List.mem_append_right _ (List.mem_append_left _ h)))
  refine g_iload_n hk dX7_valueOf_0 rfl ?_
  have b2148l := Int32.le_toInt z1
  have b2148h := Int32.toInt_lt z1
  refine g_if_lt (tgt := 22) (a := z1.toInt) hk dX7_valueOf_1 (by decide) rfl (fun c2149 => ?_) (fun c2149 => ?_)
  · skip
    refine g_iconst (v := (-1)) hk dX7_valueOf_22 (by decide) ?_
    exact g_iret hk hR rfl ⟨(-1), rfl, rfl⟩ dX7_valueOf_23
  · skip
    refine g_iload_n hk dX7_valueOf_4 rfl ?_
    refine g_aload_n hk dX7_valueOf_5 rfl ?_
    refine gX_r18_0 hk hin7 (List.mem_cons_of_mem _ (List.mem_append_left _ (List.mem_of_getElem? (i := 0) rfl))) dX7_valueOf_6 ?_
    refine nX_10 hk dX7_valueOf_9 ?_
    refine g_icmp_ge (tgt := 22) (a := z1.toInt) (b := 4) hk dX7_valueOf_10 (by decide) rfl rfl (fun c2150 => ?_) (fun c2150 => ?_)
    · skip
      refine g_iconst (v := (-1)) hk dX7_valueOf_22 (by decide) ?_
      exact g_iret hk hR rfl ⟨(-1), rfl, rfl⟩ dX7_valueOf_23
    · skip
      refine g_aload_n hk dX7_valueOf_13 rfl ?_
      refine gX_r18_0 hk hin7 (List.mem_cons_of_mem _ (List.mem_append_left _ (List.mem_of_getElem? (i := 0) rfl))) dX7_valueOf_14 ?_
      refine g_iload_n hk dX7_valueOf_17 rfl ?_
      refine lX_10 (v := (A 10 z1.toNatClampNeg)) hk (vp_in_iff.mpr ⟨by omega, by omega⟩) rfl dX7_valueOf_18 ?_
      refine g_goto (tgt := 23) hk dX7_valueOf_19 (by decide) ?_
      have b2151l := Int32.le_toInt (A 10 z1.toNatClampNeg)
      have b2151h := Int32.toInt_lt (A 10 z1.toNatClampNeg)
      exact g_iret hk hR rfl ⟨(A 10 z1.toNatClampNeg), rfl, rfl⟩ dX7_valueOf_23
def wo_k195_X7_put : List Cond := [Cond.fieldLink RX7 20 "WarpDesk$Settings" "values" "[I"]
def wz_k195_X7_put : List Cond := .code yX7_put cX7_put 3 none :: (wo_k195_X7_put ++ (wsX70 ++ ([] : List Cond)))
theorem zg_k195_X7_put : ∀ w ∈ wz_k195_X7_put, goodWord w = true := zg_cons rfl (zg_app (by decide +kernel) (zg_app zgU_wsX70 zg_nil))
theorem zi_k195_X7_put : ∀ w ∈ wz_k195_X7_put, w ∈ lw_tbl := zi_cons zw_553 (zi_app (zi_cons zw_190 zi_nil) (zi_app inX7 zi_nil))
set_option maxHeartbeats 4000000 in
set_option maxRecDepth 100000 in
theorem k195_X7_put (l : Launch) (D : va_G) (zt : Nat × Nat × Nat × (Nat → Nat) × (Nat → Nat)) (q : Nat → Nat) (d : Nat → ClassId) (I : Nat → Int32) (A : Nat → Nat → Int32) (z1 : Int32) (z2 : Int32) (hIv : IvX I A) : GM l D zt (tyX d) yX7_put wz_k195_X7_put ({ frames := 0, cells := 0, slots := 0, locals := 0 } : Room) [.ref (q 18), .int z1, .int z2] (wX q d I A) (fun v _ w' => ∃ (I' : Nat → Int32) (A' : Nat → Nat → Int32), Md [] I I' ∧ Md [10] A A' ∧ IvX I' A' ∧ v = none ∧ w' = wX q d I' A') 0 0 := by
  refine GM.of (cc := cX7_put) (maxL := 3) (ret := none) (own := RX7) (lv := [(0, .ref (q 18)), (1, .int z1), (2, .int z2)]) (by decide) rfl rfl (Nat.le_of_ble_eq_true rfl) rfl (fun κ sz hk hR hN => ?_)
  have hin7 : ∀ w ∈ u_ws RX7 TX7 1, w ∈ wz_k195_X7_put := fun w h => (List.mem_cons_of_mem _ (List.mem_append_right _ (List.mem_append_left _ h)))
  refine g_iload_n hk dX7_put_0 rfl ?_
  have b2163l := Int32.le_toInt z1
  have b2163h := Int32.toInt_lt z1
  refine g_if_lt (tgt := 20) (a := z1.toInt) hk dX7_put_1 (by decide) rfl (fun c2164 => ?_) (fun c2164 => ?_)
  · skip
    exact g_vret hk hR ⟨I, A, (show Md [] I I from Md.rf), (show Md [10] A A from Md.rf), hIv, rfl, rfl⟩ dX7_put_20
  · skip
    refine g_iload_n hk dX7_put_4 rfl ?_
    refine g_aload_n hk dX7_put_5 rfl ?_
    refine gX_r18_0 hk hin7 (List.mem_cons_of_mem _ (List.mem_append_left _ (List.mem_of_getElem? (i := 0) rfl))) dX7_put_6 ?_
    refine nX_10 hk dX7_put_9 ?_
    refine g_icmp_ge (tgt := 20) (a := z1.toInt) (b := 4) hk dX7_put_10 (by decide) rfl rfl (fun c2165 => ?_) (fun c2165 => ?_)
    · skip
      exact g_vret hk hR ⟨I, A, (show Md [] I I from Md.rf), (show Md [10] A A from Md.rf), hIv, rfl, rfl⟩ dX7_put_20
    · skip
      refine g_aload_n hk dX7_put_13 rfl ?_
      refine gX_r18_0 hk hin7 (List.mem_cons_of_mem _ (List.mem_append_left _ (List.mem_of_getElem? (i := 0) rfl))) dX7_put_14 ?_
      refine g_iload_n hk dX7_put_17 rfl ?_
      refine g_iload_n hk dX7_put_18 rfl ?_
      refine sX_10 (j := z1.toNatClampNeg) hk (vp_in_iff.mpr ⟨by omega, by omega⟩) rfl dX7_put_19 ?_
      exact g_vret hk hR ⟨I, (up3 A 10 (z1.toNatClampNeg) z2), (show Md [] I I from Md.rf), (show Md [10] A (up3 A 10 (z1.toNatClampNeg) z2) from (Md.up3 Md.rf rfl)), ⟨(IvX_f0 (I := I) (A := A) hIv), (IvX_f18 (I := I) (A := A) hIv), (IvX_f30 (I := I) (A := A) hIv), (IvX_f31 (I := I) (A := A) hIv), (IvX_a4 (I := I) (A := A) hIv), (IvX_a9 (I := I) (A := A) hIv), trivial⟩, rfl, rfl⟩ dX7_put_20
def wo_k193_X11_set : List Cond := [Cond.fieldLink RX11 42 "WarpDesk" "settings" "LWarpDesk$Settings;", Cond.methodLink RX11 154 yX7_valueOf, Cond.instanceMethod yX7_valueOf, Cond.selects RX7 yX7_valueOf yX7_valueOf, Cond.initialized RX7, Cond.methodLink RX11 157 yX7_allows, Cond.static yX7_allows, Cond.methodLink RX11 161 yX7_put, Cond.instanceMethod yX7_put, Cond.selects RX7 yX7_put yX7_put, Cond.fieldLink RX11 49 "WarpDesk" "past" "LWarpDesk$Past;", Cond.methodLink RX11 134 yX3_note, Cond.instanceMethod yX3_note, Cond.selects RX3 yX3_note yX3_note, Cond.initialized RX3]
def wz_k193_X11_set : List Cond := .code yX11_set cX11_set 4 (some .boolean) :: (wo_k193_X11_set ++ (wsX110 ++ (wz_k194_X7_valueOf ++ (wz_k162_X7_allows ++ (wz_k195_X7_put ++ (wz_k185_X3_note ++ ([] : List Cond)))))))
theorem zg_k193_X11_set : ∀ w ∈ wz_k193_X11_set, goodWord w = true := zg_cons rfl (zg_app (by decide +kernel) (zg_app zgU_wsX110 (zg_app zg_k194_X7_valueOf (zg_app zg_k162_X7_allows (zg_app zg_k195_X7_put (zg_app zg_k185_X3_note zg_nil))))))
theorem zi_k193_X11_set : ∀ w ∈ wz_k193_X11_set, w ∈ lw_tbl := zi_cons zw_862 (zi_app (zi_cons zw_491 (zi_cons zw_863 (zi_cons zw_786 (zi_cons zw_787 (zi_cons zw_107 (zi_cons zw_864 (zi_cons zw_723 (zi_cons zw_865 (zi_cons zw_551 (zi_cons zw_552 (zi_cons zw_492 (zi_cons zw_824 (zi_cons zw_825 (zi_cons zw_826 (zi_cons zw_110 zi_nil))))))))))))))) (zi_app inX11 (zi_app zi_k194_X7_valueOf (zi_app zi_k162_X7_allows (zi_app zi_k195_X7_put (zi_app zi_k185_X3_note zi_nil))))))
set_option maxHeartbeats 4000000 in
set_option maxRecDepth 100000 in
theorem k193_X11_set (l : Launch) (D : va_G) (zt : Nat × Nat × Nat × (Nat → Nat) × (Nat → Nat)) (q : Nat → Nat) (d : Nat → ClassId) (I : Nat → Int32) (A : Nat → Nat → Int32) (z1 : Int32) (z2 : Int32) (hIv : IvX I A) : GM l D zt (tyX d) yX11_set wz_k193_X11_set ({ frames := 2, cells := 0, slots := 0, locals := 37 } : Room) [.ref (q 0), .int z1, .int z2] (wX q d I A) (fun v _ w' => ∃ (I' : Nat → Int32) (A' : Nat → Nat → Int32), Md [20, 21] I I' ∧ Md [10, 11, 12, 13] A A' ∧ IvX I' A' ∧ ∃ y0 : Int32, (0 ≤ y0.toInt) ∧ (y0.toInt ≤ 1) ∧ v = some (.int y0) ∧ w' = wX q d I' A') 0 0 := by
  refine GM.of (cc := cX11_set) (maxL := 4) (ret := (some .boolean)) (own := RX11) (lv := [(0, .ref (q 0)), (1, .int z1), (2, .int z2)]) (by decide) rfl rfl (Nat.le_of_ble_eq_true rfl) rfl (fun κ sz hk hR hN => ?_)
  have hin11 : ∀ w ∈ u_ws RX11 TX11 10, w ∈ wz_k193_X11_set := fun w h => (List.mem_cons_of_mem _ (List.mem_append_right _ (List.mem_append_left _ h)))
  refine g_aload_n hk dX11_set_0 rfl ?_
  refine gX_r0_4 hk hin11 (List.mem_cons_of_mem _ (List.mem_append_left _ (List.mem_of_getElem? (i := 0) rfl))) dX11_set_1 ?_
  refine g_iload_n hk dX11_set_4 rfl ?_
  refine g_callV (n := 1) hk (k194_X7_valueOf l D zt q d I A z1 hIv) (SP.same _) (fun _ h => h) (gi_V (List.mem_cons_of_mem _ (List.mem_append_left _ (List.mem_of_getElem? (i := 1) rfl))) (List.mem_cons_of_mem _ (List.mem_append_left _ (List.mem_of_getElem? (i := 2) rfl))) (List.mem_cons_of_mem _ (List.mem_append_left _ (List.mem_of_getElem? (i := 3) rfl))) (List.mem_cons_of_mem _ (List.mem_append_left _ (List.mem_of_getElem? (i := 4) rfl))) (gi_sub (fun w h => (List.mem_cons_of_mem _ (List.mem_append_right _ (List.mem_append_right _ (List.mem_append_left _ h))))) zg_k194_X7_valueOf)) rfl rfl rfl (by decide +kernel) ⟨Nat.le_of_ble_eq_true rfl, Nat.le_of_ble_eq_true rfl⟩ 18 rfl rfl rfl rfl (Nat.le_of_ble_eq_true rfl) ⟨Nat.le_of_ble_eq_true rfl, Nat.le_of_ble_eq_true rfl⟩ dX11_set_5 (fun v ty' w' hp hk' => ?_)
  obtain ⟨y2152, rfl, rfl⟩ := hp
  show GW κ 4 0 0 (wX q d I A) 8 [(0, .ref (q 0)), (1, .int z1), (2, .int z2)] [.int y2152]
  refine g_istore_n (lv' := [(3, .int y2152), (0, .ref (q 0)), (1, .int z1), (2, .int z2)]) hk dX11_set_8 (by decide) rfl ?_
  refine g_iload_n hk dX11_set_9 rfl ?_
  refine g_iload_n hk dX11_set_10 rfl ?_
  refine g_callS (n := 2) hk (k162_X7_allows l D zt q d I A z1 z2 hIv) (SP.same _) (fun _ h => h) (gi_S (List.mem_cons_of_mem _ (List.mem_append_left _ (List.mem_of_getElem? (i := 5) rfl))) (List.mem_cons_of_mem _ (List.mem_append_left _ (List.mem_of_getElem? (i := 6) rfl))) (List.mem_cons_of_mem _ (List.mem_append_left _ (List.mem_of_getElem? (i := 4) rfl))) (gi_sub (fun w h => (List.mem_cons_of_mem _ (List.mem_append_right _ (List.mem_append_right _ (List.mem_append_right _ (List.mem_append_left _ h)))))) zg_k162_X7_allows)) rfl rfl rfl (by decide +kernel) ⟨Nat.le_of_ble_eq_true rfl, Nat.le_of_ble_eq_true rfl⟩ rfl rfl (Nat.le_of_ble_eq_true rfl) ⟨Nat.le_of_ble_eq_true rfl, Nat.le_of_ble_eq_true rfl⟩ dX11_set_11 (fun v ty' w' hp hk' => ?_)
  rcases hp with ⟨rfl, rfl⟩ | ⟨c2154, c2155, c2156, c2157, c2158, c2159, rfl, rfl⟩
  · skip
    show GW κ 4 0 0 (wX q d I A) 14 [(3, .int y2152), (0, .ref (q 0)), (1, .int z1), (2, .int z2)] [.int 0]
    refine g_if_eq (tgt := 22) (a := 0) hk dX11_set_14 (by decide) rfl (fun _ => ?_) (fun z9 => absurd (show (0 : Int) = (0 : Int) from by decide) z9)
    refine g_iconst (v := 0) hk dX11_set_22 (by decide) ?_
    exact g_iret hk hR rfl ⟨I, A, (show Md [20, 21] I I from Md.rf), (show Md [10, 11, 12, 13] A A from Md.rf), hIv, 0, (by decide), (by decide), rfl, rfl⟩ dX11_set_23
  · skip
    show GW κ 4 0 0 (wX q d I A) 14 [(3, .int y2152), (0, .ref (q 0)), (1, .int z1), (2, .int z2)] [.int 1]
    refine g_if_eq (tgt := 22) (a := 1) hk dX11_set_14 (by decide) rfl (fun z9 => absurd z9 (show ¬ ((1 : Int) = (0 : Int)) from by decide)) (fun _ => ?_)
    refine g_iload_n hk dX11_set_17 rfl ?_
    refine g_iload_n hk dX11_set_18 rfl ?_
    have b2161l := Int32.le_toInt y2152
    have b2161h := Int32.toInt_lt y2152
    refine g_icmp_ne (tgt := 24) (a := y2152.toInt) (b := z2.toInt) hk dX11_set_19 (by decide) rfl rfl (fun c2162 => ?_) (fun c2162 => ?_)
    · skip
      refine g_aload_n hk dX11_set_24 rfl ?_
      refine gX_r0_4 hk hin11 (List.mem_cons_of_mem _ (List.mem_append_left _ (List.mem_of_getElem? (i := 0) rfl))) dX11_set_25 ?_
      refine g_iload_n hk dX11_set_28 rfl ?_
      refine g_iload_n hk dX11_set_29 rfl ?_
      refine g_callV (n := 2) hk (k195_X7_put l D zt q d I A z1 z2 hIv) (SP.same _) (fun _ h => h) (gi_V (List.mem_cons_of_mem _ (List.mem_append_left _ (List.mem_of_getElem? (i := 7) rfl))) (List.mem_cons_of_mem _ (List.mem_append_left _ (List.mem_of_getElem? (i := 8) rfl))) (List.mem_cons_of_mem _ (List.mem_append_left _ (List.mem_of_getElem? (i := 9) rfl))) (List.mem_cons_of_mem _ (List.mem_append_left _ (List.mem_of_getElem? (i := 4) rfl))) (gi_sub (fun w h => (List.mem_cons_of_mem _ (List.mem_append_right _ (List.mem_append_right _ (List.mem_append_right _ (List.mem_append_right _ (List.mem_append_left _ h))))))) zg_k195_X7_put)) rfl rfl rfl (by decide +kernel) ⟨Nat.le_of_ble_eq_true rfl, Nat.le_of_ble_eq_true rfl⟩ 18 rfl rfl rfl rfl (Nat.le_of_ble_eq_true rfl) ⟨Nat.le_of_ble_eq_true rfl, Nat.le_of_ble_eq_true rfl⟩ dX11_set_30 (fun v ty' w' hp hk' => ?_)
      obtain ⟨I2167, A2167, hI2167, hA2167, hV2167, rfl, rfl⟩ := hp
      show GW κ 4 0 0 (wX q d I2167 A2167) 33 [(3, .int y2152), (0, .ref (q 0)), (1, .int z1), (2, .int z2)] []
      refine g_aload_n hk dX11_set_33 rfl ?_
      refine gX_r0_5 hk hin11 (List.mem_cons_of_mem _ (List.mem_append_left _ (List.mem_of_getElem? (i := 10) rfl))) dX11_set_34 ?_
      refine g_iconst (v := 3) hk dX11_set_37 (by decide) ?_
      refine g_iload_n hk dX11_set_38 rfl ?_
      refine g_iload_n hk dX11_set_39 rfl ?_
      have k2168 : (3 : Int32).toInt = 3 := rfl
      refine g_callV (n := 3) hk (k185_X3_note l D zt q d I2167 A2167 3 z1 y2152 hV2167) (SP.same _) (fun _ h => h) (gi_V (List.mem_cons_of_mem _ (List.mem_append_left _ (List.mem_of_getElem? (i := 11) rfl))) (List.mem_cons_of_mem _ (List.mem_append_left _ (List.mem_of_getElem? (i := 12) rfl))) (List.mem_cons_of_mem _ (List.mem_append_left _ (List.mem_of_getElem? (i := 13) rfl))) (List.mem_cons_of_mem _ (List.mem_append_left _ (List.mem_of_getElem? (i := 14) rfl))) (gi_sub (fun w h => (List.mem_cons_of_mem _ (List.mem_append_right _ (List.mem_append_right _ (List.mem_append_right _ (List.mem_append_right _ (List.mem_append_right _ (List.mem_append_left _ h)))))))) zg_k185_X3_note)) rfl rfl rfl (by decide +kernel) ⟨Nat.le_of_ble_eq_true rfl, Nat.le_of_ble_eq_true rfl⟩ 20 rfl rfl rfl rfl (Nat.le_of_ble_eq_true rfl) ⟨Nat.le_of_ble_eq_true rfl, Nat.le_of_ble_eq_true rfl⟩ dX11_set_40 (fun v ty' w' hp hk' => ?_)
      obtain ⟨I2170, A2170, hI2170, hA2170, hV2170, rfl, rfl⟩ := hp
      show GW κ 4 0 0 (wX q d I2170 A2170) 43 [(3, .int y2152), (0, .ref (q 0)), (1, .int z1), (2, .int z2)] []
      refine g_iconst (v := 1) hk dX11_set_43 (by decide) ?_
      exact g_iret hk hR rfl ⟨I2170, A2170, (show Md [20, 21] I I2170 from (Md.tr (Md.tr Md.rf hI2167 rfl) hI2170 rfl)), (show Md [10, 11, 12, 13] A A2170 from (Md.tr (Md.tr Md.rf hA2167 rfl) hA2170 rfl)), hV2170, 1, (by decide), (by decide), rfl, rfl⟩ dX11_set_44
    · skip
      refine g_iconst (v := 0) hk dX11_set_22 (by decide) ?_
      exact g_iret hk hR rfl ⟨I, A, (show Md [20, 21] I I from Md.rf), (show Md [10, 11, 12, 13] A A from Md.rf), hIv, 0, (by decide), (by decide), rfl, rfl⟩ dX11_set_23
def wo_k197_X3_stepBack : List Cond := [Cond.fieldLink RX3 19 "WarpDesk$Past" "size" "I", Cond.fieldLink RX3 23 "WarpDesk$Past" "next" "I"]
def wz_k197_X3_stepBack : List Cond := .code yX3_stepBack cX3_stepBack 1 (some .boolean) :: (wo_k197_X3_stepBack ++ (wsX30 ++ ([] : List Cond)))
theorem zg_k197_X3_stepBack : ∀ w ∈ wz_k197_X3_stepBack, goodWord w = true := zg_cons rfl (zg_app (by decide +kernel) (zg_app zgU_wsX30 zg_nil))
theorem zi_k197_X3_stepBack : ∀ w ∈ wz_k197_X3_stepBack, w ∈ lw_tbl := zi_cons zw_873 (zi_app (zi_cons zw_306 (zi_cons zw_305 zi_nil)) (zi_app inX3 zi_nil))
set_option maxHeartbeats 4000000 in
set_option maxRecDepth 100000 in
theorem k197_X3_stepBack (l : Launch) (D : va_G) (zt : Nat × Nat × Nat × (Nat → Nat) × (Nat → Nat)) (q : Nat → Nat) (d : Nat → ClassId) (I : Nat → Int32) (A : Nat → Nat → Int32) (hIv : IvX I A) : GM l D zt (tyX d) yX3_stepBack wz_k197_X3_stepBack ({ frames := 0, cells := 0, slots := 0, locals := 0 } : Room) [.ref (q 20)] (wX q d I A) (fun v _ w' => ∃ (I' : Nat → Int32) (A' : Nat → Nat → Int32), Md [20, 21] I I' ∧ Md [] A A' ∧ IvX I' A' ∧ ∃ y0 : Int32, (0 ≤ y0.toInt) ∧ (y0.toInt ≤ 1) ∧ v = some (.int y0) ∧ w' = wX q d I' A') 0 0 := by
  refine GM.of (cc := cX3_stepBack) (maxL := 1) (ret := (some .boolean)) (own := RX3) (lv := [(0, .ref (q 20))]) (by decide) rfl rfl (Nat.le_of_ble_eq_true rfl) rfl (fun κ sz hk hR hN => ?_)
  have hin3 : ∀ w ∈ u_ws RX3 TX3 5, w ∈ wz_k197_X3_stepBack := fun w h => (List.mem_cons_of_mem _ (List.mem_append_right _ (List.mem_append_left _ h)))
  refine g_aload_n hk dX3_stepBack_0 rfl ?_
  refine gX_i21 (v := (I 21)) hk hin3 (List.mem_cons_of_mem _ (List.mem_append_left _ (List.mem_of_getElem? (i := 0) rfl))) dX3_stepBack_1 rfl ?_
  refine g_iconst (v := 1) hk dX3_stepBack_4 (by decide) ?_
  have b2171l := Int32.le_toInt (I 21)
  have b2171h := Int32.toInt_lt (I 21)
  refine g_icmp_ge (tgt := 10) (a := (I 21).toInt) (b := 1) hk dX3_stepBack_5 (by decide) rfl rfl (fun c2172 => ?_) (fun c2172 => ?_)
  · skip
    refine g_aload_n hk dX3_stepBack_10 rfl ?_
    refine g_aload_n hk dX3_stepBack_11 rfl ?_
    refine gX_i20 (v := (I 20)) hk hin3 (List.mem_cons_of_mem _ (List.mem_append_left _ (List.mem_of_getElem? (i := 1) rfl))) dX3_stepBack_12 rfl ?_
    have b2173l := Int32.le_toInt (I 20)
    have b2173h := Int32.toInt_lt (I 20)
    refine g_if_ne (tgt := 23) (a := (I 20).toInt) hk dX3_stepBack_15 (by decide) rfl (fun c2174 => ?_) (fun c2174 => ?_)
    · skip
      refine g_aload_n hk dX3_stepBack_23 rfl ?_
      refine gX_i20 (v := (I 20)) hk hin3 (List.mem_cons_of_mem _ (List.mem_append_left _ (List.mem_of_getElem? (i := 1) rfl))) dX3_stepBack_24 rfl ?_
      refine g_iconst (v := 1) hk dX3_stepBack_27 (by decide) ?_
      refine g_isub hk dX3_stepBack_28 ?_
      refine g_topi (fun y2175 ey2175 => ?_)
      have hy2175 := i32_sub0 ey2175
      refine pX_i20 hk hin3 (List.mem_cons_of_mem _ (List.mem_append_left _ (List.mem_of_getElem? (i := 1) rfl))) dX3_stepBack_29 ?_
      refine g_aload_n hk dX3_stepBack_32 rfl ?_
      refine g_dup hk dX3_stepBack_33 rfl ?_
      refine gX_i21 (v := (I 21)) hk hin3 (List.mem_cons_of_mem _ (List.mem_append_left _ (List.mem_of_getElem? (i := 0) rfl))) dX3_stepBack_34 rfl ?_
      refine g_iconst (v := 1) hk dX3_stepBack_37 (by decide) ?_
      refine g_isub hk dX3_stepBack_38 ?_
      refine g_topi (fun y2176 ey2176 => ?_)
      have hy2176 : y2176.toInt = (I 21).toInt - 1 := i32_sub ey2176 rfl rfl (by omega) (by omega)
      refine pX_i21 hk hin3 (List.mem_cons_of_mem _ (List.mem_append_left _ (List.mem_of_getElem? (i := 0) rfl))) dX3_stepBack_39 ?_
      refine g_iconst (v := 1) hk dX3_stepBack_42 (by decide) ?_
      exact g_iret hk hR rfl ⟨(upd (upd I 20 y2175) 21 y2176), A, (show Md [20, 21] I (upd (upd I 20 y2175) 21 y2176) from (Md.up (Md.up Md.rf rfl) rfl)), (show Md [] A A from Md.rf), ⟨(IvX_f0 (I := I) (A := A) hIv), (IvX_f18 (I := I) (A := A) hIv), (IvX_f30 (I := I) (A := A) hIv), (IvX_f31 (I := I) (A := A) hIv), (IvX_a4 (I := I) (A := A) hIv), (IvX_a9 (I := I) (A := A) hIv), trivial⟩, 1, (by decide), (by decide), rfl, rfl⟩ dX3_stepBack_43
    · skip
      refine g_bipush (v := 39) hk dX3_stepBack_18 (by decide) ?_
      refine g_goto (tgt := 29) hk dX3_stepBack_20 (by decide) ?_
      refine pX_i20 hk hin3 (List.mem_cons_of_mem _ (List.mem_append_left _ (List.mem_of_getElem? (i := 1) rfl))) dX3_stepBack_29 ?_
      refine g_aload_n hk dX3_stepBack_32 rfl ?_
      refine g_dup hk dX3_stepBack_33 rfl ?_
      refine gX_i21 (v := (I 21)) hk hin3 (List.mem_cons_of_mem _ (List.mem_append_left _ (List.mem_of_getElem? (i := 0) rfl))) dX3_stepBack_34 rfl ?_
      refine g_iconst (v := 1) hk dX3_stepBack_37 (by decide) ?_
      refine g_isub hk dX3_stepBack_38 ?_
      refine g_topi (fun y2177 ey2177 => ?_)
      have hy2177 : y2177.toInt = (I 21).toInt - 1 := i32_sub ey2177 rfl rfl (by omega) (by omega)
      refine pX_i21 hk hin3 (List.mem_cons_of_mem _ (List.mem_append_left _ (List.mem_of_getElem? (i := 0) rfl))) dX3_stepBack_39 ?_
      refine g_iconst (v := 1) hk dX3_stepBack_42 (by decide) ?_
      exact g_iret hk hR rfl ⟨(upd (upd I 20 39) 21 y2177), A, (show Md [20, 21] I (upd (upd I 20 39) 21 y2177) from (Md.up (Md.up Md.rf rfl) rfl)), (show Md [] A A from Md.rf), ⟨(IvX_f0 (I := I) (A := A) hIv), (IvX_f18 (I := I) (A := A) hIv), (IvX_f30 (I := I) (A := A) hIv), (IvX_f31 (I := I) (A := A) hIv), (IvX_a4 (I := I) (A := A) hIv), (IvX_a9 (I := I) (A := A) hIv), trivial⟩, 1, (by decide), (by decide), rfl, rfl⟩ dX3_stepBack_43
  · skip
    refine g_iconst (v := 0) hk dX3_stepBack_8 (by decide) ?_
    exact g_iret hk hR rfl ⟨I, A, (show Md [20, 21] I I from Md.rf), (show Md [] A A from Md.rf), hIv, 0, (by decide), (by decide), rfl, rfl⟩ dX3_stepBack_9
def wo_k199_X3_valueIn : List Cond := []
def wz_k199_X3_valueIn : List Cond := .code yX3_valueIn cX3_valueIn 2 (some .int) :: (wo_k199_X3_valueIn ++ ([] : List Cond))
theorem zg_k199_X3_valueIn : ∀ w ∈ wz_k199_X3_valueIn, goodWord w = true := zg_cons rfl (zg_app (by decide +kernel) zg_nil)
theorem zi_k199_X3_valueIn : ∀ w ∈ wz_k199_X3_valueIn, w ∈ lw_tbl := zi_cons zw_880 (zi_app zi_nil zi_nil)
set_option maxHeartbeats 4000000 in
set_option maxRecDepth 100000 in
theorem k199_X3_valueIn (l : Launch) (D : va_G) (zt : Nat × Nat × Nat × (Nat → Nat) × (Nat → Nat)) (q : Nat → Nat) (d : Nat → ClassId) (I : Nat → Int32) (A : Nat → Nat → Int32) (z1 : Int32) (hIv : IvX I A) : GM l D zt (tyX d) yX3_valueIn wz_k199_X3_valueIn ({ frames := 0, cells := 0, slots := 0, locals := 0 } : Room) [.ref (q 22), .int z1] (wX q d I A) (fun v _ w' => ∃ y0 : Int32, v = some (.int y0) ∧ w' = wX q d I A) 0 0 := by
  refine GM.of (cc := cX3_valueIn) (maxL := 2) (ret := (some .int)) (own := RX3) (lv := [(0, .ref (q 22)), (1, .int z1)]) (by decide) rfl rfl (Nat.le_of_ble_eq_true rfl) rfl (fun κ sz hk hR hN => ?_)
  refine g_iload_n hk dX3_valueIn_0 rfl ?_
  have b2183l := Int32.le_toInt z1
  have b2183h := Int32.toInt_lt z1
  refine g_if_lt (tgt := 16) (a := z1.toInt) hk dX3_valueIn_1 (by decide) rfl (fun c2184 => ?_) (fun c2184 => ?_)
  · skip
    refine g_iconst (v := 0) hk dX3_valueIn_16 (by decide) ?_
    exact g_iret hk hR rfl ⟨0, rfl, rfl⟩ dX3_valueIn_17
  · skip
    refine g_iload_n hk dX3_valueIn_4 rfl ?_
    refine g_aload_n hk dX3_valueIn_5 rfl ?_
    refine nX_12 hk dX3_valueIn_6 ?_
    refine g_icmp_ge (tgt := 16) (a := z1.toInt) (b := 40) hk dX3_valueIn_7 (by decide) rfl rfl (fun c2185 => ?_) (fun c2185 => ?_)
    · skip
      refine g_iconst (v := 0) hk dX3_valueIn_16 (by decide) ?_
      exact g_iret hk hR rfl ⟨0, rfl, rfl⟩ dX3_valueIn_17
    · skip
      refine g_aload_n hk dX3_valueIn_10 rfl ?_
      refine g_iload_n hk dX3_valueIn_11 rfl ?_
      refine lX_12 (v := (A 12 z1.toNatClampNeg)) hk (vp_in_iff.mpr ⟨by omega, by omega⟩) rfl dX3_valueIn_12 ?_
      refine g_goto (tgt := 17) hk dX3_valueIn_13 (by decide) ?_
      have b2186l := Int32.le_toInt (A 12 z1.toNatClampNeg)
      have b2186h := Int32.toInt_lt (A 12 z1.toNatClampNeg)
      exact g_iret hk hR rfl ⟨(A 12 z1.toNatClampNeg), rfl, rfl⟩ dX3_valueIn_17
def wo_k198_X3_firstOfStep : List Cond := [Cond.fieldLink RX3 13 "WarpDesk$Past" "firsts" "[I", Cond.fieldLink RX3 23 "WarpDesk$Past" "next" "I", Cond.methodLink RX3 32 yX3_valueIn, Cond.static yX3_valueIn, Cond.initialized RX3]
def wz_k198_X3_firstOfStep : List Cond := .code yX3_firstOfStep cX3_firstOfStep 1 (some .int) :: (wo_k198_X3_firstOfStep ++ (wsX30 ++ (wz_k199_X3_valueIn ++ ([] : List Cond))))
theorem zg_k198_X3_firstOfStep : ∀ w ∈ wz_k198_X3_firstOfStep, goodWord w = true := zg_cons rfl (zg_app (by decide +kernel) (zg_app zgU_wsX30 (zg_app zg_k199_X3_valueIn zg_nil)))
theorem zi_k198_X3_firstOfStep : ∀ w ∈ wz_k198_X3_firstOfStep, w ∈ lw_tbl := zi_cons zw_877 (zi_app (zi_cons zw_303 (zi_cons zw_305 (zi_cons zw_878 (zi_cons zw_879 (zi_cons zw_110 zi_nil))))) (zi_app inX3 (zi_app zi_k199_X3_valueIn zi_nil)))
set_option maxHeartbeats 4000000 in
set_option maxRecDepth 100000 in
theorem k198_X3_firstOfStep (l : Launch) (D : va_G) (zt : Nat × Nat × Nat × (Nat → Nat) × (Nat → Nat)) (q : Nat → Nat) (d : Nat → ClassId) (I : Nat → Int32) (A : Nat → Nat → Int32) (hIv : IvX I A) : GM l D zt (tyX d) yX3_firstOfStep wz_k198_X3_firstOfStep ({ frames := 1, cells := 0, slots := 0, locals := 21 } : Room) [.ref (q 20)] (wX q d I A) (fun v _ w' => ∃ y0 : Int32, v = some (.int y0) ∧ w' = wX q d I A) 0 0 := by
  refine GM.of (cc := cX3_firstOfStep) (maxL := 1) (ret := (some .int)) (own := RX3) (lv := [(0, .ref (q 20))]) (by decide) rfl rfl (Nat.le_of_ble_eq_true rfl) rfl (fun κ sz hk hR hN => ?_)
  have hin3 : ∀ w ∈ u_ws RX3 TX3 5, w ∈ wz_k198_X3_firstOfStep := fun w h => (List.mem_cons_of_mem _ (List.mem_append_right _ (List.mem_append_left _ h)))
  refine g_aload_n hk dX3_firstOfStep_0 rfl ?_
  refine gX_r20_1 hk hin3 (List.mem_cons_of_mem _ (List.mem_append_left _ (List.mem_of_getElem? (i := 0) rfl))) dX3_firstOfStep_1 ?_
  refine g_aload_n hk dX3_firstOfStep_4 rfl ?_
  refine gX_i20 (v := (I 20)) hk hin3 (List.mem_cons_of_mem _ (List.mem_append_left _ (List.mem_of_getElem? (i := 1) rfl))) dX3_firstOfStep_5 rfl ?_
  refine g_callS (n := 2) hk (k199_X3_valueIn l D zt q d I A (I 20) hIv) (SP.same _) (fun _ h => h) (gi_S (List.mem_cons_of_mem _ (List.mem_append_left _ (List.mem_of_getElem? (i := 2) rfl))) (List.mem_cons_of_mem _ (List.mem_append_left _ (List.mem_of_getElem? (i := 3) rfl))) (List.mem_cons_of_mem _ (List.mem_append_left _ (List.mem_of_getElem? (i := 4) rfl))) (gi_sub (fun w h => (List.mem_cons_of_mem _ (List.mem_append_right _ (List.mem_append_right _ (List.mem_append_left _ h))))) zg_k199_X3_valueIn)) rfl rfl rfl (by decide +kernel) ⟨Nat.le_of_ble_eq_true rfl, Nat.le_of_ble_eq_true rfl⟩ rfl rfl (Nat.le_of_ble_eq_true rfl) ⟨Nat.le_of_ble_eq_true rfl, Nat.le_of_ble_eq_true rfl⟩ dX3_firstOfStep_8 (fun v ty' w' hp hk' => ?_)
  obtain ⟨y2187, rfl, rfl⟩ := hp
  show GW κ 1 0 0 (wX q d I A) 11 [(0, .ref (q 20))] [.int y2187]
  have b2188l := Int32.le_toInt y2187
  have b2188h := Int32.toInt_lt y2187
  exact g_iret hk hR rfl ⟨y2187, rfl, rfl⟩ dX3_firstOfStep_11
def wo_k201_X3_valueIn : List Cond := []
def wz_k201_X3_valueIn : List Cond := .code yX3_valueIn cX3_valueIn 2 (some .int) :: (wo_k201_X3_valueIn ++ ([] : List Cond))
theorem zg_k201_X3_valueIn : ∀ w ∈ wz_k201_X3_valueIn, goodWord w = true := zg_cons rfl (zg_app (by decide +kernel) zg_nil)
theorem zi_k201_X3_valueIn : ∀ w ∈ wz_k201_X3_valueIn, w ∈ lw_tbl := zi_cons zw_880 (zi_app zi_nil zi_nil)
set_option maxHeartbeats 4000000 in
set_option maxRecDepth 100000 in
theorem k201_X3_valueIn (l : Launch) (D : va_G) (zt : Nat × Nat × Nat × (Nat → Nat) × (Nat → Nat)) (q : Nat → Nat) (d : Nat → ClassId) (I : Nat → Int32) (A : Nat → Nat → Int32) (z1 : Int32) (hIv : IvX I A) : GM l D zt (tyX d) yX3_valueIn wz_k201_X3_valueIn ({ frames := 0, cells := 0, slots := 0, locals := 0 } : Room) [.ref (q 21), .int z1] (wX q d I A) (fun v _ w' => ∃ y0 : Int32, v = some (.int y0) ∧ w' = wX q d I A) 0 0 := by
  refine GM.of (cc := cX3_valueIn) (maxL := 2) (ret := (some .int)) (own := RX3) (lv := [(0, .ref (q 21)), (1, .int z1)]) (by decide) rfl rfl (Nat.le_of_ble_eq_true rfl) rfl (fun κ sz hk hR hN => ?_)
  refine g_iload_n hk dX3_valueIn_0 rfl ?_
  have b2190l := Int32.le_toInt z1
  have b2190h := Int32.toInt_lt z1
  refine g_if_lt (tgt := 16) (a := z1.toInt) hk dX3_valueIn_1 (by decide) rfl (fun c2191 => ?_) (fun c2191 => ?_)
  · skip
    refine g_iconst (v := 0) hk dX3_valueIn_16 (by decide) ?_
    exact g_iret hk hR rfl ⟨0, rfl, rfl⟩ dX3_valueIn_17
  · skip
    refine g_iload_n hk dX3_valueIn_4 rfl ?_
    refine g_aload_n hk dX3_valueIn_5 rfl ?_
    refine nX_11 hk dX3_valueIn_6 ?_
    refine g_icmp_ge (tgt := 16) (a := z1.toInt) (b := 40) hk dX3_valueIn_7 (by decide) rfl rfl (fun c2192 => ?_) (fun c2192 => ?_)
    · skip
      refine g_iconst (v := 0) hk dX3_valueIn_16 (by decide) ?_
      exact g_iret hk hR rfl ⟨0, rfl, rfl⟩ dX3_valueIn_17
    · skip
      refine g_aload_n hk dX3_valueIn_10 rfl ?_
      refine g_iload_n hk dX3_valueIn_11 rfl ?_
      refine lX_11 (v := (A 11 z1.toNatClampNeg)) hk (vp_in_iff.mpr ⟨by omega, by omega⟩) rfl dX3_valueIn_12 ?_
      refine g_goto (tgt := 17) hk dX3_valueIn_13 (by decide) ?_
      have b2193l := Int32.le_toInt (A 11 z1.toNatClampNeg)
      have b2193h := Int32.toInt_lt (A 11 z1.toNatClampNeg)
      exact g_iret hk hR rfl ⟨(A 11 z1.toNatClampNeg), rfl, rfl⟩ dX3_valueIn_17
def wo_k200_X3_kindOfStep : List Cond := [Cond.fieldLink RX3 9 "WarpDesk$Past" "kinds" "[I", Cond.fieldLink RX3 23 "WarpDesk$Past" "next" "I", Cond.methodLink RX3 32 yX3_valueIn, Cond.static yX3_valueIn, Cond.initialized RX3]
def wz_k200_X3_kindOfStep : List Cond := .code yX3_kindOfStep cX3_kindOfStep 1 (some .int) :: (wo_k200_X3_kindOfStep ++ (wsX30 ++ (wz_k201_X3_valueIn ++ ([] : List Cond))))
theorem zg_k200_X3_kindOfStep : ∀ w ∈ wz_k200_X3_kindOfStep, goodWord w = true := zg_cons rfl (zg_app (by decide +kernel) (zg_app zgU_wsX30 (zg_app zg_k201_X3_valueIn zg_nil)))
theorem zi_k200_X3_kindOfStep : ∀ w ∈ wz_k200_X3_kindOfStep, w ∈ lw_tbl := zi_cons zw_884 (zi_app (zi_cons zw_302 (zi_cons zw_305 (zi_cons zw_878 (zi_cons zw_879 (zi_cons zw_110 zi_nil))))) (zi_app inX3 (zi_app zi_k201_X3_valueIn zi_nil)))
set_option maxHeartbeats 4000000 in
set_option maxRecDepth 100000 in
theorem k200_X3_kindOfStep (l : Launch) (D : va_G) (zt : Nat × Nat × Nat × (Nat → Nat) × (Nat → Nat)) (q : Nat → Nat) (d : Nat → ClassId) (I : Nat → Int32) (A : Nat → Nat → Int32) (hIv : IvX I A) : GM l D zt (tyX d) yX3_kindOfStep wz_k200_X3_kindOfStep ({ frames := 1, cells := 0, slots := 0, locals := 21 } : Room) [.ref (q 20)] (wX q d I A) (fun v _ w' => ∃ y0 : Int32, v = some (.int y0) ∧ w' = wX q d I A) 0 0 := by
  refine GM.of (cc := cX3_kindOfStep) (maxL := 1) (ret := (some .int)) (own := RX3) (lv := [(0, .ref (q 20))]) (by decide) rfl rfl (Nat.le_of_ble_eq_true rfl) rfl (fun κ sz hk hR hN => ?_)
  have hin3 : ∀ w ∈ u_ws RX3 TX3 5, w ∈ wz_k200_X3_kindOfStep := fun w h => (List.mem_cons_of_mem _ (List.mem_append_right _ (List.mem_append_left _ h)))
  refine g_aload_n hk dX3_kindOfStep_0 rfl ?_
  refine gX_r20_0 hk hin3 (List.mem_cons_of_mem _ (List.mem_append_left _ (List.mem_of_getElem? (i := 0) rfl))) dX3_kindOfStep_1 ?_
  refine g_aload_n hk dX3_kindOfStep_4 rfl ?_
  refine gX_i20 (v := (I 20)) hk hin3 (List.mem_cons_of_mem _ (List.mem_append_left _ (List.mem_of_getElem? (i := 1) rfl))) dX3_kindOfStep_5 rfl ?_
  refine g_callS (n := 2) hk (k201_X3_valueIn l D zt q d I A (I 20) hIv) (SP.same _) (fun _ h => h) (gi_S (List.mem_cons_of_mem _ (List.mem_append_left _ (List.mem_of_getElem? (i := 2) rfl))) (List.mem_cons_of_mem _ (List.mem_append_left _ (List.mem_of_getElem? (i := 3) rfl))) (List.mem_cons_of_mem _ (List.mem_append_left _ (List.mem_of_getElem? (i := 4) rfl))) (gi_sub (fun w h => (List.mem_cons_of_mem _ (List.mem_append_right _ (List.mem_append_right _ (List.mem_append_left _ h))))) zg_k201_X3_valueIn)) rfl rfl rfl (by decide +kernel) ⟨Nat.le_of_ble_eq_true rfl, Nat.le_of_ble_eq_true rfl⟩ rfl rfl (Nat.le_of_ble_eq_true rfl) ⟨Nat.le_of_ble_eq_true rfl, Nat.le_of_ble_eq_true rfl⟩ dX3_kindOfStep_8 (fun v ty' w' hp hk' => ?_)
  obtain ⟨y2194, rfl, rfl⟩ := hp
  show GW κ 1 0 0 (wX q d I A) 11 [(0, .ref (q 20))] [.int y2194]
  have b2195l := Int32.le_toInt y2194
  have b2195h := Int32.toInt_lt y2194
  exact g_iret hk hR rfl ⟨y2194, rfl, rfl⟩ dX3_kindOfStep_11
def wo_k202_X6_cutLast : List Cond := [Cond.fieldLink RX6 19 "WarpDesk$Series" "size" "I"]
def wz_k202_X6_cutLast : List Cond := .code yX6_cutLast cX6_cutLast 1 none :: (wo_k202_X6_cutLast ++ (wsX60 ++ ([] : List Cond)))
theorem zg_k202_X6_cutLast : ∀ w ∈ wz_k202_X6_cutLast, goodWord w = true := zg_cons rfl (zg_app (by decide +kernel) (zg_app zgU_wsX60 zg_nil))
theorem zi_k202_X6_cutLast : ∀ w ∈ wz_k202_X6_cutLast, w ∈ lw_tbl := zi_cons zw_888 (zi_app (zi_cons zw_282 zi_nil) (zi_app inX6 zi_nil))
set_option maxHeartbeats 4000000 in
set_option maxRecDepth 100000 in
theorem k202_X6_cutLast (l : Launch) (D : va_G) (zt : Nat × Nat × Nat × (Nat → Nat) × (Nat → Nat)) (q : Nat → Nat) (d : Nat → ClassId) (I : Nat → Int32) (A : Nat → Nat → Int32) (hIv : IvX I A) : GM l D zt (tyX d) yX6_cutLast wz_k202_X6_cutLast ({ frames := 0, cells := 0, slots := 0, locals := 0 } : Room) [.ref (q 13)] (wX q d I A) (fun v _ w' => ∃ (I' : Nat → Int32) (A' : Nat → Nat → Int32), Md [18] I I' ∧ Md [] A A' ∧ IvX I' A' ∧ v = none ∧ w' = wX q d I' A') 0 0 := by
  refine GM.of (cc := cX6_cutLast) (maxL := 1) (ret := none) (own := RX6) (lv := [(0, .ref (q 13))]) (by decide) rfl rfl (Nat.le_of_ble_eq_true rfl) rfl (fun κ sz hk hR hN => ?_)
  have hin6 : ∀ w ∈ u_ws RX6 TX6 3, w ∈ wz_k202_X6_cutLast := fun w h => (List.mem_cons_of_mem _ (List.mem_append_right _ (List.mem_append_left _ h)))
  refine g_aload_n hk dX6_cutLast_0 rfl ?_
  refine gX_i18 (v := (I 18)) hk hin6 (List.mem_cons_of_mem _ (List.mem_append_left _ (List.mem_of_getElem? (i := 0) rfl))) dX6_cutLast_1 rfl ?_
  have f2198 := IvX_f18 hIv
  refine g_if_le (tgt := 17) (a := (I 18).toInt) hk dX6_cutLast_4 (by decide) rfl (fun c2199 => ?_) (fun c2199 => ?_)
  · skip
    exact g_vret hk hR ⟨I, A, (show Md [18] I I from Md.rf), (show Md [] A A from Md.rf), hIv, rfl, rfl⟩ dX6_cutLast_17
  · skip
    refine g_aload_n hk dX6_cutLast_7 rfl ?_
    refine g_dup hk dX6_cutLast_8 rfl ?_
    refine gX_i18 (v := (I 18)) hk hin6 (List.mem_cons_of_mem _ (List.mem_append_left _ (List.mem_of_getElem? (i := 0) rfl))) dX6_cutLast_9 rfl ?_
    refine g_iconst (v := 1) hk dX6_cutLast_12 (by decide) ?_
    refine g_isub hk dX6_cutLast_13 ?_
    refine g_topi (fun y2200 ey2200 => ?_)
    have hy2200 : y2200.toInt = (I 18).toInt - 1 := i32_sub ey2200 rfl rfl (by omega) (by omega)
    refine pX_i18 hk hin6 (List.mem_cons_of_mem _ (List.mem_append_left _ (List.mem_of_getElem? (i := 0) rfl))) dX6_cutLast_14 ?_
    exact g_vret hk hR ⟨(upd I 18 y2200), A, (show Md [18] I (upd I 18 y2200) from (Md.up Md.rf rfl)), (show Md [] A A from Md.rf), ⟨(IvX_f0 (I := I) (A := A) hIv), (show 0 ≤ y2200.toInt ∧ y2200.toInt ≤ 160 from ⟨by omega, by omega⟩), (IvX_f30 (I := I) (A := A) hIv), (IvX_f31 (I := I) (A := A) hIv), (IvX_a4 (I := I) (A := A) hIv), (IvX_a9 (I := I) (A := A) hIv), trivial⟩, rfl, rfl⟩ dX6_cutLast_17
def wo_k203_X6_bringBackFirst : List Cond := [Cond.fieldLink RX6 19 "WarpDesk$Series" "size" "I", Cond.fieldLink RX6 15 "WarpDesk$Series" "first" "I"]
def wz_k203_X6_bringBackFirst : List Cond := .code yX6_bringBackFirst cX6_bringBackFirst 2 none :: (wo_k203_X6_bringBackFirst ++ (wsX60 ++ ([] : List Cond)))
theorem zg_k203_X6_bringBackFirst : ∀ w ∈ wz_k203_X6_bringBackFirst, goodWord w = true := zg_cons rfl (zg_app (by decide +kernel) (zg_app zgU_wsX60 zg_nil))
theorem zi_k203_X6_bringBackFirst : ∀ w ∈ wz_k203_X6_bringBackFirst, w ∈ lw_tbl := zi_cons zw_892 (zi_app (zi_cons zw_282 (zi_cons zw_281 zi_nil)) (zi_app inX6 zi_nil))
set_option maxHeartbeats 4000000 in
set_option maxRecDepth 100000 in
theorem k203_X6_bringBackFirst (l : Launch) (D : va_G) (zt : Nat × Nat × Nat × (Nat → Nat) × (Nat → Nat)) (q : Nat → Nat) (d : Nat → ClassId) (I : Nat → Int32) (A : Nat → Nat → Int32) (z1 : Int32) (hIv : IvX I A) : GM l D zt (tyX d) yX6_bringBackFirst wz_k203_X6_bringBackFirst ({ frames := 0, cells := 0, slots := 0, locals := 0 } : Room) [.ref (q 13), .int z1] (wX q d I A) (fun v _ w' => ∃ (I' : Nat → Int32) (A' : Nat → Nat → Int32), Md [17, 18] I I' ∧ Md [] A A' ∧ IvX I' A' ∧ v = none ∧ w' = wX q d I' A') 0 0 := by
  refine GM.of (cc := cX6_bringBackFirst) (maxL := 2) (ret := none) (own := RX6) (lv := [(0, .ref (q 13)), (1, .int z1)]) (by decide) rfl rfl (Nat.le_of_ble_eq_true rfl) rfl (fun κ sz hk hR hN => ?_)
  have hin6 : ∀ w ∈ u_ws RX6 TX6 3, w ∈ wz_k203_X6_bringBackFirst := fun w h => (List.mem_cons_of_mem _ (List.mem_append_right _ (List.mem_append_left _ h)))
  refine g_iload_n hk dX6_bringBackFirst_0 rfl ?_
  refine g_iconst (v := 1) hk dX6_bringBackFirst_1 (by decide) ?_
  have b2208l := Int32.le_toInt z1
  have b2208h := Int32.toInt_lt z1
  refine g_icmp_lt (tgt := 41) (a := z1.toInt) (b := 1) hk dX6_bringBackFirst_2 (by decide) rfl rfl (fun c2209 => ?_) (fun c2209 => ?_)
  · skip
    exact g_vret hk hR ⟨I, A, (show Md [17, 18] I I from Md.rf), (show Md [] A A from Md.rf), hIv, rfl, rfl⟩ dX6_bringBackFirst_41
  · skip
    refine g_iload_n hk dX6_bringBackFirst_5 rfl ?_
    refine g_sipush (v := 160) hk dX6_bringBackFirst_6 (by decide) ?_
    refine g_aload_n hk dX6_bringBackFirst_9 rfl ?_
    refine gX_i18 (v := (I 18)) hk hin6 (List.mem_cons_of_mem _ (List.mem_append_left _ (List.mem_of_getElem? (i := 0) rfl))) dX6_bringBackFirst_10 rfl ?_
    have f2210 := IvX_f18 hIv
    refine g_isub hk dX6_bringBackFirst_13 ?_
    refine g_topi (fun y2211 ey2211 => ?_)
    have hy2211 : y2211.toInt = 160 - (I 18).toInt := i32_sub ey2211 rfl rfl (by omega) (by omega)
    refine g_icmp_gt (tgt := 41) (a := z1.toInt) (b := y2211.toInt) hk dX6_bringBackFirst_14 (by decide) rfl rfl (fun c2212 => ?_) (fun c2212 => ?_)
    · skip
      exact g_vret hk hR ⟨I, A, (show Md [17, 18] I I from Md.rf), (show Md [] A A from Md.rf), hIv, rfl, rfl⟩ dX6_bringBackFirst_41
    · skip
      refine g_aload_n hk dX6_bringBackFirst_17 rfl ?_
      refine g_aload_n hk dX6_bringBackFirst_18 rfl ?_
      refine gX_i17 (v := (I 17)) hk hin6 (List.mem_cons_of_mem _ (List.mem_append_left _ (List.mem_of_getElem? (i := 1) rfl))) dX6_bringBackFirst_19 rfl ?_
      refine g_iload_n hk dX6_bringBackFirst_22 rfl ?_
      have b2213l := Int32.le_toInt (I 17)
      have b2213h := Int32.toInt_lt (I 17)
      refine g_isub hk dX6_bringBackFirst_23 ?_
      refine g_topi (fun y2214 ey2214 => ?_)
      have hy2214 := i32_sub0 ey2214
      refine g_sipush (v := 255) hk dX6_bringBackFirst_24 (by decide) ?_
      have b2215l := Int32.le_toInt y2214
      have b2215h := Int32.toInt_lt y2214
      refine g_iand hk dX6_bringBackFirst_27 ?_
      refine g_topi (fun y2216 ey2216 => ?_)
      have hy2216 : 0 ≤ y2216.toInt ∧ y2216.toInt ≤ 255 := i32_mask 8 ey2216 (by decide) (by decide)
      refine pX_i17 hk hin6 (List.mem_cons_of_mem _ (List.mem_append_left _ (List.mem_of_getElem? (i := 1) rfl))) dX6_bringBackFirst_28 ?_
      refine g_aload_n hk dX6_bringBackFirst_31 rfl ?_
      refine g_dup hk dX6_bringBackFirst_32 rfl ?_
      refine gX_i18 (v := (I 18)) hk hin6 (List.mem_cons_of_mem _ (List.mem_append_left _ (List.mem_of_getElem? (i := 0) rfl))) dX6_bringBackFirst_33 rfl ?_
      refine g_iload_n hk dX6_bringBackFirst_36 rfl ?_
      refine g_iadd hk dX6_bringBackFirst_37 ?_
      refine g_topi (fun y2217 ey2217 => ?_)
      have hy2217 : y2217.toInt = (I 18).toInt + z1.toInt := i32_add ey2217 rfl rfl (by omega) (by omega)
      refine pX_i18 hk hin6 (List.mem_cons_of_mem _ (List.mem_append_left _ (List.mem_of_getElem? (i := 0) rfl))) dX6_bringBackFirst_38 ?_
      exact g_vret hk hR ⟨(upd (upd I 17 y2216) 18 y2217), A, (show Md [17, 18] I (upd (upd I 17 y2216) 18 y2217) from (Md.up (Md.up Md.rf rfl) rfl)), (show Md [] A A from Md.rf), ⟨(IvX_f0 (I := I) (A := A) hIv), (show 0 ≤ y2217.toInt ∧ y2217.toInt ≤ 160 from ⟨by omega, by omega⟩), (IvX_f30 (I := I) (A := A) hIv), (IvX_f31 (I := I) (A := A) hIv), (IvX_a4 (I := I) (A := A) hIv), (IvX_a9 (I := I) (A := A) hIv), trivial⟩, rfl, rfl⟩ dX6_bringBackFirst_41
def wo_k205_X3_valueIn : List Cond := []
def wz_k205_X3_valueIn : List Cond := .code yX3_valueIn cX3_valueIn 2 (some .int) :: (wo_k205_X3_valueIn ++ ([] : List Cond))
theorem zg_k205_X3_valueIn : ∀ w ∈ wz_k205_X3_valueIn, goodWord w = true := zg_cons rfl (zg_app (by decide +kernel) zg_nil)
theorem zi_k205_X3_valueIn : ∀ w ∈ wz_k205_X3_valueIn, w ∈ lw_tbl := zi_cons zw_880 (zi_app zi_nil zi_nil)
set_option maxHeartbeats 4000000 in
set_option maxRecDepth 100000 in
theorem k205_X3_valueIn (l : Launch) (D : va_G) (zt : Nat × Nat × Nat × (Nat → Nat) × (Nat → Nat)) (q : Nat → Nat) (d : Nat → ClassId) (I : Nat → Int32) (A : Nat → Nat → Int32) (z1 : Int32) (hIv : IvX I A) : GM l D zt (tyX d) yX3_valueIn wz_k205_X3_valueIn ({ frames := 0, cells := 0, slots := 0, locals := 0 } : Room) [.ref (q 23), .int z1] (wX q d I A) (fun v _ w' => ∃ y0 : Int32, v = some (.int y0) ∧ w' = wX q d I A) 0 0 := by
  refine GM.of (cc := cX3_valueIn) (maxL := 2) (ret := (some .int)) (own := RX3) (lv := [(0, .ref (q 23)), (1, .int z1)]) (by decide) rfl rfl (Nat.le_of_ble_eq_true rfl) rfl (fun κ sz hk hR hN => ?_)
  refine g_iload_n hk dX3_valueIn_0 rfl ?_
  have b2220l := Int32.le_toInt z1
  have b2220h := Int32.toInt_lt z1
  refine g_if_lt (tgt := 16) (a := z1.toInt) hk dX3_valueIn_1 (by decide) rfl (fun c2221 => ?_) (fun c2221 => ?_)
  · skip
    refine g_iconst (v := 0) hk dX3_valueIn_16 (by decide) ?_
    exact g_iret hk hR rfl ⟨0, rfl, rfl⟩ dX3_valueIn_17
  · skip
    refine g_iload_n hk dX3_valueIn_4 rfl ?_
    refine g_aload_n hk dX3_valueIn_5 rfl ?_
    refine nX_13 hk dX3_valueIn_6 ?_
    refine g_icmp_ge (tgt := 16) (a := z1.toInt) (b := 40) hk dX3_valueIn_7 (by decide) rfl rfl (fun c2222 => ?_) (fun c2222 => ?_)
    · skip
      refine g_iconst (v := 0) hk dX3_valueIn_16 (by decide) ?_
      exact g_iret hk hR rfl ⟨0, rfl, rfl⟩ dX3_valueIn_17
    · skip
      refine g_aload_n hk dX3_valueIn_10 rfl ?_
      refine g_iload_n hk dX3_valueIn_11 rfl ?_
      refine lX_13 (v := (A 13 z1.toNatClampNeg)) hk (vp_in_iff.mpr ⟨by omega, by omega⟩) rfl dX3_valueIn_12 ?_
      refine g_goto (tgt := 17) hk dX3_valueIn_13 (by decide) ?_
      have b2223l := Int32.le_toInt (A 13 z1.toNatClampNeg)
      have b2223h := Int32.toInt_lt (A 13 z1.toNatClampNeg)
      exact g_iret hk hR rfl ⟨(A 13 z1.toNatClampNeg), rfl, rfl⟩ dX3_valueIn_17
def wo_k204_X3_secondOfStep : List Cond := [Cond.fieldLink RX3 16 "WarpDesk$Past" "seconds" "[I", Cond.fieldLink RX3 23 "WarpDesk$Past" "next" "I", Cond.methodLink RX3 32 yX3_valueIn, Cond.static yX3_valueIn, Cond.initialized RX3]
def wz_k204_X3_secondOfStep : List Cond := .code yX3_secondOfStep cX3_secondOfStep 1 (some .int) :: (wo_k204_X3_secondOfStep ++ (wsX30 ++ (wz_k205_X3_valueIn ++ ([] : List Cond))))
theorem zg_k204_X3_secondOfStep : ∀ w ∈ wz_k204_X3_secondOfStep, goodWord w = true := zg_cons rfl (zg_app (by decide +kernel) (zg_app zgU_wsX30 (zg_app zg_k205_X3_valueIn zg_nil)))
theorem zi_k204_X3_secondOfStep : ∀ w ∈ wz_k204_X3_secondOfStep, w ∈ lw_tbl := zi_cons zw_896 (zi_app (zi_cons zw_304 (zi_cons zw_305 (zi_cons zw_878 (zi_cons zw_879 (zi_cons zw_110 zi_nil))))) (zi_app inX3 (zi_app zi_k205_X3_valueIn zi_nil)))
set_option maxHeartbeats 4000000 in
set_option maxRecDepth 100000 in
theorem k204_X3_secondOfStep (l : Launch) (D : va_G) (zt : Nat × Nat × Nat × (Nat → Nat) × (Nat → Nat)) (q : Nat → Nat) (d : Nat → ClassId) (I : Nat → Int32) (A : Nat → Nat → Int32) (hIv : IvX I A) : GM l D zt (tyX d) yX3_secondOfStep wz_k204_X3_secondOfStep ({ frames := 1, cells := 0, slots := 0, locals := 21 } : Room) [.ref (q 20)] (wX q d I A) (fun v _ w' => ∃ y0 : Int32, v = some (.int y0) ∧ w' = wX q d I A) 0 0 := by
  refine GM.of (cc := cX3_secondOfStep) (maxL := 1) (ret := (some .int)) (own := RX3) (lv := [(0, .ref (q 20))]) (by decide) rfl rfl (Nat.le_of_ble_eq_true rfl) rfl (fun κ sz hk hR hN => ?_)
  have hin3 : ∀ w ∈ u_ws RX3 TX3 5, w ∈ wz_k204_X3_secondOfStep := fun w h => (List.mem_cons_of_mem _ (List.mem_append_right _ (List.mem_append_left _ h)))
  refine g_aload_n hk dX3_secondOfStep_0 rfl ?_
  refine gX_r20_2 hk hin3 (List.mem_cons_of_mem _ (List.mem_append_left _ (List.mem_of_getElem? (i := 0) rfl))) dX3_secondOfStep_1 ?_
  refine g_aload_n hk dX3_secondOfStep_4 rfl ?_
  refine gX_i20 (v := (I 20)) hk hin3 (List.mem_cons_of_mem _ (List.mem_append_left _ (List.mem_of_getElem? (i := 1) rfl))) dX3_secondOfStep_5 rfl ?_
  refine g_callS (n := 2) hk (k205_X3_valueIn l D zt q d I A (I 20) hIv) (SP.same _) (fun _ h => h) (gi_S (List.mem_cons_of_mem _ (List.mem_append_left _ (List.mem_of_getElem? (i := 2) rfl))) (List.mem_cons_of_mem _ (List.mem_append_left _ (List.mem_of_getElem? (i := 3) rfl))) (List.mem_cons_of_mem _ (List.mem_append_left _ (List.mem_of_getElem? (i := 4) rfl))) (gi_sub (fun w h => (List.mem_cons_of_mem _ (List.mem_append_right _ (List.mem_append_right _ (List.mem_append_left _ h))))) zg_k205_X3_valueIn)) rfl rfl rfl (by decide +kernel) ⟨Nat.le_of_ble_eq_true rfl, Nat.le_of_ble_eq_true rfl⟩ rfl rfl (Nat.le_of_ble_eq_true rfl) ⟨Nat.le_of_ble_eq_true rfl, Nat.le_of_ble_eq_true rfl⟩ dX3_secondOfStep_8 (fun v ty' w' hp hk' => ?_)
  obtain ⟨y2224, rfl, rfl⟩ := hp
  show GW κ 1 0 0 (wX q d I A) 11 [(0, .ref (q 20))] [.int y2224]
  have b2225l := Int32.le_toInt y2224
  have b2225h := Int32.toInt_lt y2224
  exact g_iret hk hR rfl ⟨y2224, rfl, rfl⟩ dX3_secondOfStep_11
def wo_k196_X11_undo : List Cond := [Cond.fieldLink RX11 49 "WarpDesk" "past" "LWarpDesk$Past;", Cond.methodLink RX11 164 yX3_stepBack, Cond.instanceMethod yX3_stepBack, Cond.selects RX3 yX3_stepBack yX3_stepBack, Cond.initialized RX3, Cond.methodLink RX11 168 yX3_firstOfStep, Cond.instanceMethod yX3_firstOfStep, Cond.selects RX3 yX3_firstOfStep yX3_firstOfStep, Cond.methodLink RX11 171 yX3_kindOfStep, Cond.instanceMethod yX3_kindOfStep, Cond.selects RX3 yX3_kindOfStep yX3_kindOfStep, Cond.fieldLink RX11 28 "WarpDesk" "series" "LWarpDesk$Series;", Cond.methodLink RX11 174 yX6_cutLast, Cond.instanceMethod yX6_cutLast, Cond.selects RX6 yX6_cutLast yX6_cutLast, Cond.initialized RX6, Cond.methodLink RX11 147 yX6_putAt, Cond.instanceMethod yX6_putAt, Cond.selects RX6 yX6_putAt yX6_putAt, Cond.methodLink RX11 177 yX6_bringBackFirst, Cond.instanceMethod yX6_bringBackFirst, Cond.selects RX6 yX6_bringBackFirst yX6_bringBackFirst, Cond.fieldLink RX11 42 "WarpDesk" "settings" "LWarpDesk$Settings;", Cond.methodLink RX11 180 yX3_secondOfStep, Cond.instanceMethod yX3_secondOfStep, Cond.selects RX3 yX3_secondOfStep yX3_secondOfStep, Cond.methodLink RX11 161 yX7_put, Cond.instanceMethod yX7_put, Cond.selects RX7 yX7_put yX7_put, Cond.initialized RX7]
def wz_k196_X11_undo : List Cond := .code yX11_undo cX11_undo 2 (some .boolean) :: (wo_k196_X11_undo ++ (wsX110 ++ (wz_k197_X3_stepBack ++ (wz_k198_X3_firstOfStep ++ (wz_k200_X3_kindOfStep ++ (wz_k202_X6_cutLast ++ (wz_k190_X6_putAt ++ (wz_k203_X6_bringBackFirst ++ (wz_k204_X3_secondOfStep ++ (wz_k195_X7_put ++ ([] : List Cond)))))))))))
theorem zg_k196_X11_undo : ∀ w ∈ wz_k196_X11_undo, goodWord w = true := zg_cons rfl (zg_app (by decide +kernel) (zg_app zgU_wsX110 (zg_app zg_k197_X3_stepBack (zg_app zg_k198_X3_firstOfStep (zg_app zg_k200_X3_kindOfStep (zg_app zg_k202_X6_cutLast (zg_app zg_k190_X6_putAt (zg_app zg_k203_X6_bringBackFirst (zg_app zg_k204_X3_secondOfStep (zg_app zg_k195_X7_put zg_nil))))))))))
theorem zi_k196_X11_undo : ∀ w ∈ wz_k196_X11_undo, w ∈ lw_tbl := zi_cons zw_869 (zi_app (zi_cons zw_492 (zi_cons zw_870 (zi_cons zw_871 (zi_cons zw_872 (zi_cons zw_110 (zi_cons zw_874 (zi_cons zw_875 (zi_cons zw_876 (zi_cons zw_881 (zi_cons zw_882 (zi_cons zw_883 (zi_cons zw_489 (zi_cons zw_885 (zi_cons zw_886 (zi_cons zw_887 (zi_cons zw_109 (zi_cons zw_847 (zi_cons zw_848 (zi_cons zw_849 (zi_cons zw_889 (zi_cons zw_890 (zi_cons zw_891 (zi_cons zw_491 (zi_cons zw_893 (zi_cons zw_894 (zi_cons zw_895 (zi_cons zw_865 (zi_cons zw_551 (zi_cons zw_552 (zi_cons zw_107 zi_nil)))))))))))))))))))))))))))))) (zi_app inX11 (zi_app zi_k197_X3_stepBack (zi_app zi_k198_X3_firstOfStep (zi_app zi_k200_X3_kindOfStep (zi_app zi_k202_X6_cutLast (zi_app zi_k190_X6_putAt (zi_app zi_k203_X6_bringBackFirst (zi_app zi_k204_X3_secondOfStep (zi_app zi_k195_X7_put zi_nil))))))))))
set_option maxHeartbeats 4000000 in
set_option maxRecDepth 100000 in
theorem k196_X11_undo (l : Launch) (D : va_G) (zt : Nat × Nat × Nat × (Nat → Nat) × (Nat → Nat)) (q : Nat → Nat) (d : Nat → ClassId) (I : Nat → Int32) (A : Nat → Nat → Int32) (hIv : IvX I A) : GM l D zt (tyX d) yX11_undo wz_k196_X11_undo ({ frames := 2, cells := 0, slots := 0, locals := 41 } : Room) [.ref (q 0)] (wX q d I A) (fun v _ w' => ∃ (I' : Nat → Int32) (A' : Nat → Nat → Int32), Md [17, 18, 20, 21] I I' ∧ Md [7, 10] A A' ∧ IvX I' A' ∧ ∃ y0 : Int32, (0 ≤ y0.toInt) ∧ (y0.toInt ≤ 1) ∧ v = some (.int y0) ∧ w' = wX q d I' A') 0 0 := by
  refine GM.of (cc := cX11_undo) (maxL := 2) (ret := (some .boolean)) (own := RX11) (lv := [(0, .ref (q 0))]) (by decide) rfl rfl (Nat.le_of_ble_eq_true rfl) rfl (fun κ sz hk hR hN => ?_)
  have hin11 : ∀ w ∈ u_ws RX11 TX11 10, w ∈ wz_k196_X11_undo := fun w h => (List.mem_cons_of_mem _ (List.mem_append_right _ (List.mem_append_left _ h)))
  refine g_aload_n hk dX11_undo_0 rfl ?_
  refine gX_r0_5 hk hin11 (List.mem_cons_of_mem _ (List.mem_append_left _ (List.mem_of_getElem? (i := 0) rfl))) dX11_undo_1 ?_
  refine g_callV (n := 0) hk (k197_X3_stepBack l D zt q d I A  hIv) (SP.same _) (fun _ h => h) (gi_V (List.mem_cons_of_mem _ (List.mem_append_left _ (List.mem_of_getElem? (i := 1) rfl))) (List.mem_cons_of_mem _ (List.mem_append_left _ (List.mem_of_getElem? (i := 2) rfl))) (List.mem_cons_of_mem _ (List.mem_append_left _ (List.mem_of_getElem? (i := 3) rfl))) (List.mem_cons_of_mem _ (List.mem_append_left _ (List.mem_of_getElem? (i := 4) rfl))) (gi_sub (fun w h => (List.mem_cons_of_mem _ (List.mem_append_right _ (List.mem_append_right _ (List.mem_append_left _ h))))) zg_k197_X3_stepBack)) rfl rfl rfl (by decide +kernel) ⟨Nat.le_of_ble_eq_true rfl, Nat.le_of_ble_eq_true rfl⟩ 20 rfl rfl rfl rfl (Nat.le_of_ble_eq_true rfl) ⟨Nat.le_of_ble_eq_true rfl, Nat.le_of_ble_eq_true rfl⟩ dX11_undo_4 (fun v ty' w' hp hk' => ?_)
  obtain ⟨I2181, A2181, hI2181, hA2181, hV2181, y2178, c2179, c2180, rfl, rfl⟩ := hp
  show GW κ 2 0 0 (wX q d I2181 A2181) 7 [(0, .ref (q 0))] [.int y2178]
  refine g_if_ne (tgt := 12) (a := y2178.toInt) hk dX11_undo_7 (by decide) rfl (fun c2182 => ?_) (fun c2182 => ?_)
  · skip
    refine g_aload_n hk dX11_undo_12 rfl ?_
    refine gX_r0_5 hk hin11 (List.mem_cons_of_mem _ (List.mem_append_left _ (List.mem_of_getElem? (i := 0) rfl))) dX11_undo_13 ?_
    refine g_callV (n := 0) hk (k198_X3_firstOfStep l D zt q d I2181 A2181  hV2181) (SP.same _) (fun _ h => h) (gi_V (List.mem_cons_of_mem _ (List.mem_append_left _ (List.mem_of_getElem? (i := 5) rfl))) (List.mem_cons_of_mem _ (List.mem_append_left _ (List.mem_of_getElem? (i := 6) rfl))) (List.mem_cons_of_mem _ (List.mem_append_left _ (List.mem_of_getElem? (i := 7) rfl))) (List.mem_cons_of_mem _ (List.mem_append_left _ (List.mem_of_getElem? (i := 4) rfl))) (gi_sub (fun w h => (List.mem_cons_of_mem _ (List.mem_append_right _ (List.mem_append_right _ (List.mem_append_right _ (List.mem_append_left _ h)))))) zg_k198_X3_firstOfStep)) rfl rfl rfl (by decide +kernel) ⟨Nat.le_of_ble_eq_true rfl, Nat.le_of_ble_eq_true rfl⟩ 20 rfl rfl rfl rfl (Nat.le_of_ble_eq_true rfl) ⟨Nat.le_of_ble_eq_true rfl, Nat.le_of_ble_eq_true rfl⟩ dX11_undo_16 (fun v ty' w' hp hk' => ?_)
    obtain ⟨y2189, rfl, rfl⟩ := hp
    show GW κ 2 0 0 (wX q d I2181 A2181) 19 [(0, .ref (q 0))] [.int y2189]
    refine g_istore_n (lv' := [(1, .int y2189), (0, .ref (q 0))]) hk dX11_undo_19 (by decide) rfl ?_
    refine g_aload_n hk dX11_undo_20 rfl ?_
    refine gX_r0_5 hk hin11 (List.mem_cons_of_mem _ (List.mem_append_left _ (List.mem_of_getElem? (i := 0) rfl))) dX11_undo_21 ?_
    refine g_callV (n := 0) hk (k200_X3_kindOfStep l D zt q d I2181 A2181  hV2181) (SP.same _) (fun _ h => h) (gi_V (List.mem_cons_of_mem _ (List.mem_append_left _ (List.mem_of_getElem? (i := 8) rfl))) (List.mem_cons_of_mem _ (List.mem_append_left _ (List.mem_of_getElem? (i := 9) rfl))) (List.mem_cons_of_mem _ (List.mem_append_left _ (List.mem_of_getElem? (i := 10) rfl))) (List.mem_cons_of_mem _ (List.mem_append_left _ (List.mem_of_getElem? (i := 4) rfl))) (gi_sub (fun w h => (List.mem_cons_of_mem _ (List.mem_append_right _ (List.mem_append_right _ (List.mem_append_right _ (List.mem_append_right _ (List.mem_append_left _ h))))))) zg_k200_X3_kindOfStep)) rfl rfl rfl (by decide +kernel) ⟨Nat.le_of_ble_eq_true rfl, Nat.le_of_ble_eq_true rfl⟩ 20 rfl rfl rfl rfl (Nat.le_of_ble_eq_true rfl) ⟨Nat.le_of_ble_eq_true rfl, Nat.le_of_ble_eq_true rfl⟩ dX11_undo_24 (fun v ty' w' hp hk' => ?_)
    obtain ⟨y2196, rfl, rfl⟩ := hp
    show GW κ 2 0 0 (wX q d I2181 A2181) 27 [(1, .int y2189), (0, .ref (q 0))] [.int y2196]
    by_cases c2197 : y2196.toInt = 0
    · refine g_tabIn (tgt := 52) (a := 0) hk dX11_undo_27 c2197 (by decide) (by decide) rfl (by decide) ?_
      refine g_aload_n hk dX11_undo_52 rfl ?_
      refine gX_r0_2 hk hin11 (List.mem_cons_of_mem _ (List.mem_append_left _ (List.mem_of_getElem? (i := 11) rfl))) dX11_undo_53 ?_
      refine g_callV (n := 0) hk (k202_X6_cutLast l D zt q d I2181 A2181  hV2181) (SP.same _) (fun _ h => h) (gi_V (List.mem_cons_of_mem _ (List.mem_append_left _ (List.mem_of_getElem? (i := 12) rfl))) (List.mem_cons_of_mem _ (List.mem_append_left _ (List.mem_of_getElem? (i := 13) rfl))) (List.mem_cons_of_mem _ (List.mem_append_left _ (List.mem_of_getElem? (i := 14) rfl))) (List.mem_cons_of_mem _ (List.mem_append_left _ (List.mem_of_getElem? (i := 15) rfl))) (gi_sub (fun w h => (List.mem_cons_of_mem _ (List.mem_append_right _ (List.mem_append_right _ (List.mem_append_right _ (List.mem_append_right _ (List.mem_append_right _ (List.mem_append_left _ h)))))))) zg_k202_X6_cutLast)) rfl rfl rfl (by decide +kernel) ⟨Nat.le_of_ble_eq_true rfl, Nat.le_of_ble_eq_true rfl⟩ 13 rfl rfl rfl rfl (Nat.le_of_ble_eq_true rfl) ⟨Nat.le_of_ble_eq_true rfl, Nat.le_of_ble_eq_true rfl⟩ dX11_undo_56 (fun v ty' w' hp hk' => ?_)
      obtain ⟨I2202, A2202, hI2202, hA2202, hV2202, rfl, rfl⟩ := hp
      show GW κ 2 0 0 (wX q d I2202 A2202) 59 [(1, .int y2189), (0, .ref (q 0))] []
      refine g_goto (tgt := 102) hk dX11_undo_59 (by decide) ?_
      refine g_iconst (v := 1) hk dX11_undo_102 (by decide) ?_
      exact g_iret hk hR rfl ⟨I2202, A2202, (show Md [17, 18, 20, 21] I I2202 from (Md.tr (Md.tr Md.rf hI2181 rfl) hI2202 rfl)), (show Md [7, 10] A A2202 from (Md.tr (Md.tr Md.rf hA2181 rfl) hA2202 rfl)), hV2202, 1, (by decide), (by decide), rfl, rfl⟩ dX11_undo_103
    by_cases c2203 : y2196.toInt = 1
    · refine g_tabIn (tgt := 62) (a := 1) hk dX11_undo_27 c2203 (by decide) (by decide) rfl (by decide) ?_
      refine g_aload_n hk dX11_undo_62 rfl ?_
      refine gX_r0_2 hk hin11 (List.mem_cons_of_mem _ (List.mem_append_left _ (List.mem_of_getElem? (i := 11) rfl))) dX11_undo_63 ?_
      refine g_iload_n hk dX11_undo_66 rfl ?_
      refine g_sipush (v := (-1000)) hk dX11_undo_67 (by decide) ?_
      have k2204 : ((-1000) : Int32).toInt = (-1000) := rfl
      refine g_callV (n := 2) hk (k190_X6_putAt l D zt q d I2181 A2181 y2189 (-1000) hV2181) (SP.same _) (fun _ h => h) (gi_V (List.mem_cons_of_mem _ (List.mem_append_left _ (List.mem_of_getElem? (i := 16) rfl))) (List.mem_cons_of_mem _ (List.mem_append_left _ (List.mem_of_getElem? (i := 17) rfl))) (List.mem_cons_of_mem _ (List.mem_append_left _ (List.mem_of_getElem? (i := 18) rfl))) (List.mem_cons_of_mem _ (List.mem_append_left _ (List.mem_of_getElem? (i := 15) rfl))) (gi_sub (fun w h => (List.mem_cons_of_mem _ (List.mem_append_right _ (List.mem_append_right _ (List.mem_append_right _ (List.mem_append_right _ (List.mem_append_right _ (List.mem_append_right _ (List.mem_append_left _ h))))))))) zg_k190_X6_putAt)) rfl rfl rfl (by decide +kernel) ⟨Nat.le_of_ble_eq_true rfl, Nat.le_of_ble_eq_true rfl⟩ 13 rfl rfl rfl rfl (Nat.le_of_ble_eq_true rfl) ⟨Nat.le_of_ble_eq_true rfl, Nat.le_of_ble_eq_true rfl⟩ dX11_undo_70 (fun v ty' w' hp hk' => ?_)
      obtain ⟨I2206, A2206, hI2206, hA2206, hV2206, rfl, rfl⟩ := hp
      show GW κ 2 0 0 (wX q d I2206 A2206) 73 [(1, .int y2189), (0, .ref (q 0))] []
      refine g_goto (tgt := 102) hk dX11_undo_73 (by decide) ?_
      refine g_iconst (v := 1) hk dX11_undo_102 (by decide) ?_
      exact g_iret hk hR rfl ⟨I2206, A2206, (show Md [17, 18, 20, 21] I I2206 from (Md.tr (Md.tr Md.rf hI2181 rfl) hI2206 rfl)), (show Md [7, 10] A A2206 from (Md.tr (Md.tr Md.rf hA2181 rfl) hA2206 rfl)), hV2206, 1, (by decide), (by decide), rfl, rfl⟩ dX11_undo_103
    by_cases c2207 : y2196.toInt = 2
    · refine g_tabIn (tgt := 76) (a := 2) hk dX11_undo_27 c2207 (by decide) (by decide) rfl (by decide) ?_
      refine g_aload_n hk dX11_undo_76 rfl ?_
      refine gX_r0_2 hk hin11 (List.mem_cons_of_mem _ (List.mem_append_left _ (List.mem_of_getElem? (i := 11) rfl))) dX11_undo_77 ?_
      refine g_iload_n hk dX11_undo_80 rfl ?_
      refine g_callV (n := 1) hk (k203_X6_bringBackFirst l D zt q d I2181 A2181 y2189 hV2181) (SP.same _) (fun _ h => h) (gi_V (List.mem_cons_of_mem _ (List.mem_append_left _ (List.mem_of_getElem? (i := 19) rfl))) (List.mem_cons_of_mem _ (List.mem_append_left _ (List.mem_of_getElem? (i := 20) rfl))) (List.mem_cons_of_mem _ (List.mem_append_left _ (List.mem_of_getElem? (i := 21) rfl))) (List.mem_cons_of_mem _ (List.mem_append_left _ (List.mem_of_getElem? (i := 15) rfl))) (gi_sub (fun w h => (List.mem_cons_of_mem _ (List.mem_append_right _ (List.mem_append_right _ (List.mem_append_right _ (List.mem_append_right _ (List.mem_append_right _ (List.mem_append_right _ (List.mem_append_right _ (List.mem_append_left _ h)))))))))) zg_k203_X6_bringBackFirst)) rfl rfl rfl (by decide +kernel) ⟨Nat.le_of_ble_eq_true rfl, Nat.le_of_ble_eq_true rfl⟩ 13 rfl rfl rfl rfl (Nat.le_of_ble_eq_true rfl) ⟨Nat.le_of_ble_eq_true rfl, Nat.le_of_ble_eq_true rfl⟩ dX11_undo_81 (fun v ty' w' hp hk' => ?_)
      obtain ⟨I2219, A2219, hI2219, hA2219, hV2219, rfl, rfl⟩ := hp
      show GW κ 2 0 0 (wX q d I2219 A2219) 84 [(1, .int y2189), (0, .ref (q 0))] []
      refine g_goto (tgt := 102) hk dX11_undo_84 (by decide) ?_
      refine g_iconst (v := 1) hk dX11_undo_102 (by decide) ?_
      exact g_iret hk hR rfl ⟨I2219, A2219, (show Md [17, 18, 20, 21] I I2219 from (Md.tr (Md.tr Md.rf hI2181 rfl) hI2219 rfl)), (show Md [7, 10] A A2219 from (Md.tr (Md.tr Md.rf hA2181 rfl) hA2219 rfl)), hV2219, 1, (by decide), (by decide), rfl, rfl⟩ dX11_undo_103
    refine g_tabOut (tgt := 87) (a := y2196.toInt) hk dX11_undo_27 rfl (by omega) (by decide) ?_
    refine g_aload_n hk dX11_undo_87 rfl ?_
    refine gX_r0_4 hk hin11 (List.mem_cons_of_mem _ (List.mem_append_left _ (List.mem_of_getElem? (i := 22) rfl))) dX11_undo_88 ?_
    refine g_iload_n hk dX11_undo_91 rfl ?_
    refine g_aload_n hk dX11_undo_92 rfl ?_
    refine gX_r0_5 hk hin11 (List.mem_cons_of_mem _ (List.mem_append_left _ (List.mem_of_getElem? (i := 0) rfl))) dX11_undo_93 ?_
    refine g_callV (n := 0) hk (k204_X3_secondOfStep l D zt q d I2181 A2181  hV2181) (SP.same _) (fun _ h => h) (gi_V (List.mem_cons_of_mem _ (List.mem_append_left _ (List.mem_of_getElem? (i := 23) rfl))) (List.mem_cons_of_mem _ (List.mem_append_left _ (List.mem_of_getElem? (i := 24) rfl))) (List.mem_cons_of_mem _ (List.mem_append_left _ (List.mem_of_getElem? (i := 25) rfl))) (List.mem_cons_of_mem _ (List.mem_append_left _ (List.mem_of_getElem? (i := 4) rfl))) (gi_sub (fun w h => (List.mem_cons_of_mem _ (List.mem_append_right _ (List.mem_append_right _ (List.mem_append_right _ (List.mem_append_right _ (List.mem_append_right _ (List.mem_append_right _ (List.mem_append_right _ (List.mem_append_right _ (List.mem_append_left _ h))))))))))) zg_k204_X3_secondOfStep)) rfl rfl rfl (by decide +kernel) ⟨Nat.le_of_ble_eq_true rfl, Nat.le_of_ble_eq_true rfl⟩ 20 rfl rfl rfl rfl (Nat.le_of_ble_eq_true rfl) ⟨Nat.le_of_ble_eq_true rfl, Nat.le_of_ble_eq_true rfl⟩ dX11_undo_96 (fun v ty' w' hp hk' => ?_)
    obtain ⟨y2226, rfl, rfl⟩ := hp
    show GW κ 2 0 0 (wX q d I2181 A2181) 99 [(1, .int y2189), (0, .ref (q 0))] [.int y2226, .int y2189, .ref (q 18)]
    refine g_callV (n := 2) hk (k195_X7_put l D zt q d I2181 A2181 y2189 y2226 hV2181) (SP.same _) (fun _ h => h) (gi_V (List.mem_cons_of_mem _ (List.mem_append_left _ (List.mem_of_getElem? (i := 26) rfl))) (List.mem_cons_of_mem _ (List.mem_append_left _ (List.mem_of_getElem? (i := 27) rfl))) (List.mem_cons_of_mem _ (List.mem_append_left _ (List.mem_of_getElem? (i := 28) rfl))) (List.mem_cons_of_mem _ (List.mem_append_left _ (List.mem_of_getElem? (i := 29) rfl))) (gi_sub (fun w h => (List.mem_cons_of_mem _ (List.mem_append_right _ (List.mem_append_right _ (List.mem_append_right _ (List.mem_append_right _ (List.mem_append_right _ (List.mem_append_right _ (List.mem_append_right _ (List.mem_append_right _ (List.mem_append_right _ (List.mem_append_left _ h)))))))))))) zg_k195_X7_put)) rfl rfl rfl (by decide +kernel) ⟨Nat.le_of_ble_eq_true rfl, Nat.le_of_ble_eq_true rfl⟩ 18 rfl rfl rfl rfl (Nat.le_of_ble_eq_true rfl) ⟨Nat.le_of_ble_eq_true rfl, Nat.le_of_ble_eq_true rfl⟩ dX11_undo_99 (fun v ty' w' hp hk' => ?_)
    obtain ⟨I2228, A2228, hI2228, hA2228, hV2228, rfl, rfl⟩ := hp
    show GW κ 2 0 0 (wX q d I2228 A2228) 102 [(1, .int y2189), (0, .ref (q 0))] []
    refine g_iconst (v := 1) hk dX11_undo_102 (by decide) ?_
    exact g_iret hk hR rfl ⟨I2228, A2228, (show Md [17, 18, 20, 21] I I2228 from (Md.tr (Md.tr Md.rf hI2181 rfl) hI2228 rfl)), (show Md [7, 10] A A2228 from (Md.tr (Md.tr Md.rf hA2181 rfl) hA2228 rfl)), hV2228, 1, (by decide), (by decide), rfl, rfl⟩ dX11_undo_103
  · skip
    refine g_iconst (v := 0) hk dX11_undo_10 (by decide) ?_
    exact g_iret hk hR rfl ⟨I2181, A2181, (show Md [17, 18, 20, 21] I I2181 from (Md.tr Md.rf hI2181 rfl)), (show Md [7, 10] A A2181 from (Md.tr Md.rf hA2181 rfl)), hV2181, 0, (by decide), (by decide), rfl, rfl⟩ dX11_undo_11
def wo_k207_X6_hasWindow : List Cond := [Cond.fieldLink RX6 19 "WarpDesk$Series" "size" "I", Cond.methodLink RX6 37 yX6_hasReading, Cond.instanceMethod yX6_hasReading, Cond.selects RX6 yX6_hasReading yX6_hasReading, Cond.initialized RX6]
def wz_k207_X6_hasWindow : List Cond := .code yX6_hasWindow cX6_hasWindow 4 (some .boolean) :: (wo_k207_X6_hasWindow ++ (wsX60 ++ (wz_k188_X6_hasReading ++ ([] : List Cond))))
theorem zg_k207_X6_hasWindow : ∀ w ∈ wz_k207_X6_hasWindow, goodWord w = true := zg_cons rfl (zg_app (by decide +kernel) (zg_app zgU_wsX60 (zg_app zg_k188_X6_hasReading zg_nil)))
theorem zi_k207_X6_hasWindow : ∀ w ∈ wz_k207_X6_hasWindow, w ∈ lw_tbl := zi_cons zw_904 (zi_app (zi_cons zw_282 (zi_cons zw_905 (zi_cons zw_840 (zi_cons zw_841 (zi_cons zw_109 zi_nil))))) (zi_app inX6 (zi_app zi_k188_X6_hasReading zi_nil)))
set_option maxHeartbeats 4000000 in
set_option maxRecDepth 100000 in
theorem k207_X6_hasWindow (l : Launch) (D : va_G) (zt : Nat × Nat × Nat × (Nat → Nat) × (Nat → Nat)) (q : Nat → Nat) (d : Nat → ClassId) (I : Nat → Int32) (A : Nat → Nat → Int32) (z1 : Int32) (z2 : Int32) (hIv : IvX I A) : GM l D zt (tyX d) yX6_hasWindow wz_k207_X6_hasWindow ({ frames := 2, cells := 0, slots := 0, locals := 42 } : Room) [.ref (q 13), .int z1, .int z2] (wX q d I A) (fun v _ w' => (v = some (.int 0) ∧ w' = wX q d I A) ∨ ((¬ (z1.toInt < 0)) ∧ (¬ (z2.toInt < 1)) ∧ (0 ≤ z1.toInt) ∧ (z1.toInt ≤ 159) ∧ (1 ≤ z2.toInt) ∧ (z2.toInt ≤ 160) ∧ v = some (.int 1) ∧ w' = wX q d I A)) 0 0 := by
  refine GM.of (cc := cX6_hasWindow) (maxL := 4) (ret := (some .boolean)) (own := RX6) (lv := [(0, .ref (q 13)), (1, .int z1), (2, .int z2)]) (by decide) rfl rfl (Nat.le_of_ble_eq_true rfl) rfl (fun κ sz hk hR hN => ?_)
  have hin6 : ∀ w ∈ u_ws RX6 TX6 3, w ∈ wz_k207_X6_hasWindow := fun w h => (List.mem_cons_of_mem _ (List.mem_append_right _ (List.mem_append_left _ h)))
  refine g_iload_n hk dX6_hasWindow_0 rfl ?_
  have b2231l := Int32.le_toInt z1
  have b2231h := Int32.toInt_lt z1
  refine g_if_lt (tgt := 27) (a := z1.toInt) hk dX6_hasWindow_1 (by decide) rfl (fun c2232 => ?_) (fun c2232 => ?_)
  · skip
    refine g_iconst (v := 0) hk dX6_hasWindow_27 (by decide) ?_
    exact g_iret hk hR rfl (Or.inl ⟨rfl, rfl⟩) dX6_hasWindow_28
  · skip
    refine g_iload_n hk dX6_hasWindow_4 rfl ?_
    refine g_aload_n hk dX6_hasWindow_5 rfl ?_
    refine gX_i18 (v := (I 18)) hk hin6 (List.mem_cons_of_mem _ (List.mem_append_left _ (List.mem_of_getElem? (i := 0) rfl))) dX6_hasWindow_6 rfl ?_
    have f2233 := IvX_f18 hIv
    refine g_icmp_ge (tgt := 27) (a := z1.toInt) (b := (I 18).toInt) hk dX6_hasWindow_9 (by decide) rfl rfl (fun c2234 => ?_) (fun c2234 => ?_)
    · skip
      refine g_iconst (v := 0) hk dX6_hasWindow_27 (by decide) ?_
      exact g_iret hk hR rfl (Or.inl ⟨rfl, rfl⟩) dX6_hasWindow_28
    · skip
      refine g_iload_n hk dX6_hasWindow_12 rfl ?_
      refine g_iconst (v := 1) hk dX6_hasWindow_13 (by decide) ?_
      have b2235l := Int32.le_toInt z2
      have b2235h := Int32.toInt_lt z2
      refine g_icmp_lt (tgt := 27) (a := z2.toInt) (b := 1) hk dX6_hasWindow_14 (by decide) rfl rfl (fun c2236 => ?_) (fun c2236 => ?_)
      · skip
        refine g_iconst (v := 0) hk dX6_hasWindow_27 (by decide) ?_
        exact g_iret hk hR rfl (Or.inl ⟨rfl, rfl⟩) dX6_hasWindow_28
      · skip
        refine g_iload_n hk dX6_hasWindow_17 rfl ?_
        refine g_aload_n hk dX6_hasWindow_18 rfl ?_
        refine gX_i18 (v := (I 18)) hk hin6 (List.mem_cons_of_mem _ (List.mem_append_left _ (List.mem_of_getElem? (i := 0) rfl))) dX6_hasWindow_19 rfl ?_
        refine g_iload_n hk dX6_hasWindow_22 rfl ?_
        refine g_isub hk dX6_hasWindow_23 ?_
        refine g_topi (fun y2237 ey2237 => ?_)
        have hy2237 : y2237.toInt = (I 18).toInt - z1.toInt := i32_sub ey2237 rfl rfl (by omega) (by omega)
        refine g_icmp_le (tgt := 29) (a := z2.toInt) (b := y2237.toInt) hk dX6_hasWindow_24 (by decide) rfl rfl (fun c2238 => ?_) (fun c2238 => ?_)
        · skip
          refine g_iconst (v := 0) hk dX6_hasWindow_29 (by decide) ?_
          refine g_istore_n (lv' := [(3, .int 0), (0, .ref (q 13)), (1, .int z1), (2, .int z2)]) hk dX6_hasWindow_30 (by decide) rfl ?_
          have lp2265 : ∀ (n2266 : Nat) (x2239 : Int32), (0 ≤ x2239.toInt) → (x2239.toInt ≤ 160) → (161 - x2239.toInt < (n2266 : Int)) → (0 < n2266) → GW κ 4 0 0 (wX q d I A) 31 [(3, .int x2239), (0, .ref (q 13)), (1, .int z1), (2, .int z2)] [] := by
            intro n2266
            induction n2266 with
            | zero =>
              intro x2239 h2263 h2264 m2267 m2267z
              exact absurd m2267z (Nat.lt_irrefl 0)
            | succ n2266 ih2268 =>
              intro x2239 h2263 h2264 m2267 m2267z
              refine g_iload_n hk dX6_hasWindow_31 rfl ?_
              refine g_iload_n hk dX6_hasWindow_32 rfl ?_
              refine g_icmp_ge (tgt := 54) (a := x2239.toInt) (b := z2.toInt) hk dX6_hasWindow_33 (by decide) rfl rfl (fun c2269 => ?_) (fun c2269 => ?_)
              · skip
                refine g_iconst (v := 1) hk dX6_hasWindow_54 (by decide) ?_
                exact g_iret hk hR rfl (Or.inr (⟨c2232, c2236, (by omega), (by omega), (by omega), (by omega), rfl, rfl⟩)) dX6_hasWindow_55
              · skip
                refine g_aload_n hk dX6_hasWindow_36 rfl ?_
                refine g_iload_n hk dX6_hasWindow_37 rfl ?_
                refine g_iload_n hk dX6_hasWindow_38 rfl ?_
                refine g_iadd hk dX6_hasWindow_39 ?_
                refine g_topi (fun y2270 ey2270 => ?_)
                have hy2270 : y2270.toInt = z1.toInt + x2239.toInt := i32_add ey2270 rfl rfl (by omega) (by omega)
                refine g_callV (n := 1) hk (k188_X6_hasReading l D zt q d I A y2270 hIv) (SP.same _) (fun _ h => h) (gi_V (List.mem_cons_of_mem _ (List.mem_append_left _ (List.mem_of_getElem? (i := 1) rfl))) (List.mem_cons_of_mem _ (List.mem_append_left _ (List.mem_of_getElem? (i := 2) rfl))) (List.mem_cons_of_mem _ (List.mem_append_left _ (List.mem_of_getElem? (i := 3) rfl))) (List.mem_cons_of_mem _ (List.mem_append_left _ (List.mem_of_getElem? (i := 4) rfl))) (gi_sub (fun w h => (List.mem_cons_of_mem _ (List.mem_append_right _ (List.mem_append_right _ (List.mem_append_left _ h))))) zg_k188_X6_hasReading)) rfl rfl rfl (by decide +kernel) ⟨Nat.le_of_ble_eq_true rfl, Nat.le_of_ble_eq_true rfl⟩ 13 rfl rfl rfl rfl (Nat.le_of_ble_eq_true rfl) ⟨Nat.le_of_ble_eq_true rfl, Nat.le_of_ble_eq_true rfl⟩ dX6_hasWindow_40 (fun v ty' w' hp hk' => ?_)
                rcases hp with ⟨rfl, rfl⟩ | ⟨rfl, rfl⟩
                · skip
                  show GW κ 4 0 0 (wX q d I A) 43 [(3, .int x2239), (0, .ref (q 13)), (1, .int z1), (2, .int z2)] [.int 0]
                  refine g_if_ne (tgt := 48) (a := 0) hk dX6_hasWindow_43 (by decide) rfl (fun z9 => absurd z9 (show ¬ ((0 : Int) ≠ (0 : Int)) from by decide)) (fun _ => ?_)
                  refine g_iconst (v := 0) hk dX6_hasWindow_46 (by decide) ?_
                  exact g_iret hk hR rfl (Or.inl ⟨rfl, rfl⟩) dX6_hasWindow_47
                · skip
                  show GW κ 4 0 0 (wX q d I A) 43 [(3, .int x2239), (0, .ref (q 13)), (1, .int z1), (2, .int z2)] [.int 1]
                  refine g_if_ne (tgt := 48) (a := 1) hk dX6_hasWindow_43 (by decide) rfl (fun _ => ?_) (fun z9 => absurd (show (1 : Int) ≠ (0 : Int) from by decide) z9)
                  obtain ⟨y2273, ey2273⟩ : ∃ y : Int32, y = x2239 + Int32.ofInt 1 := ⟨_, rfl⟩
                  have hy2273 : y2273.toInt = x2239.toInt + 1 := i32_add ey2273 rfl (by decide) (by omega) (by omega)
                  refine g_iinc (v := y2273) (lv' := [(3, .int y2273), (0, .ref (q 13)), (1, .int z1), (2, .int z2)]) hk 0 dX6_hasWindow_48 rfl ey2273.symm (by decide) rfl ?_
                  refine g_goto (tgt := 31) hk dX6_hasWindow_51 (by decide) ?_
                  exact g_lv (List.forall_mem_cons.mpr ⟨List.mem_of_getElem? (i := 0) rfl, (List.forall_mem_cons.mpr ⟨List.mem_of_getElem? (i := 1) rfl, (List.forall_mem_cons.mpr ⟨List.mem_of_getElem? (i := 2) rfl, (List.forall_mem_cons.mpr ⟨List.mem_of_getElem? (i := 3) rfl, (fun _ h => absurd h List.not_mem_nil)⟩)⟩)⟩)⟩) (ih2268 y2273 (by omega) (by omega) (by omega) (by omega))
          have k2275 : (0 : Int32).toInt = 0 := rfl
          obtain ⟨n2274, n2274a, n2274b⟩ : ∃ n : Nat, 161 - 0 < (n : Int) ∧ 0 < n := ⟨((161 - 0 : Int)).toNat + 1, by omega, by omega⟩
          exact lp2265 n2274 0 (by omega) (by omega) n2274a n2274b
        · skip
          refine g_iconst (v := 0) hk dX6_hasWindow_27 (by decide) ?_
          exact g_iret hk hR rfl (Or.inl ⟨rfl, rfl⟩) dX6_hasWindow_28
def wo_k208_X6_sumOf : List Cond := [Cond.methodLink RX6 37 yX6_hasReading, Cond.instanceMethod yX6_hasReading, Cond.selects RX6 yX6_hasReading yX6_hasReading, Cond.initialized RX6, Cond.methodLink RX6 33 yX6_valueAt, Cond.instanceMethod yX6_valueAt, Cond.selects RX6 yX6_valueAt yX6_valueAt]
def wz_k208_X6_sumOf : List Cond := .code yX6_sumOf cX6_sumOf 5 (some .int) :: (wo_k208_X6_sumOf ++ (wz_k188_X6_hasReading ++ (wz_k179_X6_valueAt ++ ([] : List Cond))))
theorem zg_k208_X6_sumOf : ∀ w ∈ wz_k208_X6_sumOf, goodWord w = true := zg_cons rfl (zg_app (by decide +kernel) (zg_app zg_k188_X6_hasReading (zg_app zg_k179_X6_valueAt zg_nil)))
theorem zi_k208_X6_sumOf : ∀ w ∈ wz_k208_X6_sumOf, w ∈ lw_tbl := zi_cons zw_910 (zi_app (zi_cons zw_905 (zi_cons zw_840 (zi_cons zw_841 (zi_cons zw_109 (zi_cons zw_843 (zi_cons zw_807 (zi_cons zw_808 zi_nil))))))) (zi_app zi_k188_X6_hasReading (zi_app zi_k179_X6_valueAt zi_nil)))
set_option maxHeartbeats 4000000 in
set_option maxRecDepth 100000 in
theorem k208_X6_sumOf (l : Launch) (D : va_G) (zt : Nat × Nat × Nat × (Nat → Nat) × (Nat → Nat)) (q : Nat → Nat) (d : Nat → ClassId) (I : Nat → Int32) (A : Nat → Nat → Int32) (z1 : Int32) (z2 : Int32) (hIv : IvX I A) : GM l D zt (tyX d) yX6_sumOf wz_k208_X6_sumOf ({ frames := 2, cells := 0, slots := 0, locals := 42 } : Room) [.ref (q 13), .int z1, .int z2] (wX q d I A) (fun v _ w' => ∃ y0 : Int32, v = some (.int y0) ∧ w' = wX q d I A) 0 0 := by
  refine GM.of (cc := cX6_sumOf) (maxL := 5) (ret := (some .int)) (own := RX6) (lv := [(0, .ref (q 13)), (1, .int z1), (2, .int z2)]) (by decide) rfl rfl (Nat.le_of_ble_eq_true rfl) rfl (fun κ sz hk hR hN => ?_)
  refine g_iconst (v := 0) hk dX6_sumOf_0 (by decide) ?_
  refine g_istore_n (lv' := [(3, .int 0), (0, .ref (q 13)), (1, .int z1), (2, .int z2)]) hk dX6_sumOf_1 (by decide) rfl ?_
  refine g_iconst (v := 0) hk dX6_sumOf_2 (by decide) ?_
  refine g_istore (lv' := [(4, .int 0), (3, .int 0), (0, .ref (q 13)), (1, .int z1), (2, .int z2)]) hk dX6_sumOf_3 (by decide) rfl ?_
  have lp2329 : ∀ (n2330 : Nat) (x2285 : Int32) (x2286 : Int32), (0 ≤ x2285.toInt) → (z2.toInt + 1 - x2285.toInt < (n2330 : Int)) → (0 < n2330) → GW κ 5 0 0 (wX q d I A) 5 [(4, .int x2285), (3, .int x2286), (0, .ref (q 13)), (1, .int z1), (2, .int z2)] [] := by
    intro n2330
    induction n2330 with
    | zero =>
      intro x2285 x2286 h2328 m2331 m2331z
      exact absurd m2331z (Nat.lt_irrefl 0)
    | succ n2330 ih2332 =>
      intro x2285 x2286 h2328 m2331 m2331z
      refine g_iload hk dX6_sumOf_5 rfl ?_
      refine g_iload_n hk dX6_sumOf_7 rfl ?_
      have b2333l := Int32.le_toInt x2285
      have b2333h := Int32.toInt_lt x2285
      have b2334l := Int32.le_toInt z2
      have b2334h := Int32.toInt_lt z2
      refine g_icmp_ge (tgt := 39) (a := x2285.toInt) (b := z2.toInt) hk dX6_sumOf_8 (by decide) rfl rfl (fun c2335 => ?_) (fun c2335 => ?_)
      · skip
        refine g_iload_n hk dX6_sumOf_39 rfl ?_
        have b2336l := Int32.le_toInt x2286
        have b2336h := Int32.toInt_lt x2286
        exact g_iret hk hR rfl ⟨x2286, rfl, rfl⟩ dX6_sumOf_40
      · skip
        refine g_aload_n hk dX6_sumOf_11 rfl ?_
        refine g_iload_n hk dX6_sumOf_12 rfl ?_
        refine g_iload hk dX6_sumOf_13 rfl ?_
        have b2337l := Int32.le_toInt z1
        have b2337h := Int32.toInt_lt z1
        refine g_iadd hk dX6_sumOf_15 ?_
        refine g_topi (fun y2338 ey2338 => ?_)
        refine g_callV (n := 1) hk (k188_X6_hasReading l D zt q d I A y2338 hIv) (SP.same _) (fun _ h => h) (gi_V (List.mem_cons_of_mem _ (List.mem_append_left _ (List.mem_of_getElem? (i := 0) rfl))) (List.mem_cons_of_mem _ (List.mem_append_left _ (List.mem_of_getElem? (i := 1) rfl))) (List.mem_cons_of_mem _ (List.mem_append_left _ (List.mem_of_getElem? (i := 2) rfl))) (List.mem_cons_of_mem _ (List.mem_append_left _ (List.mem_of_getElem? (i := 3) rfl))) (gi_sub (fun w h => (List.mem_cons_of_mem _ (List.mem_append_right _ (List.mem_append_left _ h)))) zg_k188_X6_hasReading)) rfl rfl rfl (by decide +kernel) ⟨Nat.le_of_ble_eq_true rfl, Nat.le_of_ble_eq_true rfl⟩ 13 rfl rfl rfl rfl (Nat.le_of_ble_eq_true rfl) ⟨Nat.le_of_ble_eq_true rfl, Nat.le_of_ble_eq_true rfl⟩ dX6_sumOf_16 (fun v ty' w' hp hk' => ?_)
        rcases hp with ⟨rfl, rfl⟩ | ⟨rfl, rfl⟩
        · skip
          show GW κ 5 0 0 (wX q d I A) 19 [(4, .int x2285), (3, .int x2286), (0, .ref (q 13)), (1, .int z1), (2, .int z2)] [.int 0]
          refine g_if_eq (tgt := 33) (a := 0) hk dX6_sumOf_19 (by decide) rfl (fun _ => ?_) (fun z9 => absurd (show (0 : Int) = (0 : Int) from by decide) z9)
          obtain ⟨y2341, ey2341⟩ : ∃ y : Int32, y = x2285 + Int32.ofInt 1 := ⟨_, rfl⟩
          have hy2341 : y2341.toInt = x2285.toInt + 1 := i32_add ey2341 rfl (by decide) (by omega) (by omega)
          refine g_iinc (v := y2341) (lv' := [(4, .int y2341), (3, .int x2286), (0, .ref (q 13)), (1, .int z1), (2, .int z2)]) hk 0 dX6_sumOf_33 rfl ey2341.symm (by decide) rfl ?_
          refine g_goto (tgt := 5) hk dX6_sumOf_36 (by decide) ?_
          exact g_lv (List.forall_mem_cons.mpr ⟨List.mem_of_getElem? (i := 0) rfl, (List.forall_mem_cons.mpr ⟨List.mem_of_getElem? (i := 1) rfl, (List.forall_mem_cons.mpr ⟨List.mem_of_getElem? (i := 2) rfl, (List.forall_mem_cons.mpr ⟨List.mem_of_getElem? (i := 3) rfl, (List.forall_mem_cons.mpr ⟨List.mem_of_getElem? (i := 4) rfl, (fun _ h => absurd h List.not_mem_nil)⟩)⟩)⟩)⟩)⟩) (ih2332 y2341 x2286 (by omega) (by omega) (by omega))
        · skip
          show GW κ 5 0 0 (wX q d I A) 19 [(4, .int x2285), (3, .int x2286), (0, .ref (q 13)), (1, .int z1), (2, .int z2)] [.int 1]
          refine g_if_eq (tgt := 33) (a := 1) hk dX6_sumOf_19 (by decide) rfl (fun z9 => absurd z9 (show ¬ ((1 : Int) = (0 : Int)) from by decide)) (fun _ => ?_)
          refine g_iload_n hk dX6_sumOf_22 rfl ?_
          refine g_aload_n hk dX6_sumOf_23 rfl ?_
          refine g_iload_n hk dX6_sumOf_24 rfl ?_
          refine g_iload hk dX6_sumOf_25 rfl ?_
          refine g_iadd hk dX6_sumOf_27 ?_
          refine g_topi (fun y2342 ey2342 => ?_)
          refine g_callV (n := 1) hk (k179_X6_valueAt l D zt q d I A y2342 hIv) (SP.same _) (fun _ h => h) (gi_V (List.mem_cons_of_mem _ (List.mem_append_left _ (List.mem_of_getElem? (i := 4) rfl))) (List.mem_cons_of_mem _ (List.mem_append_left _ (List.mem_of_getElem? (i := 5) rfl))) (List.mem_cons_of_mem _ (List.mem_append_left _ (List.mem_of_getElem? (i := 6) rfl))) (List.mem_cons_of_mem _ (List.mem_append_left _ (List.mem_of_getElem? (i := 3) rfl))) (gi_sub (fun w h => (List.mem_cons_of_mem _ (List.mem_append_right _ (List.mem_append_right _ (List.mem_append_left _ h))))) zg_k179_X6_valueAt)) rfl rfl rfl (by decide +kernel) ⟨Nat.le_of_ble_eq_true rfl, Nat.le_of_ble_eq_true rfl⟩ 13 rfl rfl rfl rfl (Nat.le_of_ble_eq_true rfl) ⟨Nat.le_of_ble_eq_true rfl, Nat.le_of_ble_eq_true rfl⟩ dX6_sumOf_28 (fun v ty' w' hp hk' => ?_)
          obtain ⟨y2343, rfl, rfl⟩ := hp
          show GW κ 5 0 0 (wX q d I A) 31 [(4, .int x2285), (3, .int x2286), (0, .ref (q 13)), (1, .int z1), (2, .int z2)] [.int y2343, .int x2286]
          have b2344l := Int32.le_toInt x2286
          have b2344h := Int32.toInt_lt x2286
          have b2345l := Int32.le_toInt y2343
          have b2345h := Int32.toInt_lt y2343
          refine g_iadd hk dX6_sumOf_31 ?_
          refine g_topi (fun y2346 ey2346 => ?_)
          refine g_istore_n (lv' := [(3, .int y2346), (4, .int x2285), (0, .ref (q 13)), (1, .int z1), (2, .int z2)]) hk dX6_sumOf_32 (by decide) rfl ?_
          obtain ⟨y2347, ey2347⟩ : ∃ y : Int32, y = x2285 + Int32.ofInt 1 := ⟨_, rfl⟩
          have hy2347 : y2347.toInt = x2285.toInt + 1 := i32_add ey2347 rfl (by decide) (by omega) (by omega)
          refine g_iinc (v := y2347) (lv' := [(4, .int y2347), (3, .int y2346), (0, .ref (q 13)), (1, .int z1), (2, .int z2)]) hk 1 dX6_sumOf_33 rfl ey2347.symm (by decide) rfl ?_
          refine g_goto (tgt := 5) hk dX6_sumOf_36 (by decide) ?_
          exact g_lv (List.forall_mem_cons.mpr ⟨List.mem_of_getElem? (i := 0) rfl, (List.forall_mem_cons.mpr ⟨List.mem_of_getElem? (i := 1) rfl, (List.forall_mem_cons.mpr ⟨List.mem_of_getElem? (i := 2) rfl, (List.forall_mem_cons.mpr ⟨List.mem_of_getElem? (i := 3) rfl, (List.forall_mem_cons.mpr ⟨List.mem_of_getElem? (i := 4) rfl, (fun _ h => absurd h List.not_mem_nil)⟩)⟩)⟩)⟩)⟩) (ih2332 y2347 y2346 (by omega) (by omega) (by omega))
  have k2349 : (0 : Int32).toInt = 0 := rfl
  obtain ⟨n2348, n2348a, n2348b⟩ : ∃ n : Nat, z2.toInt + 1 - 0 < (n : Int) ∧ 0 < n := ⟨((z2.toInt + 1 - 0 : Int)).toNat + 1, by omega, by omega⟩
  exact lp2329 n2348 0 0 (by omega) n2348a n2348b
def wo_k209_X6_leastOf : List Cond := [Cond.methodLink RX6 33 yX6_valueAt, Cond.instanceMethod yX6_valueAt, Cond.selects RX6 yX6_valueAt yX6_valueAt, Cond.initialized RX6]
def wz_k209_X6_leastOf : List Cond := .code yX6_leastOf cX6_leastOf 6 (some .int) :: (wo_k209_X6_leastOf ++ (wz_k179_X6_valueAt ++ ([] : List Cond)))
theorem zg_k209_X6_leastOf : ∀ w ∈ wz_k209_X6_leastOf, goodWord w = true := zg_cons rfl (zg_app (by decide +kernel) (zg_app zg_k179_X6_valueAt zg_nil))
theorem zi_k209_X6_leastOf : ∀ w ∈ wz_k209_X6_leastOf, w ∈ lw_tbl := zi_cons zw_914 (zi_app (zi_cons zw_843 (zi_cons zw_807 (zi_cons zw_808 (zi_cons zw_109 zi_nil)))) (zi_app zi_k179_X6_valueAt zi_nil))
set_option maxHeartbeats 4000000 in
set_option maxRecDepth 100000 in
theorem k209_X6_leastOf (l : Launch) (D : va_G) (zt : Nat × Nat × Nat × (Nat → Nat) × (Nat → Nat)) (q : Nat → Nat) (d : Nat → ClassId) (I : Nat → Int32) (A : Nat → Nat → Int32) (z1 : Int32) (z2 : Int32) (hIv : IvX I A) : GM l D zt (tyX d) yX6_leastOf wz_k209_X6_leastOf ({ frames := 1, cells := 0, slots := 0, locals := 21 } : Room) [.ref (q 13), .int z1, .int z2] (wX q d I A) (fun v _ w' => ∃ y0 : Int32, v = some (.int y0) ∧ w' = wX q d I A) 0 0 := by
  refine GM.of (cc := cX6_leastOf) (maxL := 6) (ret := (some .int)) (own := RX6) (lv := [(0, .ref (q 13)), (1, .int z1), (2, .int z2)]) (by decide) rfl rfl (Nat.le_of_ble_eq_true rfl) rfl (fun κ sz hk hR hN => ?_)
  refine g_sipush (v := (-1000)) hk dX6_leastOf_0 (by decide) ?_
  refine g_istore_n (lv' := [(3, .int (-1000)), (0, .ref (q 13)), (1, .int z1), (2, .int z2)]) hk dX6_leastOf_3 (by decide) rfl ?_
  refine g_iconst (v := 0) hk dX6_leastOf_4 (by decide) ?_
  refine g_istore (lv' := [(4, .int 0), (3, .int (-1000)), (0, .ref (q 13)), (1, .int z1), (2, .int z2)]) hk dX6_leastOf_5 (by decide) rfl ?_
  have lp2396 : ∀ (n2397 : Nat) (x2353 : Int32) (x2354 : Int32), (0 ≤ x2353.toInt) → (z2.toInt + 1 - x2353.toInt < (n2397 : Int)) → (0 < n2397) → GW κ 6 0 0 (wX q d I A) 7 [(4, .int x2353), (3, .int x2354), (0, .ref (q 13)), (1, .int z1), (2, .int z2)] [] := by
    intro n2397
    induction n2397 with
    | zero =>
      intro x2353 x2354 h2395 m2398 m2398z
      exact absurd m2398z (Nat.lt_irrefl 0)
    | succ n2397 ih2399 =>
      intro x2353 x2354 h2395 m2398 m2398z
      refine g_iload hk dX6_leastOf_7 rfl ?_
      refine g_iload_n hk dX6_leastOf_9 rfl ?_
      have b2400l := Int32.le_toInt x2353
      have b2400h := Int32.toInt_lt x2353
      have b2401l := Int32.le_toInt z2
      have b2401h := Int32.toInt_lt z2
      refine g_icmp_ge (tgt := 53) (a := x2353.toInt) (b := z2.toInt) hk dX6_leastOf_10 (by decide) rfl rfl (fun c2402 => ?_) (fun c2402 => ?_)
      · skip
        refine g_iload_n hk dX6_leastOf_53 rfl ?_
        have b2403l := Int32.le_toInt x2354
        have b2403h := Int32.toInt_lt x2354
        exact g_iret hk hR rfl ⟨x2354, rfl, rfl⟩ dX6_leastOf_54
      · skip
        refine g_aload_n hk dX6_leastOf_13 rfl ?_
        refine g_iload_n hk dX6_leastOf_14 rfl ?_
        refine g_iload hk dX6_leastOf_15 rfl ?_
        have b2404l := Int32.le_toInt z1
        have b2404h := Int32.toInt_lt z1
        refine g_iadd hk dX6_leastOf_17 ?_
        refine g_topi (fun y2405 ey2405 => ?_)
        refine g_callV (n := 1) hk (k179_X6_valueAt l D zt q d I A y2405 hIv) (SP.same _) (fun _ h => h) (gi_V (List.mem_cons_of_mem _ (List.mem_append_left _ (List.mem_of_getElem? (i := 0) rfl))) (List.mem_cons_of_mem _ (List.mem_append_left _ (List.mem_of_getElem? (i := 1) rfl))) (List.mem_cons_of_mem _ (List.mem_append_left _ (List.mem_of_getElem? (i := 2) rfl))) (List.mem_cons_of_mem _ (List.mem_append_left _ (List.mem_of_getElem? (i := 3) rfl))) (gi_sub (fun w h => (List.mem_cons_of_mem _ (List.mem_append_right _ (List.mem_append_left _ h)))) zg_k179_X6_valueAt)) rfl rfl rfl (by decide +kernel) ⟨Nat.le_of_ble_eq_true rfl, Nat.le_of_ble_eq_true rfl⟩ 13 rfl rfl rfl rfl (Nat.le_of_ble_eq_true rfl) ⟨Nat.le_of_ble_eq_true rfl, Nat.le_of_ble_eq_true rfl⟩ dX6_leastOf_18 (fun v ty' w' hp hk' => ?_)
        obtain ⟨y2406, rfl, rfl⟩ := hp
        show GW κ 6 0 0 (wX q d I A) 21 [(4, .int x2353), (3, .int x2354), (0, .ref (q 13)), (1, .int z1), (2, .int z2)] [.int y2406]
        refine g_istore (lv' := [(5, .int y2406), (4, .int x2353), (3, .int x2354), (0, .ref (q 13)), (1, .int z1), (2, .int z2)]) hk dX6_leastOf_21 (by decide) rfl ?_
        refine g_iload hk dX6_leastOf_23 rfl ?_
        refine g_sipush (v := (-1000)) hk dX6_leastOf_25 (by decide) ?_
        have b2407l := Int32.le_toInt y2406
        have b2407h := Int32.toInt_lt y2406
        refine g_icmp_eq (tgt := 47) (a := y2406.toInt) (b := (-1000)) hk dX6_leastOf_28 (by decide) rfl rfl (fun c2408 => ?_) (fun c2408 => ?_)
        · skip
          obtain ⟨y2409, ey2409⟩ : ∃ y : Int32, y = x2353 + Int32.ofInt 1 := ⟨_, rfl⟩
          have hy2409 : y2409.toInt = x2353.toInt + 1 := i32_add ey2409 rfl (by decide) (by omega) (by omega)
          refine g_iinc (v := y2409) (lv' := [(4, .int y2409), (5, .int y2406), (3, .int x2354), (0, .ref (q 13)), (1, .int z1), (2, .int z2)]) hk 1 dX6_leastOf_47 rfl ey2409.symm (by decide) rfl ?_
          refine g_goto (tgt := 7) hk dX6_leastOf_50 (by decide) ?_
          exact g_lv (List.forall_mem_cons.mpr ⟨List.mem_of_getElem? (i := 0) rfl, (List.forall_mem_cons.mpr ⟨List.mem_of_getElem? (i := 2) rfl, (List.forall_mem_cons.mpr ⟨List.mem_of_getElem? (i := 3) rfl, (List.forall_mem_cons.mpr ⟨List.mem_of_getElem? (i := 4) rfl, (List.forall_mem_cons.mpr ⟨List.mem_of_getElem? (i := 5) rfl, (fun _ h => absurd h List.not_mem_nil)⟩)⟩)⟩)⟩)⟩) (ih2399 y2409 x2354 (by omega) (by omega) (by omega))
        · skip
          refine g_iload_n hk dX6_leastOf_31 rfl ?_
          refine g_sipush (v := (-1000)) hk dX6_leastOf_32 (by decide) ?_
          have b2410l := Int32.le_toInt x2354
          have b2410h := Int32.toInt_lt x2354
          refine g_icmp_eq (tgt := 44) (a := x2354.toInt) (b := (-1000)) hk dX6_leastOf_35 (by decide) rfl rfl (fun c2411 => ?_) (fun c2411 => ?_)
          · skip
            refine g_iload hk dX6_leastOf_44 rfl ?_
            refine g_istore_n (lv' := [(3, .int y2406), (5, .int y2406), (4, .int x2353), (0, .ref (q 13)), (1, .int z1), (2, .int z2)]) hk dX6_leastOf_46 (by decide) rfl ?_
            obtain ⟨y2412, ey2412⟩ : ∃ y : Int32, y = x2353 + Int32.ofInt 1 := ⟨_, rfl⟩
            have hy2412 : y2412.toInt = x2353.toInt + 1 := i32_add ey2412 rfl (by decide) (by omega) (by omega)
            refine g_iinc (v := y2412) (lv' := [(4, .int y2412), (3, .int y2406), (5, .int y2406), (0, .ref (q 13)), (1, .int z1), (2, .int z2)]) hk 2 dX6_leastOf_47 rfl ey2412.symm (by decide) rfl ?_
            refine g_goto (tgt := 7) hk dX6_leastOf_50 (by decide) ?_
            exact g_lv (List.forall_mem_cons.mpr ⟨List.mem_of_getElem? (i := 0) rfl, (List.forall_mem_cons.mpr ⟨List.mem_of_getElem? (i := 1) rfl, (List.forall_mem_cons.mpr ⟨List.mem_of_getElem? (i := 3) rfl, (List.forall_mem_cons.mpr ⟨List.mem_of_getElem? (i := 4) rfl, (List.forall_mem_cons.mpr ⟨List.mem_of_getElem? (i := 5) rfl, (fun _ h => absurd h List.not_mem_nil)⟩)⟩)⟩)⟩)⟩) (ih2399 y2412 y2406 (by omega) (by omega) (by omega))
          · skip
            refine g_iload hk dX6_leastOf_38 rfl ?_
            refine g_iload_n hk dX6_leastOf_40 rfl ?_
            refine g_icmp_ge (tgt := 47) (a := y2406.toInt) (b := x2354.toInt) hk dX6_leastOf_41 (by decide) rfl rfl (fun c2413 => ?_) (fun c2413 => ?_)
            · skip
              obtain ⟨y2414, ey2414⟩ : ∃ y : Int32, y = x2353 + Int32.ofInt 1 := ⟨_, rfl⟩
              have hy2414 : y2414.toInt = x2353.toInt + 1 := i32_add ey2414 rfl (by decide) (by omega) (by omega)
              refine g_iinc (v := y2414) (lv' := [(4, .int y2414), (5, .int y2406), (3, .int x2354), (0, .ref (q 13)), (1, .int z1), (2, .int z2)]) hk 1 dX6_leastOf_47 rfl ey2414.symm (by decide) rfl ?_
              refine g_goto (tgt := 7) hk dX6_leastOf_50 (by decide) ?_
              exact g_lv (List.forall_mem_cons.mpr ⟨List.mem_of_getElem? (i := 0) rfl, (List.forall_mem_cons.mpr ⟨List.mem_of_getElem? (i := 2) rfl, (List.forall_mem_cons.mpr ⟨List.mem_of_getElem? (i := 3) rfl, (List.forall_mem_cons.mpr ⟨List.mem_of_getElem? (i := 4) rfl, (List.forall_mem_cons.mpr ⟨List.mem_of_getElem? (i := 5) rfl, (fun _ h => absurd h List.not_mem_nil)⟩)⟩)⟩)⟩)⟩) (ih2399 y2414 x2354 (by omega) (by omega) (by omega))
            · skip
              refine g_iload hk dX6_leastOf_44 rfl ?_
              refine g_istore_n (lv' := [(3, .int y2406), (5, .int y2406), (4, .int x2353), (0, .ref (q 13)), (1, .int z1), (2, .int z2)]) hk dX6_leastOf_46 (by decide) rfl ?_
              obtain ⟨y2415, ey2415⟩ : ∃ y : Int32, y = x2353 + Int32.ofInt 1 := ⟨_, rfl⟩
              have hy2415 : y2415.toInt = x2353.toInt + 1 := i32_add ey2415 rfl (by decide) (by omega) (by omega)
              refine g_iinc (v := y2415) (lv' := [(4, .int y2415), (3, .int y2406), (5, .int y2406), (0, .ref (q 13)), (1, .int z1), (2, .int z2)]) hk 2 dX6_leastOf_47 rfl ey2415.symm (by decide) rfl ?_
              refine g_goto (tgt := 7) hk dX6_leastOf_50 (by decide) ?_
              exact g_lv (List.forall_mem_cons.mpr ⟨List.mem_of_getElem? (i := 0) rfl, (List.forall_mem_cons.mpr ⟨List.mem_of_getElem? (i := 1) rfl, (List.forall_mem_cons.mpr ⟨List.mem_of_getElem? (i := 3) rfl, (List.forall_mem_cons.mpr ⟨List.mem_of_getElem? (i := 4) rfl, (List.forall_mem_cons.mpr ⟨List.mem_of_getElem? (i := 5) rfl, (fun _ h => absurd h List.not_mem_nil)⟩)⟩)⟩)⟩)⟩) (ih2399 y2415 y2406 (by omega) (by omega) (by omega))
  have k2417 : (0 : Int32).toInt = 0 := rfl
  have k2418 : ((-1000) : Int32).toInt = (-1000) := rfl
  obtain ⟨n2416, n2416a, n2416b⟩ : ∃ n : Nat, z2.toInt + 1 - 0 < (n : Int) ∧ 0 < n := ⟨((z2.toInt + 1 - 0 : Int)).toNat + 1, by omega, by omega⟩
  exact lp2396 n2416 0 (-1000) (by omega) n2416a n2416b
def wo_k210_X6_greatestOf : List Cond := [Cond.methodLink RX6 33 yX6_valueAt, Cond.instanceMethod yX6_valueAt, Cond.selects RX6 yX6_valueAt yX6_valueAt, Cond.initialized RX6, Cond.methodLink RX6 40 Lib.Math.max.name, Cond.static Lib.Math.max.name, Cond.initialized "java/lang/Math", Cond.code Lib.Math.max.name Lib.Math.max.code 2 (some .int)]
def wz_k210_X6_greatestOf : List Cond := .code yX6_greatestOf cX6_greatestOf 5 (some .int) :: (wo_k210_X6_greatestOf ++ (wz_k179_X6_valueAt ++ ([] : List Cond)))
theorem zg_k210_X6_greatestOf : ∀ w ∈ wz_k210_X6_greatestOf, goodWord w = true := zg_cons rfl (zg_app (by decide +kernel) (zg_app zg_k179_X6_valueAt zg_nil))
theorem zi_k210_X6_greatestOf : ∀ w ∈ wz_k210_X6_greatestOf, w ∈ lw_tbl := zi_cons zw_918 (zi_app (zi_cons zw_843 (zi_cons zw_807 (zi_cons zw_808 (zi_cons zw_109 (zi_cons zw_919 (zi_cons zw_920 (zi_cons zw_120 (zi_cons zw_921 zi_nil)))))))) (zi_app zi_k179_X6_valueAt zi_nil))
set_option maxHeartbeats 4000000 in
set_option maxRecDepth 100000 in
theorem k210_X6_greatestOf (l : Launch) (D : va_G) (zt : Nat × Nat × Nat × (Nat → Nat) × (Nat → Nat)) (q : Nat → Nat) (d : Nat → ClassId) (I : Nat → Int32) (A : Nat → Nat → Int32) (z1 : Int32) (z2 : Int32) (hIv : IvX I A) : GM l D zt (tyX d) yX6_greatestOf wz_k210_X6_greatestOf ({ frames := 1, cells := 0, slots := 0, locals := 21 } : Room) [.ref (q 13), .int z1, .int z2] (wX q d I A) (fun v _ w' => ∃ y0 : Int32, ((-1000) ≤ y0.toInt) ∧ v = some (.int y0) ∧ w' = wX q d I A) 0 0 := by
  refine GM.of (cc := cX6_greatestOf) (maxL := 5) (ret := (some .int)) (own := RX6) (lv := [(0, .ref (q 13)), (1, .int z1), (2, .int z2)]) (by decide) rfl rfl (Nat.le_of_ble_eq_true rfl) rfl (fun κ sz hk hR hN => ?_)
  refine g_sipush (v := (-1000)) hk dX6_greatestOf_0 (by decide) ?_
  refine g_istore_n (lv' := [(3, .int (-1000)), (0, .ref (q 13)), (1, .int z1), (2, .int z2)]) hk dX6_greatestOf_3 (by decide) rfl ?_
  refine g_iconst (v := 0) hk dX6_greatestOf_4 (by decide) ?_
  refine g_istore (lv' := [(4, .int 0), (3, .int (-1000)), (0, .ref (q 13)), (1, .int z1), (2, .int z2)]) hk dX6_greatestOf_5 (by decide) rfl ?_
  have lp2457 : ∀ (n2458 : Nat) (x2422 : Int32) (x2423 : Int32), (0 ≤ x2422.toInt) → ((-1000) ≤ x2423.toInt) → (z2.toInt + 1 - x2422.toInt < (n2458 : Int)) → (0 < n2458) → GW κ 5 0 0 (wX q d I A) 7 [(4, .int x2422), (3, .int x2423), (0, .ref (q 13)), (1, .int z1), (2, .int z2)] [] := by
    intro n2458
    induction n2458 with
    | zero =>
      intro x2422 x2423 h2455 h2456 m2459 m2459z
      exact absurd m2459z (Nat.lt_irrefl 0)
    | succ n2458 ih2460 =>
      intro x2422 x2423 h2455 h2456 m2459 m2459z
      refine g_iload hk dX6_greatestOf_7 rfl ?_
      refine g_iload_n hk dX6_greatestOf_9 rfl ?_
      have b2461l := Int32.le_toInt x2422
      have b2461h := Int32.toInt_lt x2422
      have b2462l := Int32.le_toInt z2
      have b2462h := Int32.toInt_lt z2
      refine g_icmp_ge (tgt := 32) (a := x2422.toInt) (b := z2.toInt) hk dX6_greatestOf_10 (by decide) rfl rfl (fun c2463 => ?_) (fun c2463 => ?_)
      · skip
        refine g_iload_n hk dX6_greatestOf_32 rfl ?_
        have b2464l := Int32.le_toInt x2423
        have b2464h := Int32.toInt_lt x2423
        exact g_iret hk hR rfl ⟨x2423, (by omega), rfl, rfl⟩ dX6_greatestOf_33
      · skip
        refine g_iload_n hk dX6_greatestOf_13 rfl ?_
        refine g_aload_n hk dX6_greatestOf_14 rfl ?_
        refine g_iload_n hk dX6_greatestOf_15 rfl ?_
        refine g_iload hk dX6_greatestOf_16 rfl ?_
        have b2465l := Int32.le_toInt z1
        have b2465h := Int32.toInt_lt z1
        refine g_iadd hk dX6_greatestOf_18 ?_
        refine g_topi (fun y2466 ey2466 => ?_)
        refine g_callV (n := 1) hk (k179_X6_valueAt l D zt q d I A y2466 hIv) (SP.same _) (fun _ h => h) (gi_V (List.mem_cons_of_mem _ (List.mem_append_left _ (List.mem_of_getElem? (i := 0) rfl))) (List.mem_cons_of_mem _ (List.mem_append_left _ (List.mem_of_getElem? (i := 1) rfl))) (List.mem_cons_of_mem _ (List.mem_append_left _ (List.mem_of_getElem? (i := 2) rfl))) (List.mem_cons_of_mem _ (List.mem_append_left _ (List.mem_of_getElem? (i := 3) rfl))) (gi_sub (fun w h => (List.mem_cons_of_mem _ (List.mem_append_right _ (List.mem_append_left _ h)))) zg_k179_X6_valueAt)) rfl rfl rfl (by decide +kernel) ⟨Nat.le_of_ble_eq_true rfl, Nat.le_of_ble_eq_true rfl⟩ 13 rfl rfl rfl rfl (Nat.le_of_ble_eq_true rfl) ⟨Nat.le_of_ble_eq_true rfl, Nat.le_of_ble_eq_true rfl⟩ dX6_greatestOf_19 (fun v ty' w' hp hk' => ?_)
        obtain ⟨y2467, rfl, rfl⟩ := hp
        show GW κ 5 0 0 (wX q d I A) 22 [(4, .int x2422), (3, .int x2423), (0, .ref (q 13)), (1, .int z1), (2, .int z2)] [.int y2467, .int x2423]
        have b2468l := Int32.le_toInt y2467
        have b2468h := Int32.toInt_lt y2467
        have b2469l := Int32.le_toInt x2423
        have b2469h := Int32.toInt_lt x2423
        refine g_mmax hk (List.mem_cons_of_mem _ (List.mem_append_left _ (List.mem_of_getElem? (i := 4) rfl))) (List.mem_cons_of_mem _ (List.mem_append_left _ (List.mem_of_getElem? (i := 5) rfl))) (List.mem_cons_of_mem _ (List.mem_append_left _ (List.mem_of_getElem? (i := 6) rfl))) (List.mem_cons_of_mem _ (List.mem_append_left _ (List.mem_of_getElem? (i := 7) rfl))) (Nat.le_of_ble_eq_true rfl) (Nat.le_of_ble_eq_true rfl) (Nat.le_of_ble_eq_true rfl) (Nat.le_of_ble_eq_true rfl) dX6_greatestOf_22 ?_
        refine g_topi (fun y2470 ey2470 => ?_)
        have hy2470 := i32_max ey2470
        refine g_istore_n (lv' := [(3, .int y2470), (4, .int x2422), (0, .ref (q 13)), (1, .int z1), (2, .int z2)]) hk dX6_greatestOf_25 (by decide) rfl ?_
        obtain ⟨y2471, ey2471⟩ : ∃ y : Int32, y = x2422 + Int32.ofInt 1 := ⟨_, rfl⟩
        have hy2471 : y2471.toInt = x2422.toInt + 1 := i32_add ey2471 rfl (by decide) (by omega) (by omega)
        refine g_iinc (v := y2471) (lv' := [(4, .int y2471), (3, .int y2470), (0, .ref (q 13)), (1, .int z1), (2, .int z2)]) hk 1 dX6_greatestOf_26 rfl ey2471.symm (by decide) rfl ?_
        refine g_goto (tgt := 7) hk dX6_greatestOf_29 (by decide) ?_
        exact g_lv (List.forall_mem_cons.mpr ⟨List.mem_of_getElem? (i := 0) rfl, (List.forall_mem_cons.mpr ⟨List.mem_of_getElem? (i := 1) rfl, (List.forall_mem_cons.mpr ⟨List.mem_of_getElem? (i := 2) rfl, (List.forall_mem_cons.mpr ⟨List.mem_of_getElem? (i := 3) rfl, (List.forall_mem_cons.mpr ⟨List.mem_of_getElem? (i := 4) rfl, (fun _ h => absurd h List.not_mem_nil)⟩)⟩)⟩)⟩)⟩) (ih2460 y2471 y2470 (by omega) (by omega) (by omega) (by omega))
  have k2473 : (0 : Int32).toInt = 0 := rfl
  have k2474 : ((-1000) : Int32).toInt = (-1000) := rfl
  obtain ⟨n2472, n2472a, n2472b⟩ : ∃ n : Nat, z2.toInt + 1 - 0 < (n : Int) ∧ 0 < n := ⟨((z2.toInt + 1 - 0 : Int)).toNat + 1, by omega, by omega⟩
  exact lp2457 n2472 0 (-1000) (by omega) (by omega) n2472a n2472b
def wo_k206_X11_window : List Cond := [Cond.constant RX11 186 (-1000000), Cond.fieldLink RX11 28 "WarpDesk" "series" "LWarpDesk$Series;", Cond.methodLink RX11 183 yX6_hasWindow, Cond.instanceMethod yX6_hasWindow, Cond.selects RX6 yX6_hasWindow yX6_hasWindow, Cond.initialized RX6, Cond.methodLink RX11 187 yX6_sumOf, Cond.instanceMethod yX6_sumOf, Cond.selects RX6 yX6_sumOf yX6_sumOf, Cond.methodLink RX11 190 yX6_leastOf, Cond.instanceMethod yX6_leastOf, Cond.selects RX6 yX6_leastOf yX6_leastOf, Cond.methodLink RX11 193 yX6_greatestOf, Cond.instanceMethod yX6_greatestOf, Cond.selects RX6 yX6_greatestOf yX6_greatestOf, Cond.methodLink RX11 142 yJ9_floorDiv_7cf53, Cond.static yJ9_floorDiv_7cf53, Cond.initialized RJ9]
def wz_k206_X11_window : List Cond := .code yX11_window cX11_window 4 (some .int) :: (wo_k206_X11_window ++ (wsX110 ++ (wz_k207_X6_hasWindow ++ (wz_k208_X6_sumOf ++ (wz_k209_X6_leastOf ++ (wz_k210_X6_greatestOf ++ (wz_k189_J9_floorDiv_7cf53 ++ ([] : List Cond))))))))
theorem zg_k206_X11_window : ∀ w ∈ wz_k206_X11_window, goodWord w = true := zg_cons rfl (zg_app (by decide +kernel) (zg_app zgU_wsX110 (zg_app zg_k207_X6_hasWindow (zg_app zg_k208_X6_sumOf (zg_app zg_k209_X6_leastOf (zg_app zg_k210_X6_greatestOf (zg_app zg_k189_J9_floorDiv_7cf53 zg_nil)))))))
theorem zi_k206_X11_window : ∀ w ∈ wz_k206_X11_window, w ∈ lw_tbl := zi_cons zw_900 (zi_app (zi_cons zw_906 (zi_cons zw_489 (zi_cons zw_901 (zi_cons zw_902 (zi_cons zw_903 (zi_cons zw_109 (zi_cons zw_907 (zi_cons zw_908 (zi_cons zw_909 (zi_cons zw_911 (zi_cons zw_912 (zi_cons zw_913 (zi_cons zw_915 (zi_cons zw_916 (zi_cons zw_917 (zi_cons zw_844 (zi_cons zw_845 (zi_cons zw_120 zi_nil)))))))))))))))))) (zi_app inX11 (zi_app zi_k207_X6_hasWindow (zi_app zi_k208_X6_sumOf (zi_app zi_k209_X6_leastOf (zi_app zi_k210_X6_greatestOf (zi_app zi_k189_J9_floorDiv_7cf53 zi_nil)))))))
set_option maxHeartbeats 4000000 in
set_option maxRecDepth 100000 in
theorem k206_X11_window (l : Launch) (D : va_G) (zt : Nat × Nat × Nat × (Nat → Nat) × (Nat → Nat)) (q : Nat → Nat) (d : Nat → ClassId) (I : Nat → Int32) (A : Nat → Nat → Int32) (z1 : Int32) (z2 : Int32) (z3 : Int32) (hIv : IvX I A) : GM l D zt (tyX d) yX11_window wz_k206_X11_window ({ frames := 3, cells := 0, slots := 0, locals := 66 } : Room) [.ref (q 0), .int z1, .int z2, .int z3] (wX q d I A) (fun v _ w' => ∃ y0 : Int32, v = some (.int y0) ∧ w' = wX q d I A) 0 0 := by
  refine GM.of (cc := cX11_window) (maxL := 4) (ret := (some .int)) (own := RX11) (lv := [(0, .ref (q 0)), (1, .int z1), (2, .int z2), (3, .int z3)]) (by decide) rfl rfl (Nat.le_of_ble_eq_true rfl) rfl (fun κ sz hk hR hN => ?_)
  have hin11 : ∀ w ∈ u_ws RX11 TX11 10, w ∈ wz_k206_X11_window := fun w h => (List.mem_cons_of_mem _ (List.mem_append_right _ (List.mem_append_left _ h)))
  refine g_iload_n hk dX11_window_0 rfl ?_
  refine g_iconst (v := 1) hk dX11_window_1 (by decide) ?_
  have b2229l := Int32.le_toInt z2
  have b2229h := Int32.toInt_lt z2
  refine g_icmp_lt (tgt := 17) (a := z2.toInt) (b := 1) hk dX11_window_2 (by decide) rfl rfl (fun c2230 => ?_) (fun c2230 => ?_)
  · skip
    refine g_ldc (v := (-1000000)) hk (List.mem_cons_of_mem _ (List.mem_append_left _ (List.mem_of_getElem? (i := 0) rfl))) dX11_window_17 ?_
    exact g_iret hk hR rfl ⟨(-1000000), rfl, rfl⟩ dX11_window_19
  · skip
    refine g_aload_n hk dX11_window_5 rfl ?_
    refine gX_r0_2 hk hin11 (List.mem_cons_of_mem _ (List.mem_append_left _ (List.mem_of_getElem? (i := 1) rfl))) dX11_window_6 ?_
    refine g_iload_n hk dX11_window_9 rfl ?_
    refine g_iload_n hk dX11_window_10 rfl ?_
    refine g_callV (n := 2) hk (k207_X6_hasWindow l D zt q d I A z1 z2 hIv) (SP.same _) (fun _ h => h) (gi_V (List.mem_cons_of_mem _ (List.mem_append_left _ (List.mem_of_getElem? (i := 2) rfl))) (List.mem_cons_of_mem _ (List.mem_append_left _ (List.mem_of_getElem? (i := 3) rfl))) (List.mem_cons_of_mem _ (List.mem_append_left _ (List.mem_of_getElem? (i := 4) rfl))) (List.mem_cons_of_mem _ (List.mem_append_left _ (List.mem_of_getElem? (i := 5) rfl))) (gi_sub (fun w h => (List.mem_cons_of_mem _ (List.mem_append_right _ (List.mem_append_right _ (List.mem_append_left _ h))))) zg_k207_X6_hasWindow)) rfl rfl rfl (by decide +kernel) ⟨Nat.le_of_ble_eq_true rfl, Nat.le_of_ble_eq_true rfl⟩ 13 rfl rfl rfl rfl (Nat.le_of_ble_eq_true rfl) ⟨Nat.le_of_ble_eq_true rfl, Nat.le_of_ble_eq_true rfl⟩ dX11_window_11 (fun v ty' w' hp hk' => ?_)
    rcases hp with ⟨rfl, rfl⟩ | ⟨c2277, c2278, c2279, c2280, c2281, c2282, rfl, rfl⟩
    · skip
      show GW κ 4 0 0 (wX q d I A) 14 [(0, .ref (q 0)), (1, .int z1), (2, .int z2), (3, .int z3)] [.int 0]
      refine g_if_ne (tgt := 20) (a := 0) hk dX11_window_14 (by decide) rfl (fun z9 => absurd z9 (show ¬ ((0 : Int) ≠ (0 : Int)) from by decide)) (fun _ => ?_)
      refine g_ldc (v := (-1000000)) hk (List.mem_cons_of_mem _ (List.mem_append_left _ (List.mem_of_getElem? (i := 0) rfl))) dX11_window_17 ?_
      exact g_iret hk hR rfl ⟨(-1000000), rfl, rfl⟩ dX11_window_19
    · skip
      show GW κ 4 0 0 (wX q d I A) 14 [(0, .ref (q 0)), (1, .int z1), (2, .int z2), (3, .int z3)] [.int 1]
      refine g_if_ne (tgt := 20) (a := 1) hk dX11_window_14 (by decide) rfl (fun _ => ?_) (fun z9 => absurd (show (1 : Int) ≠ (0 : Int) from by decide) z9)
      refine g_iload_n hk dX11_window_20 rfl ?_
      by_cases c2284 : z3.toInt = 0
      · refine g_tabIn (tgt := 52) (a := 0) hk dX11_window_21 c2284 (by decide) (by decide) rfl (by decide) ?_
        refine g_aload_n hk dX11_window_52 rfl ?_
        refine gX_r0_2 hk hin11 (List.mem_cons_of_mem _ (List.mem_append_left _ (List.mem_of_getElem? (i := 1) rfl))) dX11_window_53 ?_
        refine g_iload_n hk dX11_window_56 rfl ?_
        refine g_iload_n hk dX11_window_57 rfl ?_
        refine g_callV (n := 2) hk (k208_X6_sumOf l D zt q d I A z1 z2 hIv) (SP.same _) (fun _ h => h) (gi_V (List.mem_cons_of_mem _ (List.mem_append_left _ (List.mem_of_getElem? (i := 6) rfl))) (List.mem_cons_of_mem _ (List.mem_append_left _ (List.mem_of_getElem? (i := 7) rfl))) (List.mem_cons_of_mem _ (List.mem_append_left _ (List.mem_of_getElem? (i := 8) rfl))) (List.mem_cons_of_mem _ (List.mem_append_left _ (List.mem_of_getElem? (i := 5) rfl))) (gi_sub (fun w h => (List.mem_cons_of_mem _ (List.mem_append_right _ (List.mem_append_right _ (List.mem_append_right _ (List.mem_append_left _ h)))))) zg_k208_X6_sumOf)) rfl rfl rfl (by decide +kernel) ⟨Nat.le_of_ble_eq_true rfl, Nat.le_of_ble_eq_true rfl⟩ 13 rfl rfl rfl rfl (Nat.le_of_ble_eq_true rfl) ⟨Nat.le_of_ble_eq_true rfl, Nat.le_of_ble_eq_true rfl⟩ dX11_window_58 (fun v ty' w' hp hk' => ?_)
        obtain ⟨y2350, rfl, rfl⟩ := hp
        show GW κ 4 0 0 (wX q d I A) 61 [(0, .ref (q 0)), (1, .int z1), (2, .int z2), (3, .int z3)] [.int y2350]
        have b2351l := Int32.le_toInt y2350
        have b2351h := Int32.toInt_lt y2350
        exact g_iret hk hR rfl ⟨y2350, rfl, rfl⟩ dX11_window_61
      by_cases c2352 : z3.toInt = 1
      · refine g_tabIn (tgt := 62) (a := 1) hk dX11_window_21 c2352 (by decide) (by decide) rfl (by decide) ?_
        refine g_aload_n hk dX11_window_62 rfl ?_
        refine gX_r0_2 hk hin11 (List.mem_cons_of_mem _ (List.mem_append_left _ (List.mem_of_getElem? (i := 1) rfl))) dX11_window_63 ?_
        refine g_iload_n hk dX11_window_66 rfl ?_
        refine g_iload_n hk dX11_window_67 rfl ?_
        refine g_callV (n := 2) hk (k209_X6_leastOf l D zt q d I A z1 z2 hIv) (SP.same _) (fun _ h => h) (gi_V (List.mem_cons_of_mem _ (List.mem_append_left _ (List.mem_of_getElem? (i := 9) rfl))) (List.mem_cons_of_mem _ (List.mem_append_left _ (List.mem_of_getElem? (i := 10) rfl))) (List.mem_cons_of_mem _ (List.mem_append_left _ (List.mem_of_getElem? (i := 11) rfl))) (List.mem_cons_of_mem _ (List.mem_append_left _ (List.mem_of_getElem? (i := 5) rfl))) (gi_sub (fun w h => (List.mem_cons_of_mem _ (List.mem_append_right _ (List.mem_append_right _ (List.mem_append_right _ (List.mem_append_right _ (List.mem_append_left _ h))))))) zg_k209_X6_leastOf)) rfl rfl rfl (by decide +kernel) ⟨Nat.le_of_ble_eq_true rfl, Nat.le_of_ble_eq_true rfl⟩ 13 rfl rfl rfl rfl (Nat.le_of_ble_eq_true rfl) ⟨Nat.le_of_ble_eq_true rfl, Nat.le_of_ble_eq_true rfl⟩ dX11_window_68 (fun v ty' w' hp hk' => ?_)
        obtain ⟨y2419, rfl, rfl⟩ := hp
        show GW κ 4 0 0 (wX q d I A) 71 [(0, .ref (q 0)), (1, .int z1), (2, .int z2), (3, .int z3)] [.int y2419]
        have b2420l := Int32.le_toInt y2419
        have b2420h := Int32.toInt_lt y2419
        exact g_iret hk hR rfl ⟨y2419, rfl, rfl⟩ dX11_window_71
      by_cases c2421 : z3.toInt = 2
      · refine g_tabIn (tgt := 72) (a := 2) hk dX11_window_21 c2421 (by decide) (by decide) rfl (by decide) ?_
        refine g_aload_n hk dX11_window_72 rfl ?_
        refine gX_r0_2 hk hin11 (List.mem_cons_of_mem _ (List.mem_append_left _ (List.mem_of_getElem? (i := 1) rfl))) dX11_window_73 ?_
        refine g_iload_n hk dX11_window_76 rfl ?_
        refine g_iload_n hk dX11_window_77 rfl ?_
        refine g_callV (n := 2) hk (k210_X6_greatestOf l D zt q d I A z1 z2 hIv) (SP.same _) (fun _ h => h) (gi_V (List.mem_cons_of_mem _ (List.mem_append_left _ (List.mem_of_getElem? (i := 12) rfl))) (List.mem_cons_of_mem _ (List.mem_append_left _ (List.mem_of_getElem? (i := 13) rfl))) (List.mem_cons_of_mem _ (List.mem_append_left _ (List.mem_of_getElem? (i := 14) rfl))) (List.mem_cons_of_mem _ (List.mem_append_left _ (List.mem_of_getElem? (i := 5) rfl))) (gi_sub (fun w h => (List.mem_cons_of_mem _ (List.mem_append_right _ (List.mem_append_right _ (List.mem_append_right _ (List.mem_append_right _ (List.mem_append_right _ (List.mem_append_left _ h)))))))) zg_k210_X6_greatestOf)) rfl rfl rfl (by decide +kernel) ⟨Nat.le_of_ble_eq_true rfl, Nat.le_of_ble_eq_true rfl⟩ 13 rfl rfl rfl rfl (Nat.le_of_ble_eq_true rfl) ⟨Nat.le_of_ble_eq_true rfl, Nat.le_of_ble_eq_true rfl⟩ dX11_window_78 (fun v ty' w' hp hk' => ?_)
        obtain ⟨y2475, c2476, rfl, rfl⟩ := hp
        show GW κ 4 0 0 (wX q d I A) 81 [(0, .ref (q 0)), (1, .int z1), (2, .int z2), (3, .int z3)] [.int y2475]
        have b2477l := Int32.le_toInt y2475
        have b2477h := Int32.toInt_lt y2475
        exact g_iret hk hR rfl ⟨y2475, rfl, rfl⟩ dX11_window_81
      by_cases c2478 : z3.toInt = 3
      · refine g_tabIn (tgt := 82) (a := 3) hk dX11_window_21 c2478 (by decide) (by decide) rfl (by decide) ?_
        refine g_aload_n hk dX11_window_82 rfl ?_
        refine gX_r0_2 hk hin11 (List.mem_cons_of_mem _ (List.mem_append_left _ (List.mem_of_getElem? (i := 1) rfl))) dX11_window_83 ?_
        refine g_iload_n hk dX11_window_86 rfl ?_
        refine g_iload_n hk dX11_window_87 rfl ?_
        refine g_callV (n := 2) hk (k208_X6_sumOf l D zt q d I A z1 z2 hIv) (SP.same _) (fun _ h => h) (gi_V (List.mem_cons_of_mem _ (List.mem_append_left _ (List.mem_of_getElem? (i := 6) rfl))) (List.mem_cons_of_mem _ (List.mem_append_left _ (List.mem_of_getElem? (i := 7) rfl))) (List.mem_cons_of_mem _ (List.mem_append_left _ (List.mem_of_getElem? (i := 8) rfl))) (List.mem_cons_of_mem _ (List.mem_append_left _ (List.mem_of_getElem? (i := 5) rfl))) (gi_sub (fun w h => (List.mem_cons_of_mem _ (List.mem_append_right _ (List.mem_append_right _ (List.mem_append_right _ (List.mem_append_left _ h)))))) zg_k208_X6_sumOf)) rfl rfl rfl (by decide +kernel) ⟨Nat.le_of_ble_eq_true rfl, Nat.le_of_ble_eq_true rfl⟩ 13 rfl rfl rfl rfl (Nat.le_of_ble_eq_true rfl) ⟨Nat.le_of_ble_eq_true rfl, Nat.le_of_ble_eq_true rfl⟩ dX11_window_88 (fun v ty' w' hp hk' => ?_)
        obtain ⟨y2479, rfl, rfl⟩ := hp
        show GW κ 4 0 0 (wX q d I A) 91 [(0, .ref (q 0)), (1, .int z1), (2, .int z2), (3, .int z3)] [.int y2479]
        refine g_iload_n hk dX11_window_91 rfl ?_
        refine g_callS (n := 2) hk (k189_J9_floorDiv_7cf53 l D zt q d I A y2479 z2 hIv (by omega)) (SP.same _) (fun _ h => h) (gi_S (List.mem_cons_of_mem _ (List.mem_append_left _ (List.mem_of_getElem? (i := 15) rfl))) (List.mem_cons_of_mem _ (List.mem_append_left _ (List.mem_of_getElem? (i := 16) rfl))) (List.mem_cons_of_mem _ (List.mem_append_left _ (List.mem_of_getElem? (i := 17) rfl))) (gi_sub (fun w h => (List.mem_cons_of_mem _ (List.mem_append_right _ (List.mem_append_right _ (List.mem_append_right _ (List.mem_append_right _ (List.mem_append_right _ (List.mem_append_right _ (List.mem_append_left _ h))))))))) zg_k189_J9_floorDiv_7cf53)) rfl rfl rfl (by decide +kernel) ⟨Nat.le_of_ble_eq_true rfl, Nat.le_of_ble_eq_true rfl⟩ rfl rfl (Nat.le_of_ble_eq_true rfl) ⟨Nat.le_of_ble_eq_true rfl, Nat.le_of_ble_eq_true rfl⟩ dX11_window_92 (fun v ty' w' hp hk' => ?_)
        obtain ⟨y2480, rfl, rfl⟩ := hp
        show GW κ 4 0 0 (wX q d I A) 95 [(0, .ref (q 0)), (1, .int z1), (2, .int z2), (3, .int z3)] [.int y2480]
        have b2481l := Int32.le_toInt y2480
        have b2481h := Int32.toInt_lt y2480
        exact g_iret hk hR rfl ⟨y2480, rfl, rfl⟩ dX11_window_95
      refine g_tabOut (tgt := 96) (a := z3.toInt) hk dX11_window_21 rfl (by omega) (by decide) ?_
      refine g_ldc (v := (-1000000)) hk (List.mem_cons_of_mem _ (List.mem_append_left _ (List.mem_of_getElem? (i := 0) rfl))) dX11_window_96 ?_
      exact g_iret hk hR rfl ⟨(-1000000), rfl, rfl⟩ dX11_window_98
def wo_k212_X11_isStretch : List Cond := []
def wz_k212_X11_isStretch : List Cond := .code yX11_isStretch cX11_isStretch 1 (some .boolean) :: (wo_k212_X11_isStretch ++ ([] : List Cond))
theorem zg_k212_X11_isStretch : ∀ w ∈ wz_k212_X11_isStretch, goodWord w = true := zg_cons rfl (zg_app (by decide +kernel) zg_nil)
theorem zi_k212_X11_isStretch : ∀ w ∈ wz_k212_X11_isStretch, w ∈ lw_tbl := zi_cons zw_928 (zi_app zi_nil zi_nil)
set_option maxHeartbeats 4000000 in
set_option maxRecDepth 100000 in
theorem k212_X11_isStretch (l : Launch) (D : va_G) (zt : Nat × Nat × Nat × (Nat → Nat) × (Nat → Nat)) (q : Nat → Nat) (d : Nat → ClassId) (I : Nat → Int32) (A : Nat → Nat → Int32) (z0 : Int32) (hIv : IvX I A) : GM l D zt (tyX d) yX11_isStretch wz_k212_X11_isStretch ({ frames := 0, cells := 0, slots := 0, locals := 0 } : Room) [.int z0] (wX q d I A) (fun v _ w' => (v = some (.int 0) ∧ w' = wX q d I A) ∨ ((¬ (z0.toInt < 2)) ∧ (¬ (16 < z0.toInt)) ∧ (2 ≤ z0.toInt) ∧ (z0.toInt ≤ 16) ∧ v = some (.int 1) ∧ w' = wX q d I A)) 0 0 := by
  refine GM.of (cc := cX11_isStretch) (maxL := 1) (ret := (some .boolean)) (own := RX11) (lv := [(0, .int z0)]) (by decide) rfl rfl (Nat.le_of_ble_eq_true rfl) rfl (fun κ sz hk hR hN => ?_)
  refine g_iload_n hk dX11_isStretch_0 rfl ?_
  refine g_iconst (v := 2) hk dX11_isStretch_1 (by decide) ?_
  have b2482l := Int32.le_toInt z0
  have b2482h := Int32.toInt_lt z0
  refine g_icmp_lt (tgt := 15) (a := z0.toInt) (b := 2) hk dX11_isStretch_2 (by decide) rfl rfl (fun c2483 => ?_) (fun c2483 => ?_)
  · skip
    refine g_iconst (v := 0) hk dX11_isStretch_15 (by decide) ?_
    exact g_iret hk hR rfl (Or.inl ⟨rfl, rfl⟩) dX11_isStretch_16
  · skip
    refine g_iload_n hk dX11_isStretch_5 rfl ?_
    refine g_bipush (v := 16) hk dX11_isStretch_6 (by decide) ?_
    refine g_icmp_gt (tgt := 15) (a := z0.toInt) (b := 16) hk dX11_isStretch_8 (by decide) rfl rfl (fun c2484 => ?_) (fun c2484 => ?_)
    · skip
      refine g_iconst (v := 0) hk dX11_isStretch_15 (by decide) ?_
      exact g_iret hk hR rfl (Or.inl ⟨rfl, rfl⟩) dX11_isStretch_16
    · skip
      refine g_iconst (v := 1) hk dX11_isStretch_11 (by decide) ?_
      refine g_goto (tgt := 16) hk dX11_isStretch_12 (by decide) ?_
      exact g_iret hk hR rfl (Or.inr (⟨c2483, c2484, (by omega), (by omega), rfl, rfl⟩)) dX11_isStretch_16
def wo_k215_X2_begin : List Cond := [Cond.methodLink RX2 28 Lib.Math.min.name, Cond.static Lib.Math.min.name, Cond.initialized "java/lang/Math", Cond.code Lib.Math.min.name Lib.Math.min.code 2 (some .int), Cond.methodLink RX2 34 Lib.Math.max.name, Cond.static Lib.Math.max.name, Cond.code Lib.Math.max.name Lib.Math.max.code 2 (some .int), Cond.fieldLink RX2 24 "WarpDesk$Fit" "length" "I", Cond.fieldLink RX2 37 "WarpDesk$Fit" "band" "I", Cond.fieldLink RX2 42 "WarpDesk$Fit" "isSquare" "Z"]
def wz_k215_X2_begin : List Cond := .code yX2_begin cX2_begin 4 none :: (wo_k215_X2_begin ++ (wsX20 ++ ([] : List Cond)))
theorem zg_k215_X2_begin : ∀ w ∈ wz_k215_X2_begin, goodWord w = true := zg_cons rfl (zg_app (by decide +kernel) (zg_app zgU_wsX20 zg_nil))
theorem zi_k215_X2_begin : ∀ w ∈ wz_k215_X2_begin, w ∈ lw_tbl := zi_cons zw_941 (zi_app (zi_cons zw_942 (zi_cons zw_829 (zi_cons zw_120 (zi_cons zw_830 (zi_cons zw_943 (zi_cons zw_920 (zi_cons zw_921 (zi_cons zw_343 (zi_cons zw_344 (zi_cons zw_345 zi_nil)))))))))) (zi_app inX2 zi_nil))
set_option maxHeartbeats 4000000 in
set_option maxRecDepth 100000 in
theorem k215_X2_begin (l : Launch) (D : va_G) (zt : Nat × Nat × Nat × (Nat → Nat) × (Nat → Nat)) (q : Nat → Nat) (d : Nat → ClassId) (I : Nat → Int32) (A : Nat → Nat → Int32) (z1 : Int32) (z2 : Int32) (z3 : Int32) (hIv : IvX I A) : GM l D zt (tyX d) yX2_begin wz_k215_X2_begin ({ frames := 1, cells := 0, slots := 0, locals := 15 } : Room) [.ref (q 38), .int z1, .int z2, .int z3] (wX q d I A) (fun v _ w' => ∃ (I' : Nat → Int32) (A' : Nat → Nat → Int32), Md [30, 31, 32] I I' ∧ Md [] A A' ∧ IvX I' A' ∧ v = none ∧ w' = wX q d I' A') 0 0 := by
  refine GM.of (cc := cX2_begin) (maxL := 4) (ret := none) (own := RX2) (lv := [(0, .ref (q 38)), (1, .int z1), (2, .int z2), (3, .int z3)]) (by decide) rfl rfl (Nat.le_of_ble_eq_true rfl) rfl (fun κ sz hk hR hN => ?_)
  have hin2 : ∀ w ∈ u_ws RX2 TX2 10, w ∈ wz_k215_X2_begin := fun w h => (List.mem_cons_of_mem _ (List.mem_append_right _ (List.mem_append_left _ h)))
  refine g_aload_n hk dX2_begin_0 rfl ?_
  refine g_iconst (v := 1) hk dX2_begin_1 (by decide) ?_
  refine g_iload_n hk dX2_begin_2 rfl ?_
  refine g_bipush (v := 16) hk dX2_begin_3 (by decide) ?_
  have b2506l := Int32.le_toInt z1
  have b2506h := Int32.toInt_lt z1
  refine g_mmin hk (List.mem_cons_of_mem _ (List.mem_append_left _ (List.mem_of_getElem? (i := 0) rfl))) (List.mem_cons_of_mem _ (List.mem_append_left _ (List.mem_of_getElem? (i := 1) rfl))) (List.mem_cons_of_mem _ (List.mem_append_left _ (List.mem_of_getElem? (i := 2) rfl))) (List.mem_cons_of_mem _ (List.mem_append_left _ (List.mem_of_getElem? (i := 3) rfl))) (Nat.le_of_ble_eq_true rfl) (Nat.le_of_ble_eq_true rfl) (Nat.le_of_ble_eq_true rfl) (Nat.le_of_ble_eq_true rfl) dX2_begin_5 ?_
  refine g_topi (fun y2507 ey2507 => ?_)
  have k2508 : (16 : Int32).toInt = 16 := rfl
  have hy2507 := i32_min ey2507
  have b2509l := Int32.le_toInt y2507
  have b2509h := Int32.toInt_lt y2507
  refine g_mmax hk (List.mem_cons_of_mem _ (List.mem_append_left _ (List.mem_of_getElem? (i := 4) rfl))) (List.mem_cons_of_mem _ (List.mem_append_left _ (List.mem_of_getElem? (i := 5) rfl))) (List.mem_cons_of_mem _ (List.mem_append_left _ (List.mem_of_getElem? (i := 2) rfl))) (List.mem_cons_of_mem _ (List.mem_append_left _ (List.mem_of_getElem? (i := 6) rfl))) (Nat.le_of_ble_eq_true rfl) (Nat.le_of_ble_eq_true rfl) (Nat.le_of_ble_eq_true rfl) (Nat.le_of_ble_eq_true rfl) dX2_begin_8 ?_
  refine g_topi (fun y2510 ey2510 => ?_)
  have k2511 : (1 : Int32).toInt = 1 := rfl
  have hy2510 := i32_max ey2510
  refine pX_i30 hk hin2 (List.mem_cons_of_mem _ (List.mem_append_left _ (List.mem_of_getElem? (i := 7) rfl))) dX2_begin_11 ?_
  refine g_aload_n hk dX2_begin_14 rfl ?_
  refine g_iconst (v := 0) hk dX2_begin_15 (by decide) ?_
  refine g_iload_n hk dX2_begin_16 rfl ?_
  have b2512l := Int32.le_toInt z2
  have b2512h := Int32.toInt_lt z2
  refine g_mmax hk (List.mem_cons_of_mem _ (List.mem_append_left _ (List.mem_of_getElem? (i := 4) rfl))) (List.mem_cons_of_mem _ (List.mem_append_left _ (List.mem_of_getElem? (i := 5) rfl))) (List.mem_cons_of_mem _ (List.mem_append_left _ (List.mem_of_getElem? (i := 2) rfl))) (List.mem_cons_of_mem _ (List.mem_append_left _ (List.mem_of_getElem? (i := 6) rfl))) (Nat.le_of_ble_eq_true rfl) (Nat.le_of_ble_eq_true rfl) (Nat.le_of_ble_eq_true rfl) (Nat.le_of_ble_eq_true rfl) dX2_begin_17 ?_
  refine g_topi (fun y2513 ey2513 => ?_)
  have k2514 : (0 : Int32).toInt = 0 := rfl
  have hy2513 := i32_max ey2513
  refine pX_i31 hk hin2 (List.mem_cons_of_mem _ (List.mem_append_left _ (List.mem_of_getElem? (i := 8) rfl))) dX2_begin_20 ?_
  refine g_aload_n hk dX2_begin_23 rfl ?_
  refine g_iload_n hk dX2_begin_24 rfl ?_
  refine g_iconst (v := 1) hk dX2_begin_25 (by decide) ?_
  have b2515l := Int32.le_toInt z3
  have b2515h := Int32.toInt_lt z3
  refine g_icmp_ne (tgt := 33) (a := z3.toInt) (b := 1) hk dX2_begin_26 (by decide) rfl rfl (fun c2516 => ?_) (fun c2516 => ?_)
  · skip
    refine g_iconst (v := 0) hk dX2_begin_33 (by decide) ?_
    refine pX_i32 hk hin2 (List.mem_cons_of_mem _ (List.mem_append_left _ (List.mem_of_getElem? (i := 9) rfl))) ⟨rfl, rfl⟩ dX2_begin_34 ?_
    have b2517l := Int32.le_toInt y2513
    have b2517h := Int32.toInt_lt y2513
    exact g_vret hk hR ⟨(upd (upd (upd I 30 y2510) 31 y2513) 32 0), A, (show Md [30, 31, 32] I (upd (upd (upd I 30 y2510) 31 y2513) 32 0) from (Md.up (Md.up (Md.up Md.rf rfl) rfl) rfl)), (show Md [] A A from Md.rf), ⟨(IvX_f0 (I := I) (A := A) hIv), (IvX_f18 (I := I) (A := A) hIv), (show 1 ≤ y2510.toInt ∧ y2510.toInt ≤ 16 from ⟨by omega, by omega⟩), (show 0 ≤ y2513.toInt ∧ y2513.toInt ≤ 2147483647 from ⟨by omega, by omega⟩), (IvX_a4 (I := I) (A := A) hIv), (IvX_a9 (I := I) (A := A) hIv), trivial⟩, rfl, rfl⟩ dX2_begin_37
  · skip
    refine g_iconst (v := 1) hk dX2_begin_29 (by decide) ?_
    refine g_goto (tgt := 34) hk dX2_begin_30 (by decide) ?_
    refine pX_i32 hk hin2 (List.mem_cons_of_mem _ (List.mem_append_left _ (List.mem_of_getElem? (i := 9) rfl))) ⟨rfl, rfl⟩ dX2_begin_34 ?_
    have b2518l := Int32.le_toInt y2513
    have b2518h := Int32.toInt_lt y2513
    exact g_vret hk hR ⟨(upd (upd (upd I 30 y2510) 31 y2513) 32 1), A, (show Md [30, 31, 32] I (upd (upd (upd I 30 y2510) 31 y2513) 32 1) from (Md.up (Md.up (Md.up Md.rf rfl) rfl) rfl)), (show Md [] A A from Md.rf), ⟨(IvX_f0 (I := I) (A := A) hIv), (IvX_f18 (I := I) (A := A) hIv), (show 1 ≤ y2510.toInt ∧ y2510.toInt ≤ 16 from ⟨by omega, by omega⟩), (show 0 ≤ y2513.toInt ∧ y2513.toInt ≤ 2147483647 from ⟨by omega, by omega⟩), (IvX_a4 (I := I) (A := A) hIv), (IvX_a9 (I := I) (A := A) hIv), trivial⟩, rfl, rfl⟩ dX2_begin_37
def wo_k214_X0_begin : List Cond := [Cond.fieldLink RX0 77 "WarpDesk$Bench" "length" "I", Cond.fieldLink RX0 12 "WarpDesk$Bench" "fit" "LWarpDesk$Fit;", Cond.fieldLink RX0 26 "WarpDesk$Bench" "settings" "LWarpDesk$Settings;", Cond.methodLink RX0 49 yX7_valueOf, Cond.instanceMethod yX7_valueOf, Cond.selects RX7 yX7_valueOf yX7_valueOf, Cond.initialized RX7, Cond.methodLink RX0 85 yX2_begin, Cond.instanceMethod yX2_begin, Cond.selects RX2 yX2_begin yX2_begin, Cond.initialized RX2]
def wz_k214_X0_begin : List Cond := .code yX0_begin cX0_begin 3 none :: (wo_k214_X0_begin ++ (wsX00 ++ (wz_k194_X7_valueOf ++ (wz_k215_X2_begin ++ ([] : List Cond)))))
theorem zg_k214_X0_begin : ∀ w ∈ wz_k214_X0_begin, goodWord w = true := zg_cons rfl (zg_app (by decide +kernel) (zg_app zgU_wsX00 (zg_app zg_k194_X7_valueOf (zg_app zg_k215_X2_begin zg_nil))))
theorem zi_k214_X0_begin : ∀ w ∈ wz_k214_X0_begin, w ∈ lw_tbl := zi_cons zw_937 (zi_app (zi_cons zw_384 (zi_cons zw_380 (zi_cons zw_378 (zi_cons zw_933 (zi_cons zw_786 (zi_cons zw_787 (zi_cons zw_107 (zi_cons zw_938 (zi_cons zw_939 (zi_cons zw_940 (zi_cons zw_112 zi_nil))))))))))) (zi_app inX0 (zi_app zi_k194_X7_valueOf (zi_app zi_k215_X2_begin zi_nil))))
set_option maxHeartbeats 4000000 in
set_option maxRecDepth 100000 in
theorem k214_X0_begin (l : Launch) (D : va_G) (zt : Nat × Nat × Nat × (Nat → Nat) × (Nat → Nat)) (q : Nat → Nat) (d : Nat → ClassId) (I : Nat → Int32) (A : Nat → Nat → Int32) (z1 : Int32) (z2 : Int32) (hIv : IvX I A) : GM l D zt (tyX d) yX0_begin wz_k214_X0_begin ({ frames := 2, cells := 0, slots := 0, locals := 38 } : Room) [.ref (q 37), .int z1, .int z2] (wX q d I A) (fun v _ w' => ∃ (I' : Nat → Int32) (A' : Nat → Nat → Int32), Md [28, 30, 31, 32] I I' ∧ Md [] A A' ∧ IvX I' A' ∧ v = none ∧ w' = wX q d I' A') 0 0 := by
  refine GM.of (cc := cX0_begin) (maxL := 3) (ret := none) (own := RX0) (lv := [(0, .ref (q 37)), (1, .int z1), (2, .int z2)]) (by decide) rfl rfl (Nat.le_of_ble_eq_true rfl) rfl (fun κ sz hk hR hN => ?_)
  have hin0 : ∀ w ∈ u_ws RX0 TX0 5, w ∈ wz_k214_X0_begin := fun w h => (List.mem_cons_of_mem _ (List.mem_append_right _ (List.mem_append_left _ h)))
  refine g_aload_n hk dX0_begin_0 rfl ?_
  refine g_iload_n hk dX0_begin_1 rfl ?_
  refine pX_i28 hk hin0 (List.mem_cons_of_mem _ (List.mem_append_left _ (List.mem_of_getElem? (i := 0) rfl))) dX0_begin_2 ?_
  refine g_aload_n hk dX0_begin_5 rfl ?_
  refine gX_r37_3 hk hin0 (List.mem_cons_of_mem _ (List.mem_append_left _ (List.mem_of_getElem? (i := 1) rfl))) dX0_begin_6 ?_
  refine g_iload_n hk dX0_begin_9 rfl ?_
  refine g_iload_n hk dX0_begin_10 rfl ?_
  refine g_aload_n hk dX0_begin_11 rfl ?_
  refine gX_r37_2 hk hin0 (List.mem_cons_of_mem _ (List.mem_append_left _ (List.mem_of_getElem? (i := 2) rfl))) dX0_begin_12 ?_
  refine g_iconst (v := 2) hk dX0_begin_15 (by decide) ?_
  have k2504 : (2 : Int32).toInt = 2 := rfl
  refine g_callV (n := 1) hk (k194_X7_valueOf l D zt q d (upd I 28 z1) A 2 ⟨(IvX_f0 (I := I) (A := A) hIv), (IvX_f18 (I := I) (A := A) hIv), (IvX_f30 (I := I) (A := A) hIv), (IvX_f31 (I := I) (A := A) hIv), (IvX_a4 (I := I) (A := A) hIv), (IvX_a9 (I := I) (A := A) hIv), trivial⟩) (SP.same _) (fun _ h => h) (gi_V (List.mem_cons_of_mem _ (List.mem_append_left _ (List.mem_of_getElem? (i := 3) rfl))) (List.mem_cons_of_mem _ (List.mem_append_left _ (List.mem_of_getElem? (i := 4) rfl))) (List.mem_cons_of_mem _ (List.mem_append_left _ (List.mem_of_getElem? (i := 5) rfl))) (List.mem_cons_of_mem _ (List.mem_append_left _ (List.mem_of_getElem? (i := 6) rfl))) (gi_sub (fun w h => (List.mem_cons_of_mem _ (List.mem_append_right _ (List.mem_append_right _ (List.mem_append_left _ h))))) zg_k194_X7_valueOf)) rfl rfl rfl (by decide +kernel) ⟨Nat.le_of_ble_eq_true rfl, Nat.le_of_ble_eq_true rfl⟩ 18 rfl rfl rfl rfl (Nat.le_of_ble_eq_true rfl) ⟨Nat.le_of_ble_eq_true rfl, Nat.le_of_ble_eq_true rfl⟩ dX0_begin_16 (fun v ty' w' hp hk' => ?_)
  obtain ⟨y2505, rfl, rfl⟩ := hp
  show GW κ 3 0 0 (wX q d (upd I 28 z1) A) 19 [(0, .ref (q 37)), (1, .int z1), (2, .int z2)] [.int y2505, .int z2, .int z1, .ref (q 38)]
  refine g_callV (n := 3) hk (k215_X2_begin l D zt q d (upd I 28 z1) A z1 z2 y2505 ⟨(IvX_f0 (I := I) (A := A) hIv), (IvX_f18 (I := I) (A := A) hIv), (IvX_f30 (I := I) (A := A) hIv), (IvX_f31 (I := I) (A := A) hIv), (IvX_a4 (I := I) (A := A) hIv), (IvX_a9 (I := I) (A := A) hIv), trivial⟩) (SP.same _) (fun _ h => h) (gi_V (List.mem_cons_of_mem _ (List.mem_append_left _ (List.mem_of_getElem? (i := 7) rfl))) (List.mem_cons_of_mem _ (List.mem_append_left _ (List.mem_of_getElem? (i := 8) rfl))) (List.mem_cons_of_mem _ (List.mem_append_left _ (List.mem_of_getElem? (i := 9) rfl))) (List.mem_cons_of_mem _ (List.mem_append_left _ (List.mem_of_getElem? (i := 10) rfl))) (gi_sub (fun w h => (List.mem_cons_of_mem _ (List.mem_append_right _ (List.mem_append_right _ (List.mem_append_right _ (List.mem_append_left _ h)))))) zg_k215_X2_begin)) rfl rfl rfl (by decide +kernel) ⟨Nat.le_of_ble_eq_true rfl, Nat.le_of_ble_eq_true rfl⟩ 38 rfl rfl rfl rfl (Nat.le_of_ble_eq_true rfl) ⟨Nat.le_of_ble_eq_true rfl, Nat.le_of_ble_eq_true rfl⟩ dX0_begin_19 (fun v ty' w' hp hk' => ?_)
  obtain ⟨I2520, A2520, hI2520, hA2520, hV2520, rfl, rfl⟩ := hp
  show GW κ 3 0 0 (wX q d I2520 A2520) 22 [(0, .ref (q 37)), (1, .int z1), (2, .int z2)] []
  exact g_vret hk hR ⟨I2520, A2520, (show Md [28, 30, 31, 32] I I2520 from (Md.tr (Md.up Md.rf rfl) hI2520 rfl)), (show Md [] A A2520 from (Md.tr Md.rf hA2520 rfl)), hV2520, rfl, rfl⟩ dX0_begin_22
def wo_k216_X6_copyWindow : List Cond := [Cond.methodLink RX6 33 yX6_valueAt, Cond.instanceMethod yX6_valueAt, Cond.selects RX6 yX6_valueAt yX6_valueAt, Cond.initialized RX6]
def wz_k216_X6_copyWindow : List Cond := .code yX6_copyWindow cX6_copyWindow 5 none :: (wo_k216_X6_copyWindow ++ (wz_k179_X6_valueAt ++ ([] : List Cond)))
theorem zg_k216_X6_copyWindow : ∀ w ∈ wz_k216_X6_copyWindow, goodWord w = true := zg_cons rfl (zg_app (by decide +kernel) (zg_app zg_k179_X6_valueAt zg_nil))
theorem zi_k216_X6_copyWindow : ∀ w ∈ wz_k216_X6_copyWindow, w ∈ lw_tbl := zi_cons zw_947 (zi_app (zi_cons zw_843 (zi_cons zw_807 (zi_cons zw_808 (zi_cons zw_109 zi_nil)))) (zi_app zi_k179_X6_valueAt zi_nil))
set_option maxHeartbeats 4000000 in
set_option maxRecDepth 100000 in
theorem k216_X6_copyWindow (l : Launch) (D : va_G) (zt : Nat × Nat × Nat × (Nat → Nat) × (Nat → Nat)) (q : Nat → Nat) (d : Nat → ClassId) (I : Nat → Int32) (A : Nat → Nat → Int32) (z1 : Int32) (z2 : Int32) (hIv : IvX I A) : GM l D zt (tyX d) yX6_copyWindow wz_k216_X6_copyWindow ({ frames := 1, cells := 0, slots := 0, locals := 21 } : Room) [.ref (q 13), .int z1, .int z2, .ref (q 39)] (wX q d I A) (fun v _ w' => ∃ (I' : Nat → Int32) (A' : Nat → Nat → Int32), Md [] I I' ∧ Md [21] A A' ∧ IvX I' A' ∧ v = none ∧ w' = wX q d I' A') 0 0 := by
  refine GM.of (cc := cX6_copyWindow) (maxL := 5) (ret := none) (own := RX6) (lv := [(0, .ref (q 13)), (1, .int z1), (2, .int z2), (3, .ref (q 39))]) (by decide) rfl rfl (Nat.le_of_ble_eq_true rfl) rfl (fun κ sz hk hR hN => ?_)
  refine g_iconst (v := 0) hk dX6_copyWindow_0 (by decide) ?_
  refine g_istore (lv' := [(4, .int 0), (0, .ref (q 13)), (1, .int z1), (2, .int z2), (3, .ref (q 39))]) hk dX6_copyWindow_1 (by decide) rfl ?_
  have lp2557 : ∀ (n2558 : Nat) (x2523 : Int32) (I2528 : Nat → Int32) (A2528 : Nat → Nat → Int32), (Md [] I I2528) → (Md [21] A A2528) → (IvX I2528 A2528) → (0 ≤ x2523.toInt) → (x2523.toInt ≤ 16) → (z2.toInt + 1 - x2523.toInt < (n2558 : Int)) → (0 < n2558) → GW κ 5 0 0 (wX q d I2528 A2528) 3 [(4, .int x2523), (0, .ref (q 13)), (1, .int z1), (2, .int z2), (3, .ref (q 39))] [] := by
    intro n2558
    induction n2558 with
    | zero =>
      intro x2523 I2528 A2528 hI2528 hA2528 hV2528 h2555 h2556 m2559 m2559z
      exact absurd m2559z (Nat.lt_irrefl 0)
    | succ n2558 ih2560 =>
      intro x2523 I2528 A2528 hI2528 hA2528 hV2528 h2555 h2556 m2559 m2559z
      refine g_iload hk dX6_copyWindow_3 rfl ?_
      refine g_iload_n hk dX6_copyWindow_5 rfl ?_
      have b2561l := Int32.le_toInt z2
      have b2561h := Int32.toInt_lt z2
      refine g_icmp_ge (tgt := 34) (a := x2523.toInt) (b := z2.toInt) hk dX6_copyWindow_6 (by decide) rfl rfl (fun c2562 => ?_) (fun c2562 => ?_)
      · skip
        exact g_vret hk hR ⟨I2528, A2528, (show Md [] I I2528 from (Md.tr Md.rf hI2528 rfl)), (show Md [21] A A2528 from (Md.tr Md.rf hA2528 rfl)), hV2528, rfl, rfl⟩ dX6_copyWindow_34
      · skip
        refine g_iload hk dX6_copyWindow_9 rfl ?_
        refine g_aload_n hk dX6_copyWindow_11 rfl ?_
        refine nX_21 hk dX6_copyWindow_12 ?_
        refine g_icmp_ge (tgt := 34) (a := x2523.toInt) (b := 16) hk dX6_copyWindow_13 (by decide) rfl rfl (fun c2563 => ?_) (fun c2563 => ?_)
        · skip
          exact g_vret hk hR ⟨I2528, A2528, (show Md [] I I2528 from (Md.tr Md.rf hI2528 rfl)), (show Md [21] A A2528 from (Md.tr Md.rf hA2528 rfl)), hV2528, rfl, rfl⟩ dX6_copyWindow_34
        · skip
          refine g_aload_n hk dX6_copyWindow_16 rfl ?_
          refine g_iload hk dX6_copyWindow_17 rfl ?_
          refine g_aload_n hk dX6_copyWindow_19 rfl ?_
          refine g_iload_n hk dX6_copyWindow_20 rfl ?_
          refine g_iload hk dX6_copyWindow_21 rfl ?_
          have b2564l := Int32.le_toInt z1
          have b2564h := Int32.toInt_lt z1
          refine g_iadd hk dX6_copyWindow_23 ?_
          refine g_topi (fun y2565 ey2565 => ?_)
          refine g_callV (n := 1) hk (k179_X6_valueAt l D zt q d I2528 A2528 y2565 hV2528) (SP.same _) (fun _ h => h) (gi_V (List.mem_cons_of_mem _ (List.mem_append_left _ (List.mem_of_getElem? (i := 0) rfl))) (List.mem_cons_of_mem _ (List.mem_append_left _ (List.mem_of_getElem? (i := 1) rfl))) (List.mem_cons_of_mem _ (List.mem_append_left _ (List.mem_of_getElem? (i := 2) rfl))) (List.mem_cons_of_mem _ (List.mem_append_left _ (List.mem_of_getElem? (i := 3) rfl))) (gi_sub (fun w h => (List.mem_cons_of_mem _ (List.mem_append_right _ (List.mem_append_left _ h)))) zg_k179_X6_valueAt)) rfl rfl rfl (by decide +kernel) ⟨Nat.le_of_ble_eq_true rfl, Nat.le_of_ble_eq_true rfl⟩ 13 rfl rfl rfl rfl (Nat.le_of_ble_eq_true rfl) ⟨Nat.le_of_ble_eq_true rfl, Nat.le_of_ble_eq_true rfl⟩ dX6_copyWindow_24 (fun v ty' w' hp hk' => ?_)
          obtain ⟨y2566, rfl, rfl⟩ := hp
          show GW κ 5 0 0 (wX q d I2528 A2528) 27 [(4, .int x2523), (0, .ref (q 13)), (1, .int z1), (2, .int z2), (3, .ref (q 39))] [.int y2566, .int x2523, .ref (q 39)]
          refine sX_21 (j := x2523.toNatClampNeg) hk (vp_in_iff.mpr ⟨by omega, by omega⟩) rfl dX6_copyWindow_27 ?_
          obtain ⟨y2567, ey2567⟩ : ∃ y : Int32, y = x2523 + Int32.ofInt 1 := ⟨_, rfl⟩
          have hy2567 : y2567.toInt = x2523.toInt + 1 := i32_add ey2567 rfl (by decide) (by omega) (by omega)
          refine g_iinc (v := y2567) (lv' := [(4, .int y2567), (0, .ref (q 13)), (1, .int z1), (2, .int z2), (3, .ref (q 39))]) hk 0 dX6_copyWindow_28 rfl ey2567.symm (by decide) rfl ?_
          refine g_goto (tgt := 3) hk dX6_copyWindow_31 (by decide) ?_
          exact g_lv (List.forall_mem_cons.mpr ⟨List.mem_of_getElem? (i := 0) rfl, (List.forall_mem_cons.mpr ⟨List.mem_of_getElem? (i := 1) rfl, (List.forall_mem_cons.mpr ⟨List.mem_of_getElem? (i := 2) rfl, (List.forall_mem_cons.mpr ⟨List.mem_of_getElem? (i := 3) rfl, (List.forall_mem_cons.mpr ⟨List.mem_of_getElem? (i := 4) rfl, (fun _ h => absurd h List.not_mem_nil)⟩)⟩)⟩)⟩)⟩) (ih2560 y2567 I2528 (up3 A2528 21 (x2523.toNatClampNeg) y2566) (show Md [] I I2528 from Md.tr hI2528 (show Md [] I2528 I2528 from Md.rf) rfl) (show Md [21] A (up3 A2528 21 (x2523.toNatClampNeg) y2566) from Md.tr hA2528 (show Md [21] A2528 (up3 A2528 21 (x2523.toNatClampNeg) y2566) from (Md.up3 Md.rf rfl)) rfl) ⟨(IvX_f0 (I := I2528) (A := A2528) hV2528), (IvX_f18 (I := I2528) (A := A2528) hV2528), (IvX_f30 (I := I2528) (A := A2528) hV2528), (IvX_f31 (I := I2528) (A := A2528) hV2528), (IvX_a4 (I := I2528) (A := A2528) hV2528), (IvX_a9 (I := I2528) (A := A2528) hV2528), trivial⟩ (by omega) (by omega) (by omega) (by omega))
  have k2569 : (0 : Int32).toInt = 0 := rfl
  obtain ⟨n2568, n2568a, n2568b⟩ : ∃ n : Nat, z2.toInt + 1 - 0 < (n : Int) ∧ 0 < n := ⟨((z2.toInt + 1 - 0 : Int)).toNat + 1, by omega, by omega⟩
  exact lp2557 n2568 0 I A Md.rf Md.rf hIv (by omega) (by omega) n2568a n2568b
def wo_k218_X2_spreadAll : List Cond := [Cond.fieldLink RX2 24 "WarpDesk$Fit" "length" "I", Cond.methodLink RX2 28 Lib.Math.min.name, Cond.static Lib.Math.min.name, Cond.initialized "java/lang/Math", Cond.code Lib.Math.min.name Lib.Math.min.code 2 (some .int), Cond.methodLink RX2 34 Lib.Math.max.name, Cond.static Lib.Math.max.name, Cond.code Lib.Math.max.name Lib.Math.max.code 2 (some .int)]
def wz_k218_X2_spreadAll : List Cond := .code yX2_spreadAll cX2_spreadAll 6 none :: (wo_k218_X2_spreadAll ++ (wsX20 ++ ([] : List Cond)))
theorem zg_k218_X2_spreadAll : ∀ w ∈ wz_k218_X2_spreadAll, goodWord w = true := zg_cons rfl (zg_app (by decide +kernel) (zg_app zgU_wsX20 zg_nil))
theorem zi_k218_X2_spreadAll : ∀ w ∈ wz_k218_X2_spreadAll, w ∈ lw_tbl := zi_cons zw_964 (zi_app (zi_cons zw_343 (zi_cons zw_942 (zi_cons zw_829 (zi_cons zw_120 (zi_cons zw_830 (zi_cons zw_943 (zi_cons zw_920 (zi_cons zw_921 zi_nil)))))))) (zi_app inX2 zi_nil))
set_option maxHeartbeats 4000000 in
set_option maxRecDepth 100000 in
theorem k218_X2_spreadAll (l : Launch) (D : va_G) (zt : Nat × Nat × Nat × (Nat → Nat) × (Nat → Nat)) (q : Nat → Nat) (d : Nat → ClassId) (I : Nat → Int32) (A : Nat → Nat → Int32) (hIv : IvX I A) : GM l D zt (tyX d) yX2_spreadAll wz_k218_X2_spreadAll ({ frames := 1, cells := 0, slots := 0, locals := 13 } : Room) [.ref (q 38), .ref (q 39)] (wX q d I A) (fun v _ w' => ∃ (I' : Nat → Int32) (A' : Nat → Nat → Int32), Md [] I I' ∧ Md [21] A A' ∧ IvX I' A' ∧ v = none ∧ w' = wX q d I' A') 0 0 := by
  refine GM.of (cc := cX2_spreadAll) (maxL := 6) (ret := none) (own := RX2) (lv := [(0, .ref (q 38)), (1, .ref (q 39))]) (by decide) rfl rfl (Nat.le_of_ble_eq_true rfl) rfl (fun κ sz hk hR hN => ?_)
  have hin2 : ∀ w ∈ u_ws RX2 TX2 10, w ∈ wz_k218_X2_spreadAll := fun w h => (List.mem_cons_of_mem _ (List.mem_append_right _ (List.mem_append_left _ h)))
  refine g_aload_n hk dX2_spreadAll_0 rfl ?_
  refine g_iconst (v := 0) hk dX2_spreadAll_1 (by decide) ?_
  refine lX_21 (v := (A 21 0)) hk (vp_in_iff.mpr ⟨by decide, by decide⟩) rfl dX2_spreadAll_2 ?_
  refine g_istore_n (lv' := [(2, .int (A 21 0)), (0, .ref (q 38)), (1, .ref (q 39))]) hk dX2_spreadAll_3 (by decide) rfl ?_
  refine g_aload_n hk dX2_spreadAll_4 rfl ?_
  refine g_iconst (v := 0) hk dX2_spreadAll_5 (by decide) ?_
  refine lX_21 (v := (A 21 0)) hk (vp_in_iff.mpr ⟨by decide, by decide⟩) rfl dX2_spreadAll_6 ?_
  refine g_istore_n (lv' := [(3, .int (A 21 0)), (2, .int (A 21 0)), (0, .ref (q 38)), (1, .ref (q 39))]) hk dX2_spreadAll_7 (by decide) rfl ?_
  refine g_iconst (v := 1) hk dX2_spreadAll_8 (by decide) ?_
  refine g_istore (lv' := [(4, .int 1), (3, .int (A 21 0)), (2, .int (A 21 0)), (0, .ref (q 38)), (1, .ref (q 39))]) hk dX2_spreadAll_9 (by decide) rfl ?_
  have lp2877 : ∀ (n2878 : Nat) (x2579 : Int32) (x2580 : Int32) (x2581 : Int32), (1 ≤ x2579.toInt) → (x2579.toInt ≤ 16) → (17 - x2579.toInt < (n2878 : Int)) → (0 < n2878) → GW κ 6 0 0 (wX q d I A) 11 [(4, .int x2579), (3, .int x2580), (2, .int x2581), (0, .ref (q 38)), (1, .ref (q 39))] [] := by
    intro n2878
    induction n2878 with
    | zero =>
      intro x2579 x2580 x2581 h2875 h2876 m2879 m2879z
      exact absurd m2879z (Nat.lt_irrefl 0)
    | succ n2878 ih2880 =>
      intro x2579 x2580 x2581 h2875 h2876 m2879 m2879z
      refine g_iload hk dX2_spreadAll_11 rfl ?_
      refine g_aload_n hk dX2_spreadAll_13 rfl ?_
      refine gX_i30 (v := (I 30)) hk hin2 (List.mem_cons_of_mem _ (List.mem_append_left _ (List.mem_of_getElem? (i := 0) rfl))) dX2_spreadAll_14 rfl ?_
      have f2881 := IvX_f30 hIv
      refine g_icmp_ge (tgt := 44) (a := x2579.toInt) (b := (I 30).toInt) hk dX2_spreadAll_17 (by decide) rfl rfl (fun c2882 => ?_) (fun c2882 => ?_)
      · skip
        refine g_iload_n hk dX2_spreadAll_44 rfl ?_
        refine g_iload_n hk dX2_spreadAll_45 rfl ?_
        have b2883l := Int32.le_toInt x2580
        have b2883h := Int32.toInt_lt x2580
        have b2884l := Int32.le_toInt x2581
        have b2884h := Int32.toInt_lt x2581
        refine g_isub hk dX2_spreadAll_46 ?_
        refine g_topi (fun y2885 ey2885 => ?_)
        have hy2885 := i32_sub0 ey2885
        refine g_istore (lv' := [(4, .int y2885), (3, .int x2580), (2, .int x2581), (0, .ref (q 38)), (1, .ref (q 39))]) hk dX2_spreadAll_47 (by decide) rfl ?_
        refine g_iconst (v := 0) hk dX2_spreadAll_49 (by decide) ?_
        refine g_istore (lv' := [(5, .int 0), (4, .int y2885), (3, .int x2580), (2, .int x2581), (0, .ref (q 38)), (1, .ref (q 39))]) hk dX2_spreadAll_50 (by decide) rfl ?_
        have lp2937 : ∀ (n2938 : Nat) (x2886 : Int32) (I2892 : Nat → Int32) (A2892 : Nat → Nat → Int32), (Md [] I I2892) → (Md [21] A A2892) → (IvX I2892 A2892) → (0 ≤ x2886.toInt) → (x2886.toInt ≤ 16) → (17 - x2886.toInt < (n2938 : Int)) → (0 < n2938) → GW κ 6 0 0 (wX q d I2892 A2892) 52 [(5, .int x2886), (4, .int y2885), (3, .int x2580), (2, .int x2581), (0, .ref (q 38)), (1, .ref (q 39))] [] := by
          intro n2938
          induction n2938 with
          | zero =>
            intro x2886 I2892 A2892 hI2892 hA2892 hV2892 h2935 h2936 m2939 m2939z
            exact absurd m2939z (Nat.lt_irrefl 0)
          | succ n2938 ih2940 =>
            intro x2886 I2892 A2892 hI2892 hA2892 hV2892 h2935 h2936 m2939 m2939z
            refine g_iload hk dX2_spreadAll_52 rfl ?_
            refine g_aload_n hk dX2_spreadAll_54 rfl ?_
            refine gX_i30 (v := (I 30)) hk hin2 (List.mem_cons_of_mem _ (List.mem_append_left _ (List.mem_of_getElem? (i := 0) rfl))) dX2_spreadAll_55 (hI2892 30 rfl) ?_
            refine g_icmp_ge (tgt := 93) (a := x2886.toInt) (b := (I 30).toInt) hk dX2_spreadAll_58 (by decide) rfl rfl (fun c2941 => ?_) (fun c2941 => ?_)
            · skip
              exact g_vret hk hR ⟨I2892, A2892, (show Md [] I I2892 from (Md.tr Md.rf hI2892 rfl)), (show Md [21] A A2892 from (Md.tr Md.rf hA2892 rfl)), hV2892, rfl, rfl⟩ dX2_spreadAll_93
            · skip
              refine g_aload_n hk dX2_spreadAll_61 rfl ?_
              refine g_iload hk dX2_spreadAll_62 rfl ?_
              refine g_iload hk dX2_spreadAll_64 rfl ?_
              have b2942l := Int32.le_toInt y2885
              have b2942h := Int32.toInt_lt y2885
              refine g_if_ne (tgt := 73) (a := y2885.toInt) hk dX2_spreadAll_66 (by decide) rfl (fun c2943 => ?_) (fun c2943 => ?_)
              · skip
                refine g_sipush (v := 1000) hk dX2_spreadAll_73 (by decide) ?_
                refine g_aload_n hk dX2_spreadAll_76 rfl ?_
                refine g_iload hk dX2_spreadAll_77 rfl ?_
                refine lX_21 (v := (A2892 21 x2886.toNatClampNeg)) hk (vp_in_iff.mpr ⟨by omega, by omega⟩) rfl dX2_spreadAll_79 ?_
                refine g_iload_n hk dX2_spreadAll_80 rfl ?_
                have b2944l := Int32.le_toInt (A2892 21 x2886.toNatClampNeg)
                have b2944h := Int32.toInt_lt (A2892 21 x2886.toNatClampNeg)
                refine g_isub hk dX2_spreadAll_81 ?_
                refine g_topi (fun y2945 ey2945 => ?_)
                have hy2945 := i32_sub0 ey2945
                have b2946l := Int32.le_toInt y2945
                have b2946h := Int32.toInt_lt y2945
                refine g_imul hk dX2_spreadAll_82 ?_
                refine g_topi (fun y2947 ey2947 => ?_)
                refine g_iload hk dX2_spreadAll_83 rfl ?_
                refine g_idiv hk dX2_spreadAll_85 (i32_ne0 (by omega)) ?_
                refine g_topi (fun y2948 ey2948 => ?_)
                refine sX_21 (j := x2886.toNatClampNeg) hk (vp_in_iff.mpr ⟨by omega, by omega⟩) rfl dX2_spreadAll_86 ?_
                obtain ⟨y2949, ey2949⟩ : ∃ y : Int32, y = x2886 + Int32.ofInt 1 := ⟨_, rfl⟩
                have hy2949 : y2949.toInt = x2886.toInt + 1 := i32_add ey2949 rfl (by decide) (by omega) (by omega)
                refine g_iinc (v := y2949) (lv' := [(5, .int y2949), (4, .int y2885), (3, .int x2580), (2, .int x2581), (0, .ref (q 38)), (1, .ref (q 39))]) hk 0 dX2_spreadAll_87 rfl ey2949.symm (by decide) rfl ?_
                refine g_goto (tgt := 52) hk dX2_spreadAll_90 (by decide) ?_
                exact g_lv (List.forall_mem_cons.mpr ⟨List.mem_of_getElem? (i := 0) rfl, (List.forall_mem_cons.mpr ⟨List.mem_of_getElem? (i := 1) rfl, (List.forall_mem_cons.mpr ⟨List.mem_of_getElem? (i := 2) rfl, (List.forall_mem_cons.mpr ⟨List.mem_of_getElem? (i := 3) rfl, (List.forall_mem_cons.mpr ⟨List.mem_of_getElem? (i := 4) rfl, (List.forall_mem_cons.mpr ⟨List.mem_of_getElem? (i := 5) rfl, (fun _ h => absurd h List.not_mem_nil)⟩)⟩)⟩)⟩)⟩)⟩) (ih2940 y2949 I2892 (up3 A2892 21 (x2886.toNatClampNeg) y2948) (show Md [] I I2892 from Md.tr hI2892 (show Md [] I2892 I2892 from Md.rf) rfl) (show Md [21] A (up3 A2892 21 (x2886.toNatClampNeg) y2948) from Md.tr hA2892 (show Md [21] A2892 (up3 A2892 21 (x2886.toNatClampNeg) y2948) from (Md.up3 Md.rf rfl)) rfl) ⟨(IvX_f0 (I := I2892) (A := A2892) hV2892), (IvX_f18 (I := I2892) (A := A2892) hV2892), (IvX_f30 (I := I2892) (A := A2892) hV2892), (IvX_f31 (I := I2892) (A := A2892) hV2892), (IvX_a4 (I := I2892) (A := A2892) hV2892), (IvX_a9 (I := I2892) (A := A2892) hV2892), trivial⟩ (by omega) (by omega) (by omega) (by omega))
              · skip
                refine g_iconst (v := 0) hk dX2_spreadAll_69 (by decide) ?_
                refine g_goto (tgt := 86) hk dX2_spreadAll_70 (by decide) ?_
                have k2950 : (0 : Int32).toInt = 0 := rfl
                refine sX_21 (j := x2886.toNatClampNeg) hk (vp_in_iff.mpr ⟨by omega, by omega⟩) rfl dX2_spreadAll_86 ?_
                obtain ⟨y2951, ey2951⟩ : ∃ y : Int32, y = x2886 + Int32.ofInt 1 := ⟨_, rfl⟩
                have hy2951 : y2951.toInt = x2886.toInt + 1 := i32_add ey2951 rfl (by decide) (by omega) (by omega)
                refine g_iinc (v := y2951) (lv' := [(5, .int y2951), (4, .int y2885), (3, .int x2580), (2, .int x2581), (0, .ref (q 38)), (1, .ref (q 39))]) hk 0 dX2_spreadAll_87 rfl ey2951.symm (by decide) rfl ?_
                refine g_goto (tgt := 52) hk dX2_spreadAll_90 (by decide) ?_
                exact g_lv (List.forall_mem_cons.mpr ⟨List.mem_of_getElem? (i := 0) rfl, (List.forall_mem_cons.mpr ⟨List.mem_of_getElem? (i := 1) rfl, (List.forall_mem_cons.mpr ⟨List.mem_of_getElem? (i := 2) rfl, (List.forall_mem_cons.mpr ⟨List.mem_of_getElem? (i := 3) rfl, (List.forall_mem_cons.mpr ⟨List.mem_of_getElem? (i := 4) rfl, (List.forall_mem_cons.mpr ⟨List.mem_of_getElem? (i := 5) rfl, (fun _ h => absurd h List.not_mem_nil)⟩)⟩)⟩)⟩)⟩)⟩) (ih2940 y2951 I2892 (up3 A2892 21 (x2886.toNatClampNeg) 0) (show Md [] I I2892 from Md.tr hI2892 (show Md [] I2892 I2892 from Md.rf) rfl) (show Md [21] A (up3 A2892 21 (x2886.toNatClampNeg) 0) from Md.tr hA2892 (show Md [21] A2892 (up3 A2892 21 (x2886.toNatClampNeg) 0) from (Md.up3 Md.rf rfl)) rfl) ⟨(IvX_f0 (I := I2892) (A := A2892) hV2892), (IvX_f18 (I := I2892) (A := A2892) hV2892), (IvX_f30 (I := I2892) (A := A2892) hV2892), (IvX_f31 (I := I2892) (A := A2892) hV2892), (IvX_a4 (I := I2892) (A := A2892) hV2892), (IvX_a9 (I := I2892) (A := A2892) hV2892), trivial⟩ (by omega) (by omega) (by omega) (by omega))
        have k2953 : (0 : Int32).toInt = 0 := rfl
        obtain ⟨n2952, n2952a, n2952b⟩ : ∃ n : Nat, 17 - 0 < (n : Int) ∧ 0 < n := ⟨((17 - 0 : Int)).toNat + 1, by omega, by omega⟩
        exact lp2937 n2952 0 I A Md.rf Md.rf hIv (by omega) (by omega) n2952a n2952b
      · skip
        refine g_iload_n hk dX2_spreadAll_20 rfl ?_
        refine g_aload_n hk dX2_spreadAll_21 rfl ?_
        refine g_iload hk dX2_spreadAll_22 rfl ?_
        refine lX_21 (v := (A 21 x2579.toNatClampNeg)) hk (vp_in_iff.mpr ⟨by omega, by omega⟩) rfl dX2_spreadAll_24 ?_
        have b2954l := Int32.le_toInt (A 21 x2579.toNatClampNeg)
        have b2954h := Int32.toInt_lt (A 21 x2579.toNatClampNeg)
        have b2955l := Int32.le_toInt x2581
        have b2955h := Int32.toInt_lt x2581
        refine g_mmin hk (List.mem_cons_of_mem _ (List.mem_append_left _ (List.mem_of_getElem? (i := 1) rfl))) (List.mem_cons_of_mem _ (List.mem_append_left _ (List.mem_of_getElem? (i := 2) rfl))) (List.mem_cons_of_mem _ (List.mem_append_left _ (List.mem_of_getElem? (i := 3) rfl))) (List.mem_cons_of_mem _ (List.mem_append_left _ (List.mem_of_getElem? (i := 4) rfl))) (Nat.le_of_ble_eq_true rfl) (Nat.le_of_ble_eq_true rfl) (Nat.le_of_ble_eq_true rfl) (Nat.le_of_ble_eq_true rfl) dX2_spreadAll_25 ?_
        refine g_topi (fun y2956 ey2956 => ?_)
        have hy2956 := i32_min ey2956
        refine g_istore_n (lv' := [(2, .int y2956), (4, .int x2579), (3, .int x2580), (0, .ref (q 38)), (1, .ref (q 39))]) hk dX2_spreadAll_28 (by decide) rfl ?_
        refine g_iload_n hk dX2_spreadAll_29 rfl ?_
        refine g_aload_n hk dX2_spreadAll_30 rfl ?_
        refine g_iload hk dX2_spreadAll_31 rfl ?_
        refine lX_21 (v := (A 21 x2579.toNatClampNeg)) hk (vp_in_iff.mpr ⟨by omega, by omega⟩) rfl dX2_spreadAll_33 ?_
        have b2957l := Int32.le_toInt x2580
        have b2957h := Int32.toInt_lt x2580
        refine g_mmax hk (List.mem_cons_of_mem _ (List.mem_append_left _ (List.mem_of_getElem? (i := 5) rfl))) (List.mem_cons_of_mem _ (List.mem_append_left _ (List.mem_of_getElem? (i := 6) rfl))) (List.mem_cons_of_mem _ (List.mem_append_left _ (List.mem_of_getElem? (i := 3) rfl))) (List.mem_cons_of_mem _ (List.mem_append_left _ (List.mem_of_getElem? (i := 7) rfl))) (Nat.le_of_ble_eq_true rfl) (Nat.le_of_ble_eq_true rfl) (Nat.le_of_ble_eq_true rfl) (Nat.le_of_ble_eq_true rfl) dX2_spreadAll_34 ?_
        refine g_topi (fun y2958 ey2958 => ?_)
        have hy2958 := i32_max ey2958
        refine g_istore_n (lv' := [(3, .int y2958), (2, .int y2956), (4, .int x2579), (0, .ref (q 38)), (1, .ref (q 39))]) hk dX2_spreadAll_37 (by decide) rfl ?_
        obtain ⟨y2959, ey2959⟩ : ∃ y : Int32, y = x2579 + Int32.ofInt 1 := ⟨_, rfl⟩
        have hy2959 : y2959.toInt = x2579.toInt + 1 := i32_add ey2959 rfl (by decide) (by omega) (by omega)
        refine g_iinc (v := y2959) (lv' := [(4, .int y2959), (3, .int y2958), (2, .int y2956), (0, .ref (q 38)), (1, .ref (q 39))]) hk 2 dX2_spreadAll_38 rfl ey2959.symm (by decide) rfl ?_
        refine g_goto (tgt := 11) hk dX2_spreadAll_41 (by decide) ?_
        exact g_lv (List.forall_mem_cons.mpr ⟨List.mem_of_getElem? (i := 0) rfl, (List.forall_mem_cons.mpr ⟨List.mem_of_getElem? (i := 1) rfl, (List.forall_mem_cons.mpr ⟨List.mem_of_getElem? (i := 2) rfl, (List.forall_mem_cons.mpr ⟨List.mem_of_getElem? (i := 3) rfl, (List.forall_mem_cons.mpr ⟨List.mem_of_getElem? (i := 4) rfl, (fun _ h => absurd h List.not_mem_nil)⟩)⟩)⟩)⟩)⟩) (ih2880 y2959 y2958 y2956 (by omega) (by omega) (by omega) (by omega))
  have k2961 : (1 : Int32).toInt = 1 := rfl
  have b2962l := Int32.le_toInt (A 21 0)
  have b2962h := Int32.toInt_lt (A 21 0)
  obtain ⟨n2960, n2960a, n2960b⟩ : ∃ n : Nat, 17 - 1 < (n : Int) ∧ 0 < n := ⟨((17 - 1 : Int)).toNat + 1, by omega, by omega⟩
  exact lp2877 n2960 1 (A 21 0) (A 21 0) (by omega) (by omega) n2960a n2960b
def wo_k219_X2_lessenAll : List Cond := [Cond.fieldLink RX2 24 "WarpDesk$Fit" "length" "I"]
def wz_k219_X2_lessenAll : List Cond := .code yX2_lessenAll cX2_lessenAll 4 none :: (wo_k219_X2_lessenAll ++ (wsX20 ++ ([] : List Cond)))
theorem zg_k219_X2_lessenAll : ∀ w ∈ wz_k219_X2_lessenAll, goodWord w = true := zg_cons rfl (zg_app (by decide +kernel) (zg_app zgU_wsX20 zg_nil))
theorem zi_k219_X2_lessenAll : ∀ w ∈ wz_k219_X2_lessenAll, w ∈ lw_tbl := zi_cons zw_960 (zi_app (zi_cons zw_343 zi_nil) (zi_app inX2 zi_nil))
set_option maxHeartbeats 4000000 in
set_option maxRecDepth 100000 in
theorem k219_X2_lessenAll (l : Launch) (D : va_G) (zt : Nat × Nat × Nat × (Nat → Nat) × (Nat → Nat)) (q : Nat → Nat) (d : Nat → ClassId) (I : Nat → Int32) (A : Nat → Nat → Int32) (z2 : Int32) (hIv : IvX I A) : GM l D zt (tyX d) yX2_lessenAll wz_k219_X2_lessenAll ({ frames := 0, cells := 0, slots := 0, locals := 0 } : Room) [.ref (q 38), .ref (q 39), .int z2] (wX q d I A) (fun v _ w' => ∃ (I' : Nat → Int32) (A' : Nat → Nat → Int32), Md [] I I' ∧ Md [21] A A' ∧ IvX I' A' ∧ v = none ∧ w' = wX q d I' A') 0 0 := by
  refine GM.of (cc := cX2_lessenAll) (maxL := 4) (ret := none) (own := RX2) (lv := [(0, .ref (q 38)), (1, .ref (q 39)), (2, .int z2)]) (by decide) rfl rfl (Nat.le_of_ble_eq_true rfl) rfl (fun κ sz hk hR hN => ?_)
  have hin2 : ∀ w ∈ u_ws RX2 TX2 10, w ∈ wz_k219_X2_lessenAll := fun w h => (List.mem_cons_of_mem _ (List.mem_append_right _ (List.mem_append_left _ h)))
  refine g_iconst (v := 0) hk dX2_lessenAll_0 (by decide) ?_
  refine g_istore_n (lv' := [(3, .int 0), (0, .ref (q 38)), (1, .ref (q 39)), (2, .int z2)]) hk dX2_lessenAll_1 (by decide) rfl ?_
  have lp2995 : ∀ (n2996 : Nat) (x2965 : Int32) (I2969 : Nat → Int32) (A2969 : Nat → Nat → Int32), (Md [] I I2969) → (Md [21] A A2969) → (IvX I2969 A2969) → (0 ≤ x2965.toInt) → (x2965.toInt ≤ 16) → (17 - x2965.toInt < (n2996 : Int)) → (0 < n2996) → GW κ 4 0 0 (wX q d I2969 A2969) 2 [(3, .int x2965), (0, .ref (q 38)), (1, .ref (q 39)), (2, .int z2)] [] := by
    intro n2996
    induction n2996 with
    | zero =>
      intro x2965 I2969 A2969 hI2969 hA2969 hV2969 h2993 h2994 m2997 m2997z
      exact absurd m2997z (Nat.lt_irrefl 0)
    | succ n2996 ih2998 =>
      intro x2965 I2969 A2969 hI2969 hA2969 hV2969 h2993 h2994 m2997 m2997z
      refine g_iload_n hk dX2_lessenAll_2 rfl ?_
      refine g_aload_n hk dX2_lessenAll_3 rfl ?_
      refine gX_i30 (v := (I 30)) hk hin2 (List.mem_cons_of_mem _ (List.mem_append_left _ (List.mem_of_getElem? (i := 0) rfl))) dX2_lessenAll_4 (hI2969 30 rfl) ?_
      have f2999 := IvX_f30 hIv
      refine g_icmp_ge (tgt := 29) (a := x2965.toInt) (b := (I 30).toInt) hk dX2_lessenAll_7 (by decide) rfl rfl (fun c3000 => ?_) (fun c3000 => ?_)
      · skip
        exact g_vret hk hR ⟨I2969, A2969, (show Md [] I I2969 from (Md.tr Md.rf hI2969 rfl)), (show Md [21] A A2969 from (Md.tr Md.rf hA2969 rfl)), hV2969, rfl, rfl⟩ dX2_lessenAll_29
      · skip
        refine g_iload_n hk dX2_lessenAll_10 rfl ?_
        refine g_aload_n hk dX2_lessenAll_11 rfl ?_
        refine nX_21 hk dX2_lessenAll_12 ?_
        refine g_icmp_ge (tgt := 29) (a := x2965.toInt) (b := 16) hk dX2_lessenAll_13 (by decide) rfl rfl (fun z9 => absurd z9 (show ¬ (16 ≤ x2965.toInt) from by omega)) (fun _ => ?_)
        refine g_aload_n hk dX2_lessenAll_16 rfl ?_
        refine g_iload_n hk dX2_lessenAll_17 rfl ?_
        refine g_dup2 hk dX2_lessenAll_18 rfl rfl ?_
        refine lX_21 (v := (A2969 21 x2965.toNatClampNeg)) hk (vp_in_iff.mpr ⟨by omega, by omega⟩) rfl dX2_lessenAll_19 ?_
        refine g_iload_n hk dX2_lessenAll_20 rfl ?_
        have b3001l := Int32.le_toInt (A2969 21 x2965.toNatClampNeg)
        have b3001h := Int32.toInt_lt (A2969 21 x2965.toNatClampNeg)
        have b3002l := Int32.le_toInt z2
        have b3002h := Int32.toInt_lt z2
        refine g_isub hk dX2_lessenAll_21 ?_
        refine g_topi (fun y3003 ey3003 => ?_)
        have hy3003 := i32_sub0 ey3003
        refine sX_21 (j := x2965.toNatClampNeg) hk (vp_in_iff.mpr ⟨by omega, by omega⟩) rfl dX2_lessenAll_22 ?_
        obtain ⟨y3004, ey3004⟩ : ∃ y : Int32, y = x2965 + Int32.ofInt 1 := ⟨_, rfl⟩
        have hy3004 : y3004.toInt = x2965.toInt + 1 := i32_add ey3004 rfl (by decide) (by omega) (by omega)
        refine g_iinc (v := y3004) (lv' := [(3, .int y3004), (0, .ref (q 38)), (1, .ref (q 39)), (2, .int z2)]) hk 0 dX2_lessenAll_23 rfl ey3004.symm (by decide) rfl ?_
        refine g_goto (tgt := 2) hk dX2_lessenAll_26 (by decide) ?_
        exact g_lv (List.forall_mem_cons.mpr ⟨List.mem_of_getElem? (i := 0) rfl, (List.forall_mem_cons.mpr ⟨List.mem_of_getElem? (i := 1) rfl, (List.forall_mem_cons.mpr ⟨List.mem_of_getElem? (i := 2) rfl, (List.forall_mem_cons.mpr ⟨List.mem_of_getElem? (i := 3) rfl, (fun _ h => absurd h List.not_mem_nil)⟩)⟩)⟩)⟩) (ih2998 y3004 I2969 (up3 A2969 21 (x2965.toNatClampNeg) y3003) (show Md [] I I2969 from Md.tr hI2969 (show Md [] I2969 I2969 from Md.rf) rfl) (show Md [21] A (up3 A2969 21 (x2965.toNatClampNeg) y3003) from Md.tr hA2969 (show Md [21] A2969 (up3 A2969 21 (x2965.toNatClampNeg) y3003) from (Md.up3 Md.rf rfl)) rfl) ⟨(IvX_f0 (I := I2969) (A := A2969) hV2969), (IvX_f18 (I := I2969) (A := A2969) hV2969), (IvX_f30 (I := I2969) (A := A2969) hV2969), (IvX_f31 (I := I2969) (A := A2969) hV2969), (IvX_a4 (I := I2969) (A := A2969) hV2969), (IvX_a9 (I := I2969) (A := A2969) hV2969), trivial⟩ (by omega) (by omega) (by omega) (by omega))
  have k3006 : (0 : Int32).toInt = 0 := rfl
  obtain ⟨n3005, n3005a, n3005b⟩ : ∃ n : Nat, 17 - 0 < (n : Int) ∧ 0 < n := ⟨((17 - 0 : Int)).toNat + 1, by omega, by omega⟩
  exact lp2995 n3005 0 I A Md.rf Md.rf hIv (by omega) (by omega) n3005a n3005b
def wo_k220_X2_sumOf : List Cond := [Cond.fieldLink RX2 24 "WarpDesk$Fit" "length" "I"]
def wz_k220_X2_sumOf : List Cond := .code yX2_sumOf cX2_sumOf 4 (some .int) :: (wo_k220_X2_sumOf ++ (wsX20 ++ ([] : List Cond)))
theorem zg_k220_X2_sumOf : ∀ w ∈ wz_k220_X2_sumOf, goodWord w = true := zg_cons rfl (zg_app (by decide +kernel) (zg_app zgU_wsX20 zg_nil))
theorem zi_k220_X2_sumOf : ∀ w ∈ wz_k220_X2_sumOf, w ∈ lw_tbl := zi_cons zw_955 (zi_app (zi_cons zw_343 zi_nil) (zi_app inX2 zi_nil))
set_option maxHeartbeats 4000000 in
set_option maxRecDepth 100000 in
theorem k220_X2_sumOf (l : Launch) (D : va_G) (zt : Nat × Nat × Nat × (Nat → Nat) × (Nat → Nat)) (q : Nat → Nat) (d : Nat → ClassId) (I : Nat → Int32) (A : Nat → Nat → Int32) (hIv : IvX I A) : GM l D zt (tyX d) yX2_sumOf wz_k220_X2_sumOf ({ frames := 0, cells := 0, slots := 0, locals := 0 } : Room) [.ref (q 38), .ref (q 39)] (wX q d I A) (fun v _ w' => ∃ y0 : Int32, v = some (.int y0) ∧ w' = wX q d I A) 0 0 := by
  refine GM.of (cc := cX2_sumOf) (maxL := 4) (ret := (some .int)) (own := RX2) (lv := [(0, .ref (q 38)), (1, .ref (q 39))]) (by decide) rfl rfl (Nat.le_of_ble_eq_true rfl) rfl (fun κ sz hk hR hN => ?_)
  have hin2 : ∀ w ∈ u_ws RX2 TX2 10, w ∈ wz_k220_X2_sumOf := fun w h => (List.mem_cons_of_mem _ (List.mem_append_right _ (List.mem_append_left _ h)))
  refine g_iconst (v := 0) hk dX2_sumOf_0 (by decide) ?_
  refine g_istore_n (lv' := [(2, .int 0), (0, .ref (q 38)), (1, .ref (q 39))]) hk dX2_sumOf_1 (by decide) rfl ?_
  refine g_iconst (v := 0) hk dX2_sumOf_2 (by decide) ?_
  refine g_istore_n (lv' := [(3, .int 0), (2, .int 0), (0, .ref (q 38)), (1, .ref (q 39))]) hk dX2_sumOf_3 (by decide) rfl ?_
  have lp3038 : ∀ (n3039 : Nat) (x3009 : Int32) (x3010 : Int32), (0 ≤ x3009.toInt) → (x3009.toInt ≤ 16) → (17 - x3009.toInt < (n3039 : Int)) → (0 < n3039) → GW κ 4 0 0 (wX q d I A) 4 [(3, .int x3009), (2, .int x3010), (0, .ref (q 38)), (1, .ref (q 39))] [] := by
    intro n3039
    induction n3039 with
    | zero =>
      intro x3009 x3010 h3036 h3037 m3040 m3040z
      exact absurd m3040z (Nat.lt_irrefl 0)
    | succ n3039 ih3041 =>
      intro x3009 x3010 h3036 h3037 m3040 m3040z
      refine g_iload_n hk dX2_sumOf_4 rfl ?_
      refine g_aload_n hk dX2_sumOf_5 rfl ?_
      refine gX_i30 (v := (I 30)) hk hin2 (List.mem_cons_of_mem _ (List.mem_append_left _ (List.mem_of_getElem? (i := 0) rfl))) dX2_sumOf_6 rfl ?_
      have f3042 := IvX_f30 hIv
      refine g_icmp_ge (tgt := 30) (a := x3009.toInt) (b := (I 30).toInt) hk dX2_sumOf_9 (by decide) rfl rfl (fun c3043 => ?_) (fun c3043 => ?_)
      · skip
        refine g_iload_n hk dX2_sumOf_30 rfl ?_
        have b3044l := Int32.le_toInt x3010
        have b3044h := Int32.toInt_lt x3010
        exact g_iret hk hR rfl ⟨x3010, rfl, rfl⟩ dX2_sumOf_31
      · skip
        refine g_iload_n hk dX2_sumOf_12 rfl ?_
        refine g_aload_n hk dX2_sumOf_13 rfl ?_
        refine nX_21 hk dX2_sumOf_14 ?_
        refine g_icmp_ge (tgt := 30) (a := x3009.toInt) (b := 16) hk dX2_sumOf_15 (by decide) rfl rfl (fun z9 => absurd z9 (show ¬ (16 ≤ x3009.toInt) from by omega)) (fun _ => ?_)
        refine g_iload_n hk dX2_sumOf_18 rfl ?_
        refine g_aload_n hk dX2_sumOf_19 rfl ?_
        refine g_iload_n hk dX2_sumOf_20 rfl ?_
        refine lX_21 (v := (A 21 x3009.toNatClampNeg)) hk (vp_in_iff.mpr ⟨by omega, by omega⟩) rfl dX2_sumOf_21 ?_
        have b3045l := Int32.le_toInt x3010
        have b3045h := Int32.toInt_lt x3010
        have b3046l := Int32.le_toInt (A 21 x3009.toNatClampNeg)
        have b3046h := Int32.toInt_lt (A 21 x3009.toNatClampNeg)
        refine g_iadd hk dX2_sumOf_22 ?_
        refine g_topi (fun y3047 ey3047 => ?_)
        refine g_istore_n (lv' := [(2, .int y3047), (3, .int x3009), (0, .ref (q 38)), (1, .ref (q 39))]) hk dX2_sumOf_23 (by decide) rfl ?_
        obtain ⟨y3048, ey3048⟩ : ∃ y : Int32, y = x3009 + Int32.ofInt 1 := ⟨_, rfl⟩
        have hy3048 : y3048.toInt = x3009.toInt + 1 := i32_add ey3048 rfl (by decide) (by omega) (by omega)
        refine g_iinc (v := y3048) (lv' := [(3, .int y3048), (2, .int y3047), (0, .ref (q 38)), (1, .ref (q 39))]) hk 1 dX2_sumOf_24 rfl ey3048.symm (by decide) rfl ?_
        refine g_goto (tgt := 4) hk dX2_sumOf_27 (by decide) ?_
        exact g_lv (List.forall_mem_cons.mpr ⟨List.mem_of_getElem? (i := 0) rfl, (List.forall_mem_cons.mpr ⟨List.mem_of_getElem? (i := 1) rfl, (List.forall_mem_cons.mpr ⟨List.mem_of_getElem? (i := 2) rfl, (List.forall_mem_cons.mpr ⟨List.mem_of_getElem? (i := 3) rfl, (fun _ h => absurd h List.not_mem_nil)⟩)⟩)⟩)⟩) (ih3041 y3048 y3047 (by omega) (by omega) (by omega) (by omega))
  have k3050 : (0 : Int32).toInt = 0 := rfl
  obtain ⟨n3049, n3049a, n3049b⟩ : ∃ n : Nat, 17 - 0 < (n : Int) ∧ 0 < n := ⟨((17 - 0 : Int)).toNat + 1, by omega, by omega⟩
  exact lp3038 n3049 0 0 (by omega) (by omega) n3049a n3049b
def wo_k217_X2_bringToLevel : List Cond := [Cond.fieldLink RX2 24 "WarpDesk$Fit" "length" "I", Cond.methodLink RX2 61 yX2_spreadAll, Cond.instanceMethod yX2_spreadAll, Cond.selects RX2 yX2_spreadAll yX2_spreadAll, Cond.initialized RX2, Cond.methodLink RX2 57 yX2_lessenAll, Cond.instanceMethod yX2_lessenAll, Cond.selects RX2 yX2_lessenAll yX2_lessenAll, Cond.methodLink RX2 50 yX2_sumOf, Cond.instanceMethod yX2_sumOf, Cond.selects RX2 yX2_sumOf yX2_sumOf, Cond.methodLink RX2 54 yJ9_floorDiv_7cf53, Cond.static yJ9_floorDiv_7cf53, Cond.initialized RJ9]
def wz_k217_X2_bringToLevel : List Cond := .code yX2_bringToLevel cX2_bringToLevel 3 none :: (wo_k217_X2_bringToLevel ++ (wsX20 ++ (wz_k218_X2_spreadAll ++ (wz_k219_X2_lessenAll ++ (wz_k220_X2_sumOf ++ (wz_k189_J9_floorDiv_7cf53 ++ ([] : List Cond)))))))
theorem zg_k217_X2_bringToLevel : ∀ w ∈ wz_k217_X2_bringToLevel, goodWord w = true := zg_cons rfl (zg_app (by decide +kernel) (zg_app zgU_wsX20 (zg_app zg_k218_X2_spreadAll (zg_app zg_k219_X2_lessenAll (zg_app zg_k220_X2_sumOf (zg_app zg_k189_J9_floorDiv_7cf53 zg_nil))))))
theorem zi_k217_X2_bringToLevel : ∀ w ∈ wz_k217_X2_bringToLevel, w ∈ lw_tbl := zi_cons zw_951 (zi_app (zi_cons zw_343 (zi_cons zw_961 (zi_cons zw_963 (zi_cons zw_27 (zi_cons zw_112 (zi_cons zw_957 (zi_cons zw_959 (zi_cons zw_26 (zi_cons zw_952 (zi_cons zw_954 (zi_cons zw_25 (zi_cons zw_956 (zi_cons zw_845 (zi_cons zw_120 zi_nil)))))))))))))) (zi_app inX2 (zi_app zi_k218_X2_spreadAll (zi_app zi_k219_X2_lessenAll (zi_app zi_k220_X2_sumOf (zi_app zi_k189_J9_floorDiv_7cf53 zi_nil))))))
set_option maxHeartbeats 4000000 in
set_option maxRecDepth 100000 in
theorem k217_X2_bringToLevel (l : Launch) (D : va_G) (zt : Nat × Nat × Nat × (Nat → Nat) × (Nat → Nat)) (q : Nat → Nat) (d : Nat → ClassId) (I : Nat → Int32) (A : Nat → Nat → Int32) (z2 : Int32) (hIv : IvX I A) : GM l D zt (tyX d) yX2_bringToLevel wz_k217_X2_bringToLevel ({ frames := 2, cells := 0, slots := 0, locals := 38 } : Room) [.ref (q 38), .ref (q 39), .int z2] (wX q d I A) (fun v _ w' => ∃ (I' : Nat → Int32) (A' : Nat → Nat → Int32), Md [] I I' ∧ Md [21] A A' ∧ IvX I' A' ∧ v = none ∧ w' = wX q d I' A') 0 0 := by
  refine GM.of (cc := cX2_bringToLevel) (maxL := 3) (ret := none) (own := RX2) (lv := [(0, .ref (q 38)), (1, .ref (q 39)), (2, .int z2)]) (by decide) rfl rfl (Nat.le_of_ble_eq_true rfl) rfl (fun κ sz hk hR hN => ?_)
  have hin2 : ∀ w ∈ u_ws RX2 TX2 10, w ∈ wz_k217_X2_bringToLevel := fun w h => (List.mem_cons_of_mem _ (List.mem_append_right _ (List.mem_append_left _ h)))
  refine g_aload_n hk dX2_bringToLevel_0 rfl ?_
  refine gX_i30 (v := (I 30)) hk hin2 (List.mem_cons_of_mem _ (List.mem_append_left _ (List.mem_of_getElem? (i := 0) rfl))) dX2_bringToLevel_1 rfl ?_
  have f2574 := IvX_f30 hIv
  refine g_iconst (v := 1) hk dX2_bringToLevel_4 (by decide) ?_
  refine g_icmp_lt (tgt := 17) (a := (I 30).toInt) (b := 1) hk dX2_bringToLevel_5 (by decide) rfl rfl (fun z9 => absurd z9 (show ¬ ((I 30).toInt < 1) from by omega)) (fun _ => ?_)
  refine g_aload_n hk dX2_bringToLevel_8 rfl ?_
  refine gX_i30 (v := (I 30)) hk hin2 (List.mem_cons_of_mem _ (List.mem_append_left _ (List.mem_of_getElem? (i := 0) rfl))) dX2_bringToLevel_9 rfl ?_
  refine g_aload_n hk dX2_bringToLevel_12 rfl ?_
  refine nX_21 hk dX2_bringToLevel_13 ?_
  refine g_icmp_le (tgt := 18) (a := (I 30).toInt) (b := 16) hk dX2_bringToLevel_14 (by decide) rfl rfl (fun _ => ?_) (fun z9 => absurd (show (I 30).toInt ≤ 16 from by omega) z9)
  refine g_iload_n hk dX2_bringToLevel_18 rfl ?_
  refine g_iconst (v := 1) hk dX2_bringToLevel_19 (by decide) ?_
  have b2575l := Int32.le_toInt z2
  have b2575h := Int32.toInt_lt z2
  refine g_icmp_ne (tgt := 43) (a := z2.toInt) (b := 1) hk dX2_bringToLevel_20 (by decide) rfl rfl (fun c2576 => ?_) (fun c2576 => ?_)
  · skip
    refine g_iload_n hk dX2_bringToLevel_43 rfl ?_
    refine g_iconst (v := 2) hk dX2_bringToLevel_44 (by decide) ?_
    refine g_icmp_ne (tgt := 59) (a := z2.toInt) (b := 2) hk dX2_bringToLevel_45 (by decide) rfl rfl (fun c2577 => ?_) (fun c2577 => ?_)
    · skip
      refine g_iload_n hk dX2_bringToLevel_59 rfl ?_
      refine g_iconst (v := 3) hk dX2_bringToLevel_60 (by decide) ?_
      refine g_icmp_ne (tgt := 69) (a := z2.toInt) (b := 3) hk dX2_bringToLevel_61 (by decide) rfl rfl (fun c2578 => ?_) (fun c2578 => ?_)
      · skip
        exact g_vret hk hR ⟨I, A, (show Md [] I I from Md.rf), (show Md [21] A A from Md.rf), hIv, rfl, rfl⟩ dX2_bringToLevel_69
      · skip
        refine g_aload_n hk dX2_bringToLevel_64 rfl ?_
        refine g_aload_n hk dX2_bringToLevel_65 rfl ?_
        refine g_callV (n := 1) hk (k218_X2_spreadAll l D zt q d I A  hIv) (SP.same _) (fun _ h => h) (gi_V (List.mem_cons_of_mem _ (List.mem_append_left _ (List.mem_of_getElem? (i := 1) rfl))) (List.mem_cons_of_mem _ (List.mem_append_left _ (List.mem_of_getElem? (i := 2) rfl))) (List.mem_cons_of_mem _ (List.mem_append_left _ (List.mem_of_getElem? (i := 3) rfl))) (List.mem_cons_of_mem _ (List.mem_append_left _ (List.mem_of_getElem? (i := 4) rfl))) (gi_sub (fun w h => (List.mem_cons_of_mem _ (List.mem_append_right _ (List.mem_append_right _ (List.mem_append_left _ h))))) zg_k218_X2_spreadAll)) rfl rfl rfl (by decide +kernel) ⟨Nat.le_of_ble_eq_true rfl, Nat.le_of_ble_eq_true rfl⟩ 38 rfl rfl rfl rfl (Nat.le_of_ble_eq_true rfl) ⟨Nat.le_of_ble_eq_true rfl, Nat.le_of_ble_eq_true rfl⟩ dX2_bringToLevel_66 (fun v ty' w' hp hk' => ?_)
        obtain ⟨I2964, A2964, hI2964, hA2964, hV2964, rfl, rfl⟩ := hp
        show GW κ 3 0 0 (wX q d I2964 A2964) 69 [(0, .ref (q 38)), (1, .ref (q 39)), (2, .int z2)] []
        exact g_vret hk hR ⟨I2964, A2964, (show Md [] I I2964 from (Md.tr Md.rf hI2964 rfl)), (show Md [21] A A2964 from (Md.tr Md.rf hA2964 rfl)), hV2964, rfl, rfl⟩ dX2_bringToLevel_69
    · skip
      refine g_aload_n hk dX2_bringToLevel_48 rfl ?_
      refine g_aload_n hk dX2_bringToLevel_49 rfl ?_
      refine g_aload_n hk dX2_bringToLevel_50 rfl ?_
      refine g_iconst (v := 0) hk dX2_bringToLevel_51 (by decide) ?_
      refine lX_21 (v := (A 21 0)) hk (vp_in_iff.mpr ⟨by decide, by decide⟩) rfl dX2_bringToLevel_52 ?_
      refine g_callV (n := 2) hk (k219_X2_lessenAll l D zt q d I A (A 21 0) hIv) (SP.same _) (fun _ h => h) (gi_V (List.mem_cons_of_mem _ (List.mem_append_left _ (List.mem_of_getElem? (i := 5) rfl))) (List.mem_cons_of_mem _ (List.mem_append_left _ (List.mem_of_getElem? (i := 6) rfl))) (List.mem_cons_of_mem _ (List.mem_append_left _ (List.mem_of_getElem? (i := 7) rfl))) (List.mem_cons_of_mem _ (List.mem_append_left _ (List.mem_of_getElem? (i := 4) rfl))) (gi_sub (fun w h => (List.mem_cons_of_mem _ (List.mem_append_right _ (List.mem_append_right _ (List.mem_append_right _ (List.mem_append_left _ h)))))) zg_k219_X2_lessenAll)) rfl rfl rfl (by decide +kernel) ⟨Nat.le_of_ble_eq_true rfl, Nat.le_of_ble_eq_true rfl⟩ 38 rfl rfl rfl rfl (Nat.le_of_ble_eq_true rfl) ⟨Nat.le_of_ble_eq_true rfl, Nat.le_of_ble_eq_true rfl⟩ dX2_bringToLevel_53 (fun v ty' w' hp hk' => ?_)
      obtain ⟨I3008, A3008, hI3008, hA3008, hV3008, rfl, rfl⟩ := hp
      show GW κ 3 0 0 (wX q d I3008 A3008) 56 [(0, .ref (q 38)), (1, .ref (q 39)), (2, .int z2)] []
      refine g_goto (tgt := 69) hk dX2_bringToLevel_56 (by decide) ?_
      exact g_vret hk hR ⟨I3008, A3008, (show Md [] I I3008 from (Md.tr Md.rf hI3008 rfl)), (show Md [21] A A3008 from (Md.tr Md.rf hA3008 rfl)), hV3008, rfl, rfl⟩ dX2_bringToLevel_69
  · skip
    refine g_aload_n hk dX2_bringToLevel_23 rfl ?_
    refine g_aload_n hk dX2_bringToLevel_24 rfl ?_
    refine g_aload_n hk dX2_bringToLevel_25 rfl ?_
    refine g_aload_n hk dX2_bringToLevel_26 rfl ?_
    refine g_callV (n := 1) hk (k220_X2_sumOf l D zt q d I A  hIv) (SP.same _) (fun _ h => h) (gi_V (List.mem_cons_of_mem _ (List.mem_append_left _ (List.mem_of_getElem? (i := 8) rfl))) (List.mem_cons_of_mem _ (List.mem_append_left _ (List.mem_of_getElem? (i := 9) rfl))) (List.mem_cons_of_mem _ (List.mem_append_left _ (List.mem_of_getElem? (i := 10) rfl))) (List.mem_cons_of_mem _ (List.mem_append_left _ (List.mem_of_getElem? (i := 4) rfl))) (gi_sub (fun w h => (List.mem_cons_of_mem _ (List.mem_append_right _ (List.mem_append_right _ (List.mem_append_right _ (List.mem_append_right _ (List.mem_append_left _ h))))))) zg_k220_X2_sumOf)) rfl rfl rfl (by decide +kernel) ⟨Nat.le_of_ble_eq_true rfl, Nat.le_of_ble_eq_true rfl⟩ 38 rfl rfl rfl rfl (Nat.le_of_ble_eq_true rfl) ⟨Nat.le_of_ble_eq_true rfl, Nat.le_of_ble_eq_true rfl⟩ dX2_bringToLevel_27 (fun v ty' w' hp hk' => ?_)
    obtain ⟨y3051, rfl, rfl⟩ := hp
    show GW κ 3 0 0 (wX q d I A) 30 [(0, .ref (q 38)), (1, .ref (q 39)), (2, .int z2)] [.int y3051, .ref (q 39), .ref (q 38)]
    refine g_aload_n hk dX2_bringToLevel_30 rfl ?_
    refine gX_i30 (v := (I 30)) hk hin2 (List.mem_cons_of_mem _ (List.mem_append_left _ (List.mem_of_getElem? (i := 0) rfl))) dX2_bringToLevel_31 rfl ?_
    refine g_callS (n := 2) hk (k189_J9_floorDiv_7cf53 l D zt q d I A y3051 (I 30) hIv (by omega)) (SP.same _) (fun _ h => h) (gi_S (List.mem_cons_of_mem _ (List.mem_append_left _ (List.mem_of_getElem? (i := 11) rfl))) (List.mem_cons_of_mem _ (List.mem_append_left _ (List.mem_of_getElem? (i := 12) rfl))) (List.mem_cons_of_mem _ (List.mem_append_left _ (List.mem_of_getElem? (i := 13) rfl))) (gi_sub (fun w h => (List.mem_cons_of_mem _ (List.mem_append_right _ (List.mem_append_right _ (List.mem_append_right _ (List.mem_append_right _ (List.mem_append_right _ (List.mem_append_left _ h)))))))) zg_k189_J9_floorDiv_7cf53)) rfl rfl rfl (by decide +kernel) ⟨Nat.le_of_ble_eq_true rfl, Nat.le_of_ble_eq_true rfl⟩ rfl rfl (Nat.le_of_ble_eq_true rfl) ⟨Nat.le_of_ble_eq_true rfl, Nat.le_of_ble_eq_true rfl⟩ dX2_bringToLevel_34 (fun v ty' w' hp hk' => ?_)
    obtain ⟨y3052, rfl, rfl⟩ := hp
    show GW κ 3 0 0 (wX q d I A) 37 [(0, .ref (q 38)), (1, .ref (q 39)), (2, .int z2)] [.int y3052, .ref (q 39), .ref (q 38)]
    refine g_callV (n := 2) hk (k219_X2_lessenAll l D zt q d I A y3052 hIv) (SP.same _) (fun _ h => h) (gi_V (List.mem_cons_of_mem _ (List.mem_append_left _ (List.mem_of_getElem? (i := 5) rfl))) (List.mem_cons_of_mem _ (List.mem_append_left _ (List.mem_of_getElem? (i := 6) rfl))) (List.mem_cons_of_mem _ (List.mem_append_left _ (List.mem_of_getElem? (i := 7) rfl))) (List.mem_cons_of_mem _ (List.mem_append_left _ (List.mem_of_getElem? (i := 4) rfl))) (gi_sub (fun w h => (List.mem_cons_of_mem _ (List.mem_append_right _ (List.mem_append_right _ (List.mem_append_right _ (List.mem_append_left _ h)))))) zg_k219_X2_lessenAll)) rfl rfl rfl (by decide +kernel) ⟨Nat.le_of_ble_eq_true rfl, Nat.le_of_ble_eq_true rfl⟩ 38 rfl rfl rfl rfl (Nat.le_of_ble_eq_true rfl) ⟨Nat.le_of_ble_eq_true rfl, Nat.le_of_ble_eq_true rfl⟩ dX2_bringToLevel_37 (fun v ty' w' hp hk' => ?_)
    obtain ⟨I3054, A3054, hI3054, hA3054, hV3054, rfl, rfl⟩ := hp
    show GW κ 3 0 0 (wX q d I3054 A3054) 40 [(0, .ref (q 38)), (1, .ref (q 39)), (2, .int z2)] []
    refine g_goto (tgt := 69) hk dX2_bringToLevel_40 (by decide) ?_
    exact g_vret hk hR ⟨I3054, A3054, (show Md [] I I3054 from (Md.tr Md.rf hI3054 rfl)), (show Md [21] A A3054 from (Md.tr Md.rf hA3054 rfl)), hV3054, rfl, rfl⟩ dX2_bringToLevel_69
def wo_k213_X0_openWindow : List Cond := [Cond.fieldLink RX0 26 "WarpDesk$Bench" "settings" "LWarpDesk$Settings;", Cond.methodLink RX0 49 yX7_valueOf, Cond.instanceMethod yX7_valueOf, Cond.selects RX7 yX7_valueOf yX7_valueOf, Cond.initialized RX7, Cond.methodLink RX0 62 yX0_begin, Cond.instanceMethod yX0_begin, Cond.selects RX0 yX0_begin yX0_begin, Cond.initialized RX0, Cond.fieldLink RX0 18 "WarpDesk$Bench" "series" "LWarpDesk$Series;", Cond.fieldLink RX0 77 "WarpDesk$Bench" "length" "I", Cond.fieldLink RX0 12 "WarpDesk$Bench" "fit" "LWarpDesk$Fit;", Cond.fieldLink RX0 65 "WarpDesk$Fit" "left" "[I", Cond.methodLink RX0 81 yX6_copyWindow, Cond.instanceMethod yX6_copyWindow, Cond.selects RX6 yX6_copyWindow yX6_copyWindow, Cond.initialized RX6, Cond.methodLink RX0 73 yX2_bringToLevel, Cond.instanceMethod yX2_bringToLevel, Cond.selects RX2 yX2_bringToLevel yX2_bringToLevel, Cond.initialized RX2]
def wz_k213_X0_openWindow : List Cond := .code yX0_openWindow cX0_openWindow 3 none :: (wo_k213_X0_openWindow ++ (wsX00 ++ (wsX20 ++ (wz_k194_X7_valueOf ++ (wz_k214_X0_begin ++ (wz_k216_X6_copyWindow ++ (wz_k217_X2_bringToLevel ++ ([] : List Cond))))))))
theorem zg_k213_X0_openWindow : ∀ w ∈ wz_k213_X0_openWindow, goodWord w = true := zg_cons rfl (zg_app (by decide +kernel) (zg_app zgU_wsX00 (zg_app zgU_wsX20 (zg_app zg_k194_X7_valueOf (zg_app zg_k214_X0_begin (zg_app zg_k216_X6_copyWindow (zg_app zg_k217_X2_bringToLevel zg_nil)))))))
theorem zi_k213_X0_openWindow : ∀ w ∈ wz_k213_X0_openWindow, w ∈ lw_tbl := zi_cons zw_932 (zi_app (zi_cons zw_378 (zi_cons zw_933 (zi_cons zw_786 (zi_cons zw_787 (zi_cons zw_107 (zi_cons zw_934 (zi_cons zw_936 (zi_cons zw_24 (zi_cons zw_111 (zi_cons zw_373 (zi_cons zw_384 (zi_cons zw_380 (zi_cons zw_335 (zi_cons zw_944 (zi_cons zw_945 (zi_cons zw_946 (zi_cons zw_109 (zi_cons zw_948 (zi_cons zw_949 (zi_cons zw_950 (zi_cons zw_112 zi_nil))))))))))))))))))))) (zi_app inX0 (zi_app inX2 (zi_app zi_k194_X7_valueOf (zi_app zi_k214_X0_begin (zi_app zi_k216_X6_copyWindow (zi_app zi_k217_X2_bringToLevel zi_nil)))))))
set_option maxHeartbeats 4000000 in
set_option maxRecDepth 100000 in
theorem k213_X0_openWindow (l : Launch) (D : va_G) (zt : Nat × Nat × Nat × (Nat → Nat) × (Nat → Nat)) (q : Nat → Nat) (d : Nat → ClassId) (I : Nat → Int32) (A : Nat → Nat → Int32) (z1 : Int32) (z2 : Int32) (hIv : IvX I A) : GM l D zt (tyX d) yX0_openWindow wz_k213_X0_openWindow ({ frames := 3, cells := 0, slots := 0, locals := 60 } : Room) [.ref (q 37), .int z1, .int z2] (wX q d I A) (fun v _ w' => ∃ (I' : Nat → Int32) (A' : Nat → Nat → Int32), Md [28, 30, 31, 32] I I' ∧ Md [21] A A' ∧ IvX I' A' ∧ v = none ∧ w' = wX q d I' A') 0 0 := by
  refine GM.of (cc := cX0_openWindow) (maxL := 3) (ret := none) (own := RX0) (lv := [(0, .ref (q 37)), (1, .int z1), (2, .int z2)]) (by decide) rfl rfl (Nat.le_of_ble_eq_true rfl) rfl (fun κ sz hk hR hN => ?_)
  have hin0 : ∀ w ∈ u_ws RX0 TX0 5, w ∈ wz_k213_X0_openWindow := fun w h => (List.mem_cons_of_mem _ (List.mem_append_right _ (List.mem_append_left _ h)))
  have hin2 : ∀ w ∈ u_ws RX2 TX2 10, w ∈ wz_k213_X0_openWindow := fun w h => (List.mem_cons_of_mem _ (List.mem_append_right _ (List.mem_append_right _ (List.mem_append_left _ h))))
  refine g_aload_n hk dX0_openWindow_0 rfl ?_
  refine g_iload_n hk dX0_openWindow_1 rfl ?_
  refine g_aload_n hk dX0_openWindow_2 rfl ?_
  refine gX_r37_2 hk hin0 (List.mem_cons_of_mem _ (List.mem_append_left _ (List.mem_of_getElem? (i := 0) rfl))) dX0_openWindow_3 ?_
  refine g_iconst (v := 0) hk dX0_openWindow_6 (by decide) ?_
  have k2502 : (0 : Int32).toInt = 0 := rfl
  refine g_callV (n := 1) hk (k194_X7_valueOf l D zt q d I A 0 hIv) (SP.same _) (fun _ h => h) (gi_V (List.mem_cons_of_mem _ (List.mem_append_left _ (List.mem_of_getElem? (i := 1) rfl))) (List.mem_cons_of_mem _ (List.mem_append_left _ (List.mem_of_getElem? (i := 2) rfl))) (List.mem_cons_of_mem _ (List.mem_append_left _ (List.mem_of_getElem? (i := 3) rfl))) (List.mem_cons_of_mem _ (List.mem_append_left _ (List.mem_of_getElem? (i := 4) rfl))) (gi_sub (fun w h => (List.mem_cons_of_mem _ (List.mem_append_right _ (List.mem_append_right _ (List.mem_append_right _ (List.mem_append_left _ h)))))) zg_k194_X7_valueOf)) rfl rfl rfl (by decide +kernel) ⟨Nat.le_of_ble_eq_true rfl, Nat.le_of_ble_eq_true rfl⟩ 18 rfl rfl rfl rfl (Nat.le_of_ble_eq_true rfl) ⟨Nat.le_of_ble_eq_true rfl, Nat.le_of_ble_eq_true rfl⟩ dX0_openWindow_7 (fun v ty' w' hp hk' => ?_)
  obtain ⟨y2503, rfl, rfl⟩ := hp
  show GW κ 3 0 0 (wX q d I A) 10 [(0, .ref (q 37)), (1, .int z1), (2, .int z2)] [.int y2503, .int z2, .ref (q 37)]
  refine g_callV (n := 2) hk (k214_X0_begin l D zt q d I A z2 y2503 hIv) (SP.same _) (fun _ h => h) (gi_V (List.mem_cons_of_mem _ (List.mem_append_left _ (List.mem_of_getElem? (i := 5) rfl))) (List.mem_cons_of_mem _ (List.mem_append_left _ (List.mem_of_getElem? (i := 6) rfl))) (List.mem_cons_of_mem _ (List.mem_append_left _ (List.mem_of_getElem? (i := 7) rfl))) (List.mem_cons_of_mem _ (List.mem_append_left _ (List.mem_of_getElem? (i := 8) rfl))) (gi_sub (fun w h => (List.mem_cons_of_mem _ (List.mem_append_right _ (List.mem_append_right _ (List.mem_append_right _ (List.mem_append_right _ (List.mem_append_left _ h))))))) zg_k214_X0_begin)) rfl rfl rfl (by decide +kernel) ⟨Nat.le_of_ble_eq_true rfl, Nat.le_of_ble_eq_true rfl⟩ 37 rfl rfl rfl rfl (Nat.le_of_ble_eq_true rfl) ⟨Nat.le_of_ble_eq_true rfl, Nat.le_of_ble_eq_true rfl⟩ dX0_openWindow_10 (fun v ty' w' hp hk' => ?_)
  obtain ⟨I2522, A2522, hI2522, hA2522, hV2522, rfl, rfl⟩ := hp
  show GW κ 3 0 0 (wX q d I2522 A2522) 13 [(0, .ref (q 37)), (1, .int z1), (2, .int z2)] []
  refine g_aload_n hk dX0_openWindow_13 rfl ?_
  refine gX_r37_0 hk hin0 (List.mem_cons_of_mem _ (List.mem_append_left _ (List.mem_of_getElem? (i := 9) rfl))) dX0_openWindow_14 ?_
  refine g_iload_n hk dX0_openWindow_17 rfl ?_
  refine g_aload_n hk dX0_openWindow_18 rfl ?_
  refine gX_i28 (v := (I2522 28)) hk hin0 (List.mem_cons_of_mem _ (List.mem_append_left _ (List.mem_of_getElem? (i := 10) rfl))) dX0_openWindow_19 rfl ?_
  refine g_aload_n hk dX0_openWindow_22 rfl ?_
  refine gX_r37_3 hk hin0 (List.mem_cons_of_mem _ (List.mem_append_left _ (List.mem_of_getElem? (i := 11) rfl))) dX0_openWindow_23 ?_
  refine gX_r38_0 hk hin2 (List.mem_cons_of_mem _ (List.mem_append_left _ (List.mem_of_getElem? (i := 12) rfl))) dX0_openWindow_26 ?_
  refine g_callV (n := 3) hk (k216_X6_copyWindow l D zt q d I2522 A2522 z1 (I2522 28) hV2522) (SP.same _) (fun _ h => h) (gi_V (List.mem_cons_of_mem _ (List.mem_append_left _ (List.mem_of_getElem? (i := 13) rfl))) (List.mem_cons_of_mem _ (List.mem_append_left _ (List.mem_of_getElem? (i := 14) rfl))) (List.mem_cons_of_mem _ (List.mem_append_left _ (List.mem_of_getElem? (i := 15) rfl))) (List.mem_cons_of_mem _ (List.mem_append_left _ (List.mem_of_getElem? (i := 16) rfl))) (gi_sub (fun w h => (List.mem_cons_of_mem _ (List.mem_append_right _ (List.mem_append_right _ (List.mem_append_right _ (List.mem_append_right _ (List.mem_append_right _ (List.mem_append_left _ h)))))))) zg_k216_X6_copyWindow)) rfl rfl rfl (by decide +kernel) ⟨Nat.le_of_ble_eq_true rfl, Nat.le_of_ble_eq_true rfl⟩ 13 rfl rfl rfl rfl (Nat.le_of_ble_eq_true rfl) ⟨Nat.le_of_ble_eq_true rfl, Nat.le_of_ble_eq_true rfl⟩ dX0_openWindow_29 (fun v ty' w' hp hk' => ?_)
  obtain ⟨I2571, A2571, hI2571, hA2571, hV2571, rfl, rfl⟩ := hp
  show GW κ 3 0 0 (wX q d I2571 A2571) 32 [(0, .ref (q 37)), (1, .int z1), (2, .int z2)] []
  refine g_aload_n hk dX0_openWindow_32 rfl ?_
  refine gX_r37_3 hk hin0 (List.mem_cons_of_mem _ (List.mem_append_left _ (List.mem_of_getElem? (i := 11) rfl))) dX0_openWindow_33 ?_
  refine g_aload_n hk dX0_openWindow_36 rfl ?_
  refine gX_r37_3 hk hin0 (List.mem_cons_of_mem _ (List.mem_append_left _ (List.mem_of_getElem? (i := 11) rfl))) dX0_openWindow_37 ?_
  refine gX_r38_0 hk hin2 (List.mem_cons_of_mem _ (List.mem_append_left _ (List.mem_of_getElem? (i := 12) rfl))) dX0_openWindow_40 ?_
  refine g_aload_n hk dX0_openWindow_43 rfl ?_
  refine gX_r37_2 hk hin0 (List.mem_cons_of_mem _ (List.mem_append_left _ (List.mem_of_getElem? (i := 0) rfl))) dX0_openWindow_44 ?_
  refine g_iconst (v := 1) hk dX0_openWindow_47 (by decide) ?_
  have k2572 : (1 : Int32).toInt = 1 := rfl
  refine g_callV (n := 1) hk (k194_X7_valueOf l D zt q d I2571 A2571 1 hV2571) (SP.same _) (fun _ h => h) (gi_V (List.mem_cons_of_mem _ (List.mem_append_left _ (List.mem_of_getElem? (i := 1) rfl))) (List.mem_cons_of_mem _ (List.mem_append_left _ (List.mem_of_getElem? (i := 2) rfl))) (List.mem_cons_of_mem _ (List.mem_append_left _ (List.mem_of_getElem? (i := 3) rfl))) (List.mem_cons_of_mem _ (List.mem_append_left _ (List.mem_of_getElem? (i := 4) rfl))) (gi_sub (fun w h => (List.mem_cons_of_mem _ (List.mem_append_right _ (List.mem_append_right _ (List.mem_append_right _ (List.mem_append_left _ h)))))) zg_k194_X7_valueOf)) rfl rfl rfl (by decide +kernel) ⟨Nat.le_of_ble_eq_true rfl, Nat.le_of_ble_eq_true rfl⟩ 18 rfl rfl rfl rfl (Nat.le_of_ble_eq_true rfl) ⟨Nat.le_of_ble_eq_true rfl, Nat.le_of_ble_eq_true rfl⟩ dX0_openWindow_48 (fun v ty' w' hp hk' => ?_)
  obtain ⟨y2573, rfl, rfl⟩ := hp
  show GW κ 3 0 0 (wX q d I2571 A2571) 51 [(0, .ref (q 37)), (1, .int z1), (2, .int z2)] [.int y2573, .ref (q 39), .ref (q 38)]
  refine g_callV (n := 2) hk (k217_X2_bringToLevel l D zt q d I2571 A2571 y2573 hV2571) (SP.same _) (fun _ h => h) (gi_V (List.mem_cons_of_mem _ (List.mem_append_left _ (List.mem_of_getElem? (i := 17) rfl))) (List.mem_cons_of_mem _ (List.mem_append_left _ (List.mem_of_getElem? (i := 18) rfl))) (List.mem_cons_of_mem _ (List.mem_append_left _ (List.mem_of_getElem? (i := 19) rfl))) (List.mem_cons_of_mem _ (List.mem_append_left _ (List.mem_of_getElem? (i := 20) rfl))) (gi_sub (fun w h => (List.mem_cons_of_mem _ (List.mem_append_right _ (List.mem_append_right _ (List.mem_append_right _ (List.mem_append_right _ (List.mem_append_right _ (List.mem_append_right _ (List.mem_append_left _ h))))))))) zg_k217_X2_bringToLevel)) rfl rfl rfl (by decide +kernel) ⟨Nat.le_of_ble_eq_true rfl, Nat.le_of_ble_eq_true rfl⟩ 38 rfl rfl rfl rfl (Nat.le_of_ble_eq_true rfl) ⟨Nat.le_of_ble_eq_true rfl, Nat.le_of_ble_eq_true rfl⟩ dX0_openWindow_51 (fun v ty' w' hp hk' => ?_)
  obtain ⟨I3056, A3056, hI3056, hA3056, hV3056, rfl, rfl⟩ := hp
  show GW κ 3 0 0 (wX q d I3056 A3056) 54 [(0, .ref (q 37)), (1, .int z1), (2, .int z2)] []
  exact g_vret hk hR ⟨I3056, A3056, (show Md [28, 30, 31, 32] I I3056 from (Md.tr (Md.tr (Md.tr Md.rf hI2522 rfl) hI2571 rfl) hI3056 rfl)), (show Md [21] A A3056 from (Md.tr (Md.tr (Md.tr Md.rf hA2522 rfl) hA2571 rfl) hA3056 rfl)), hV3056, rfl, rfl⟩ dX0_openWindow_54
def wo_k211_X11_level : List Cond := [Cond.methodLink RX11 196 yX11_isStretch, Cond.static yX11_isStretch, Cond.initialized RX11, Cond.constant RX11 186 (-1000000), Cond.fieldLink RX11 28 "WarpDesk" "series" "LWarpDesk$Series;", Cond.methodLink RX11 183 yX6_hasWindow, Cond.instanceMethod yX6_hasWindow, Cond.selects RX6 yX6_hasWindow yX6_hasWindow, Cond.initialized RX6, Cond.fieldLink RX11 65 "WarpDesk" "bench" "LWarpDesk$Bench;", Cond.methodLink RX11 199 yX0_openWindow, Cond.instanceMethod yX0_openWindow, Cond.selects RX0 yX0_openWindow yX0_openWindow, Cond.initialized RX0, Cond.fieldLink RX11 202 "WarpDesk$Bench" "fit" "LWarpDesk$Fit;", Cond.fieldLink RX11 206 "WarpDesk$Fit" "left" "[I"]
def wz_k211_X11_level : List Cond := .code yX11_level cX11_level 4 (some .int) :: (wo_k211_X11_level ++ (wsX00 ++ (wsX20 ++ (wsX110 ++ (wz_k212_X11_isStretch ++ (wz_k207_X6_hasWindow ++ (wz_k213_X0_openWindow ++ ([] : List Cond))))))))
theorem zg_k211_X11_level : ∀ w ∈ wz_k211_X11_level, goodWord w = true := zg_cons rfl (zg_app (by decide +kernel) (zg_app zgU_wsX00 (zg_app zgU_wsX20 (zg_app zgU_wsX110 (zg_app zg_k212_X11_isStretch (zg_app zg_k207_X6_hasWindow (zg_app zg_k213_X0_openWindow zg_nil)))))))
theorem zi_k211_X11_level : ∀ w ∈ wz_k211_X11_level, w ∈ lw_tbl := zi_cons zw_925 (zi_app (zi_cons zw_926 (zi_cons zw_927 (zi_cons zw_103 (zi_cons zw_906 (zi_cons zw_489 (zi_cons zw_901 (zi_cons zw_902 (zi_cons zw_903 (zi_cons zw_109 (zi_cons zw_494 (zi_cons zw_929 (zi_cons zw_930 (zi_cons zw_931 (zi_cons zw_111 (zi_cons zw_383 (zi_cons zw_336 zi_nil)))))))))))))))) (zi_app inX0 (zi_app inX2 (zi_app inX11 (zi_app zi_k212_X11_isStretch (zi_app zi_k207_X6_hasWindow (zi_app zi_k213_X0_openWindow zi_nil)))))))
set_option maxHeartbeats 4000000 in
set_option maxRecDepth 100000 in
theorem k211_X11_level (l : Launch) (D : va_G) (zt : Nat × Nat × Nat × (Nat → Nat) × (Nat → Nat)) (q : Nat → Nat) (d : Nat → ClassId) (I : Nat → Int32) (A : Nat → Nat → Int32) (z1 : Int32) (z2 : Int32) (z3 : Int32) (hIv : IvX I A) : GM l D zt (tyX d) yX11_level wz_k211_X11_level ({ frames := 4, cells := 0, slots := 0, locals := 82 } : Room) [.ref (q 0), .int z1, .int z2, .int z3] (wX q d I A) (fun v _ w' => ∃ (I' : Nat → Int32) (A' : Nat → Nat → Int32), Md [28, 30, 31, 32] I I' ∧ Md [21] A A' ∧ IvX I' A' ∧ ∃ y0 : Int32, v = some (.int y0) ∧ w' = wX q d I' A') 0 0 := by
  refine GM.of (cc := cX11_level) (maxL := 4) (ret := (some .int)) (own := RX11) (lv := [(0, .ref (q 0)), (1, .int z1), (2, .int z2), (3, .int z3)]) (by decide) rfl rfl (Nat.le_of_ble_eq_true rfl) rfl (fun κ sz hk hR hN => ?_)
  have hin0 : ∀ w ∈ u_ws RX0 TX0 5, w ∈ wz_k211_X11_level := fun w h => (List.mem_cons_of_mem _ (List.mem_append_right _ (List.mem_append_left _ h)))
  have hin2 : ∀ w ∈ u_ws RX2 TX2 10, w ∈ wz_k211_X11_level := fun w h => (List.mem_cons_of_mem _ (List.mem_append_right _ (List.mem_append_right _ (List.mem_append_left _ h))))
  have hin11 : ∀ w ∈ u_ws RX11 TX11 10, w ∈ wz_k211_X11_level := fun w h => (List.mem_cons_of_mem _ (List.mem_append_right _ (List.mem_append_right _ (List.mem_append_right _ (List.mem_append_left _ h)))))
  refine g_iload_n hk dX11_level_0 rfl ?_
  refine g_callS (n := 1) hk (k212_X11_isStretch l D zt q d I A z2 hIv) (SP.same _) (fun _ h => h) (gi_S (List.mem_cons_of_mem _ (List.mem_append_left _ (List.mem_of_getElem? (i := 0) rfl))) (List.mem_cons_of_mem _ (List.mem_append_left _ (List.mem_of_getElem? (i := 1) rfl))) (List.mem_cons_of_mem _ (List.mem_append_left _ (List.mem_of_getElem? (i := 2) rfl))) (gi_sub (fun w h => (List.mem_cons_of_mem _ (List.mem_append_right _ (List.mem_append_right _ (List.mem_append_right _ (List.mem_append_right _ (List.mem_append_left _ h))))))) zg_k212_X11_isStretch)) rfl rfl rfl (by decide +kernel) ⟨Nat.le_of_ble_eq_true rfl, Nat.le_of_ble_eq_true rfl⟩ rfl rfl (Nat.le_of_ble_eq_true rfl) ⟨Nat.le_of_ble_eq_true rfl, Nat.le_of_ble_eq_true rfl⟩ dX11_level_1 (fun v ty' w' hp hk' => ?_)
  rcases hp with ⟨rfl, rfl⟩ | ⟨c2486, c2487, c2488, c2489, rfl, rfl⟩
  · skip
    show GW κ 4 0 0 (wX q d I A) 4 [(0, .ref (q 0)), (1, .int z1), (2, .int z2), (3, .int z3)] [.int 0]
    refine g_if_eq (tgt := 28) (a := 0) hk dX11_level_4 (by decide) rfl (fun _ => ?_) (fun z9 => absurd (show (0 : Int) = (0 : Int) from by decide) z9)
    refine g_ldc (v := (-1000000)) hk (List.mem_cons_of_mem _ (List.mem_append_left _ (List.mem_of_getElem? (i := 3) rfl))) dX11_level_28 ?_
    exact g_iret hk hR rfl ⟨I, A, (show Md [28, 30, 31, 32] I I from Md.rf), (show Md [21] A A from Md.rf), hIv, (-1000000), rfl, rfl⟩ dX11_level_30
  · skip
    show GW κ 4 0 0 (wX q d I A) 4 [(0, .ref (q 0)), (1, .int z1), (2, .int z2), (3, .int z3)] [.int 1]
    refine g_if_eq (tgt := 28) (a := 1) hk dX11_level_4 (by decide) rfl (fun z9 => absurd z9 (show ¬ ((1 : Int) = (0 : Int)) from by decide)) (fun _ => ?_)
    refine g_iload_n hk dX11_level_7 rfl ?_
    have b2491l := Int32.le_toInt z3
    have b2491h := Int32.toInt_lt z3
    refine g_if_lt (tgt := 28) (a := z3.toInt) hk dX11_level_8 (by decide) rfl (fun c2492 => ?_) (fun c2492 => ?_)
    · skip
      refine g_ldc (v := (-1000000)) hk (List.mem_cons_of_mem _ (List.mem_append_left _ (List.mem_of_getElem? (i := 3) rfl))) dX11_level_28 ?_
      exact g_iret hk hR rfl ⟨I, A, (show Md [28, 30, 31, 32] I I from Md.rf), (show Md [21] A A from Md.rf), hIv, (-1000000), rfl, rfl⟩ dX11_level_30
    · skip
      refine g_iload_n hk dX11_level_11 rfl ?_
      refine g_iload_n hk dX11_level_12 rfl ?_
      refine g_icmp_ge (tgt := 28) (a := z3.toInt) (b := z2.toInt) hk dX11_level_13 (by decide) rfl rfl (fun c2493 => ?_) (fun c2493 => ?_)
      · skip
        refine g_ldc (v := (-1000000)) hk (List.mem_cons_of_mem _ (List.mem_append_left _ (List.mem_of_getElem? (i := 3) rfl))) dX11_level_28 ?_
        exact g_iret hk hR rfl ⟨I, A, (show Md [28, 30, 31, 32] I I from Md.rf), (show Md [21] A A from Md.rf), hIv, (-1000000), rfl, rfl⟩ dX11_level_30
      · skip
        refine g_aload_n hk dX11_level_16 rfl ?_
        refine gX_r0_2 hk hin11 (List.mem_cons_of_mem _ (List.mem_append_left _ (List.mem_of_getElem? (i := 4) rfl))) dX11_level_17 ?_
        refine g_iload_n hk dX11_level_20 rfl ?_
        refine g_iload_n hk dX11_level_21 rfl ?_
        refine g_callV (n := 2) hk (k207_X6_hasWindow l D zt q d I A z1 z2 hIv) (SP.same _) (fun _ h => h) (gi_V (List.mem_cons_of_mem _ (List.mem_append_left _ (List.mem_of_getElem? (i := 5) rfl))) (List.mem_cons_of_mem _ (List.mem_append_left _ (List.mem_of_getElem? (i := 6) rfl))) (List.mem_cons_of_mem _ (List.mem_append_left _ (List.mem_of_getElem? (i := 7) rfl))) (List.mem_cons_of_mem _ (List.mem_append_left _ (List.mem_of_getElem? (i := 8) rfl))) (gi_sub (fun w h => (List.mem_cons_of_mem _ (List.mem_append_right _ (List.mem_append_right _ (List.mem_append_right _ (List.mem_append_right _ (List.mem_append_right _ (List.mem_append_left _ h)))))))) zg_k207_X6_hasWindow)) rfl rfl rfl (by decide +kernel) ⟨Nat.le_of_ble_eq_true rfl, Nat.le_of_ble_eq_true rfl⟩ 13 rfl rfl rfl rfl (Nat.le_of_ble_eq_true rfl) ⟨Nat.le_of_ble_eq_true rfl, Nat.le_of_ble_eq_true rfl⟩ dX11_level_22 (fun v ty' w' hp hk' => ?_)
        rcases hp with ⟨rfl, rfl⟩ | ⟨c2495, c2496, c2497, c2498, c2499, c2500, rfl, rfl⟩
        · skip
          show GW κ 4 0 0 (wX q d I A) 25 [(0, .ref (q 0)), (1, .int z1), (2, .int z2), (3, .int z3)] [.int 0]
          refine g_if_ne (tgt := 31) (a := 0) hk dX11_level_25 (by decide) rfl (fun z9 => absurd z9 (show ¬ ((0 : Int) ≠ (0 : Int)) from by decide)) (fun _ => ?_)
          refine g_ldc (v := (-1000000)) hk (List.mem_cons_of_mem _ (List.mem_append_left _ (List.mem_of_getElem? (i := 3) rfl))) dX11_level_28 ?_
          exact g_iret hk hR rfl ⟨I, A, (show Md [28, 30, 31, 32] I I from Md.rf), (show Md [21] A A from Md.rf), hIv, (-1000000), rfl, rfl⟩ dX11_level_30
        · skip
          show GW κ 4 0 0 (wX q d I A) 25 [(0, .ref (q 0)), (1, .int z1), (2, .int z2), (3, .int z3)] [.int 1]
          refine g_if_ne (tgt := 31) (a := 1) hk dX11_level_25 (by decide) rfl (fun _ => ?_) (fun z9 => absurd (show (1 : Int) ≠ (0 : Int) from by decide) z9)
          refine g_aload_n hk dX11_level_31 rfl ?_
          refine gX_r0_7 hk hin11 (List.mem_cons_of_mem _ (List.mem_append_left _ (List.mem_of_getElem? (i := 9) rfl))) dX11_level_32 ?_
          refine g_iload_n hk dX11_level_35 rfl ?_
          refine g_iload_n hk dX11_level_36 rfl ?_
          refine g_callV (n := 2) hk (k213_X0_openWindow l D zt q d I A z1 z2 hIv) (SP.same _) (fun _ h => h) (gi_V (List.mem_cons_of_mem _ (List.mem_append_left _ (List.mem_of_getElem? (i := 10) rfl))) (List.mem_cons_of_mem _ (List.mem_append_left _ (List.mem_of_getElem? (i := 11) rfl))) (List.mem_cons_of_mem _ (List.mem_append_left _ (List.mem_of_getElem? (i := 12) rfl))) (List.mem_cons_of_mem _ (List.mem_append_left _ (List.mem_of_getElem? (i := 13) rfl))) (gi_sub (fun w h => (List.mem_cons_of_mem _ (List.mem_append_right _ (List.mem_append_right _ (List.mem_append_right _ (List.mem_append_right _ (List.mem_append_right _ (List.mem_append_right _ (List.mem_append_left _ h))))))))) zg_k213_X0_openWindow)) rfl rfl rfl (by decide +kernel) ⟨Nat.le_of_ble_eq_true rfl, Nat.le_of_ble_eq_true rfl⟩ 37 rfl rfl rfl rfl (Nat.le_of_ble_eq_true rfl) ⟨Nat.le_of_ble_eq_true rfl, Nat.le_of_ble_eq_true rfl⟩ dX11_level_37 (fun v ty' w' hp hk' => ?_)
          obtain ⟨I3058, A3058, hI3058, hA3058, hV3058, rfl, rfl⟩ := hp
          show GW κ 4 0 0 (wX q d I3058 A3058) 40 [(0, .ref (q 0)), (1, .int z1), (2, .int z2), (3, .int z3)] []
          refine g_aload_n hk dX11_level_40 rfl ?_
          refine gX_r0_7 hk hin11 (List.mem_cons_of_mem _ (List.mem_append_left _ (List.mem_of_getElem? (i := 9) rfl))) dX11_level_41 ?_
          refine gX_r37_3 hk hin0 (List.mem_cons_of_mem _ (List.mem_append_left _ (List.mem_of_getElem? (i := 14) rfl))) dX11_level_44 ?_
          refine gX_r38_0 hk hin2 (List.mem_cons_of_mem _ (List.mem_append_left _ (List.mem_of_getElem? (i := 15) rfl))) dX11_level_47 ?_
          refine g_iload_n hk dX11_level_50 rfl ?_
          refine lX_21 (v := (A3058 21 z3.toNatClampNeg)) hk (vp_in_iff.mpr ⟨by omega, by omega⟩) rfl dX11_level_51 ?_
          have b3059l := Int32.le_toInt (A3058 21 z3.toNatClampNeg)
          have b3059h := Int32.toInt_lt (A3058 21 z3.toNatClampNeg)
          exact g_iret hk hR rfl ⟨I3058, A3058, (show Md [28, 30, 31, 32] I I3058 from (Md.tr Md.rf hI3058 rfl)), (show Md [21] A A3058 from (Md.tr Md.rf hA3058 rfl)), hV3058, (A3058 21 z3.toNatClampNeg), rfl, rfl⟩ dX11_level_52
