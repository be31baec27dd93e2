def wo_k181_X4_valueAt : List Cond := [Cond.methodLink RX4 26 yX4_lengthOf, Cond.instanceMethod yX4_lengthOf, Cond.selects RX4 yX4_lengthOf yX4_lengthOf, Cond.initialized RX4, Cond.fieldLink RX4 9 "WarpDesk$Queries" "readings" "[I"]
def wz_k181_X4_valueAt : List Cond := .code yX4_valueAt cX4_valueAt 3 (some .int) :: (wo_k181_X4_valueAt ++ (wsX40 ++ (wz_k182_X4_lengthOf ++ ([] : List Cond))))
theorem zg_k181_X4_valueAt : ∀ w ∈ wz_k181_X4_valueAt, goodWord w = true := zg_cons rfl (zg_app (by decide +kernel) (zg_app zgU_wsX40 (zg_app zg_k182_X4_lengthOf zg_nil)))
theorem zi_k181_X4_valueAt : ∀ w ∈ wz_k181_X4_valueAt, w ∈ lw_tbl := zi_cons zw_763 (zi_app (zi_cons zw_756 (zi_cons zw_757 (zi_cons zw_758 (zi_cons zw_108 (zi_cons zw_217 zi_nil))))) (zi_app inX4 (zi_app zi_k182_X4_lengthOf zi_nil)))
set_option maxHeartbeats 4000000 in
set_option maxRecDepth 100000 in
theorem k181_X4_valueAt (l : Launch) (D : va_G) (zt : Nat × Nat × Nat × (Nat → Nat) × (Nat → Nat)) (q : Nat → Nat) (d : Nat → ClassId) (I : Nat → Int32) (A : Nat → Nat → Int32) (z1 : Int32) (z2 : Int32) (hIv : IvX I A) : GM l D zt (tyX d) yX4_valueAt wz_k181_X4_valueAt ({ frames := 2, cells := 0, slots := 0, locals := 42 } : Room) [.ref (q 15), .int z1, .int z2] (wX q d I A) (fun v _ w' => ∃ y0 : Int32, v = some (.int y0) ∧ w' = wX q d I A) 0 0 := by
  refine GM.of (cc := cX4_valueAt) (maxL := 3) (ret := (some .int)) (own := RX4) (lv := [(0, .ref (q 15)), (1, .int z1), (2, .int z2)]) (by decide) rfl rfl (Nat.le_of_ble_eq_true rfl) rfl (fun κ sz hk hR hN => ?_)
  have hin4 : ∀ w ∈ u_ws RX4 TX4 3, w ∈ wz_k181_X4_valueAt := fun w h => (List.mem_cons_of_mem _ (List.mem_append_right _ (List.mem_append_left _ h)))
  refine g_iload_n hk dX4_valueAt_0 rfl ?_
  have b2002l := Int32.le_toInt z2
  have b2002h := Int32.toInt_lt z2
  refine g_if_lt (tgt := 33) (a := z2.toInt) hk dX4_valueAt_1 (by decide) rfl (fun c2003 => ?_) (fun c2003 => ?_)
  · skip
    refine g_sipush (v := (-1000)) hk dX4_valueAt_33 (by decide) ?_
    exact g_iret hk hR rfl ⟨(-1000), rfl, rfl⟩ dX4_valueAt_36
  · skip
    refine g_iload_n hk dX4_valueAt_4 rfl ?_
    refine g_bipush (v := 16) hk dX4_valueAt_5 (by decide) ?_
    refine g_icmp_ge (tgt := 33) (a := z2.toInt) (b := 16) hk dX4_valueAt_7 (by decide) rfl rfl (fun c2004 => ?_) (fun c2004 => ?_)
    · skip
      refine g_sipush (v := (-1000)) hk dX4_valueAt_33 (by decide) ?_
      exact g_iret hk hR rfl ⟨(-1000), rfl, rfl⟩ dX4_valueAt_36
    · skip
      refine g_iload_n hk dX4_valueAt_10 rfl ?_
      refine g_aload_n hk dX4_valueAt_11 rfl ?_
      refine g_iload_n hk dX4_valueAt_12 rfl ?_
      refine g_callV (n := 1) hk (k182_X4_lengthOf l D zt q d I A z1 hIv) (SP.same _) (fun _ h => h) (gi_V (List.mem_cons_of_mem _ (List.mem_append_left _ (List.mem_of_getElem? (i := 0) rfl))) (List.mem_cons_of_mem _ (List.mem_append_left _ (List.mem_of_getElem? (i := 1) rfl))) (List.mem_cons_of_mem _ (List.mem_append_left _ (List.mem_of_getElem? (i := 2) rfl))) (List.mem_cons_of_mem _ (List.mem_append_left _ (List.mem_of_getElem? (i := 3) rfl))) (gi_sub (fun w h => (List.mem_cons_of_mem _ (List.mem_append_right _ (List.mem_append_right _ (List.mem_append_left _ h))))) zg_k182_X4_lengthOf)) rfl rfl rfl (by decide +kernel) ⟨Nat.le_of_ble_eq_true rfl, Nat.le_of_ble_eq_true rfl⟩ 15 rfl rfl rfl rfl (Nat.le_of_ble_eq_true rfl) ⟨Nat.le_of_ble_eq_true rfl, Nat.le_of_ble_eq_true rfl⟩ dX4_valueAt_13 (fun v ty' w' hp hk' => ?_)
      rcases hp with ⟨rfl, rfl⟩ | ⟨y2019, c2013, c2014, c2015, c2016, c2017, c2018, c2020, c2021, rfl, rfl⟩
      · skip
        show GW κ 3 0 0 (wX q d I A) 16 [(0, .ref (q 15)), (1, .int z1), (2, .int z2)] [.int 0, .int z2]
        refine g_icmp_ge (tgt := 33) (a := z2.toInt) (b := 0) hk dX4_valueAt_16 (by decide) rfl rfl (fun _ => ?_) (fun z9 => absurd (show 0 ≤ z2.toInt from by omega) z9)
        refine g_sipush (v := (-1000)) hk dX4_valueAt_33 (by decide) ?_
        exact g_iret hk hR rfl ⟨(-1000), rfl, rfl⟩ dX4_valueAt_36
      · skip
        show GW κ 3 0 0 (wX q d I A) 16 [(0, .ref (q 15)), (1, .int z1), (2, .int z2)] [.int y2019, .int z2]
        refine g_icmp_ge (tgt := 33) (a := z2.toInt) (b := y2019.toInt) hk dX4_valueAt_16 (by decide) rfl rfl (fun c2022 => ?_) (fun c2022 => ?_)
        · skip
          refine g_sipush (v := (-1000)) hk dX4_valueAt_33 (by decide) ?_
          exact g_iret hk hR rfl ⟨(-1000), rfl, rfl⟩ dX4_valueAt_36
        · skip
          refine g_aload_n hk dX4_valueAt_19 rfl ?_
          refine gX_r15_0 hk hin4 (List.mem_cons_of_mem _ (List.mem_append_left _ (List.mem_of_getElem? (i := 4) rfl))) dX4_valueAt_20 ?_
          refine g_iload_n hk dX4_valueAt_23 rfl ?_
          refine g_bipush (v := 16) hk dX4_valueAt_24 (by decide) ?_
          refine g_imul hk dX4_valueAt_26 ?_
          refine g_topi (fun y2023 ey2023 => ?_)
          have hy2023 : y2023.toInt = z1.toInt * 16 := i32_mul ey2023 rfl rfl (by omega) (by omega)
          refine g_iload_n hk dX4_valueAt_27 rfl ?_
          refine g_iadd hk dX4_valueAt_28 ?_
          refine g_topi (fun y2024 ey2024 => ?_)
          have hy2024 : y2024.toInt = y2023.toInt + z2.toInt := i32_add ey2024 rfl rfl (by omega) (by omega)
          refine lX_8 (v := (A 8 y2024.toNatClampNeg)) hk (vp_in_iff.mpr ⟨by omega, by omega⟩) rfl dX4_valueAt_29 ?_
          refine g_goto (tgt := 36) hk dX4_valueAt_30 (by decide) ?_
          have b2025l := Int32.le_toInt (A 8 y2024.toNatClampNeg)
          have b2025h := Int32.toInt_lt (A 8 y2024.toNatClampNeg)
          exact g_iret hk hR rfl ⟨(A 8 y2024.toNatClampNeg), rfl, rfl⟩ dX4_valueAt_36
def wo_k180_X11_query : List Cond := [Cond.fieldLink RX11 35 "WarpDesk" "queries" "LWarpDesk$Queries;", Cond.methodLink RX11 124 yX4_valueAt, Cond.instanceMethod yX4_valueAt, Cond.selects RX4 yX4_valueAt yX4_valueAt, Cond.initialized RX4]
def wz_k180_X11_query : List Cond := .code yX11_query cX11_query 3 (some .int) :: (wo_k180_X11_query ++ (wsX110 ++ (wz_k181_X4_valueAt ++ ([] : List Cond))))
theorem zg_k180_X11_query : ∀ w ∈ wz_k180_X11_query, goodWord w = true := zg_cons rfl (zg_app (by decide +kernel) (zg_app zgU_wsX110 (zg_app zg_k181_X4_valueAt zg_nil)))
theorem zi_k180_X11_query : ∀ w ∈ wz_k180_X11_query, w ∈ lw_tbl := zi_cons zw_813 (zi_app (zi_cons zw_490 (zi_cons zw_814 (zi_cons zw_761 (zi_cons zw_762 (zi_cons zw_108 zi_nil))))) (zi_app inX11 (zi_app zi_k181_X4_valueAt zi_nil)))
set_option maxHeartbeats 4000000 in
set_option maxRecDepth 100000 in
theorem k180_X11_query (l : Launch) (D : va_G) (zt : Nat × Nat × Nat × (Nat → Nat) × (Nat → Nat)) (q : Nat → Nat) (d : Nat → ClassId) (I : Nat → Int32) (A : Nat → Nat → Int32) (z1 : Int32) (z2 : Int32) (hIv : IvX I A) : GM l D zt (tyX d) yX11_query wz_k180_X11_query ({ frames := 3, cells := 0, slots := 0, locals := 64 } : Room) [.ref (q 0), .int z1, .int z2] (wX q d I A) (fun v _ w' => ∃ y0 : Int32, v = some (.int y0) ∧ w' = wX q d I A) 0 0 := by
  refine GM.of (cc := cX11_query) (maxL := 3) (ret := (some .int)) (own := RX11) (lv := [(0, .ref (q 0)), (1, .int z1), (2, .int z2)]) (by decide) rfl rfl (Nat.le_of_ble_eq_true rfl) rfl (fun κ sz hk hR hN => ?_)
  have hin11 : ∀ w ∈ u_ws RX11 TX11 10, w ∈ wz_k180_X11_query := fun w h => (List.mem_cons_of_mem _ (List.mem_append_right _ (List.mem_append_left _ h)))
  refine g_aload_n hk dX11_query_0 rfl ?_
  refine gX_r0_3 hk hin11 (List.mem_cons_of_mem _ (List.mem_append_left _ (List.mem_of_getElem? (i := 0) rfl))) dX11_query_1 ?_
  refine g_iload_n hk dX11_query_4 rfl ?_
  refine g_iload_n hk dX11_query_5 rfl ?_
  refine g_callV (n := 2) hk (k181_X4_valueAt l D zt q d I A z1 z2 hIv) (SP.same _) (fun _ h => h) (gi_V (List.mem_cons_of_mem _ (List.mem_append_left _ (List.mem_of_getElem? (i := 1) rfl))) (List.mem_cons_of_mem _ (List.mem_append_left _ (List.mem_of_getElem? (i := 2) rfl))) (List.mem_cons_of_mem _ (List.mem_append_left _ (List.mem_of_getElem? (i := 3) rfl))) (List.mem_cons_of_mem _ (List.mem_append_left _ (List.mem_of_getElem? (i := 4) rfl))) (gi_sub (fun w h => (List.mem_cons_of_mem _ (List.mem_append_right _ (List.mem_append_right _ (List.mem_append_left _ h))))) zg_k181_X4_valueAt)) rfl rfl rfl (by decide +kernel) ⟨Nat.le_of_ble_eq_true rfl, Nat.le_of_ble_eq_true rfl⟩ 15 rfl rfl rfl rfl (Nat.le_of_ble_eq_true rfl) ⟨Nat.le_of_ble_eq_true rfl, Nat.le_of_ble_eq_true rfl⟩ dX11_query_6 (fun v ty' w' hp hk' => ?_)
  obtain ⟨y2026, rfl, rfl⟩ := hp
  show GW κ 3 0 0 (wX q d I A) 9 [(0, .ref (q 0)), (1, .int z1), (2, .int z2)] [.int y2026]
  have b2027l := Int32.le_toInt y2026
  have b2027h := Int32.toInt_lt y2026
  exact g_iret hk hR rfl ⟨y2026, rfl, rfl⟩ dX11_query_9
def wo_k185_X3_note : List Cond := [Cond.fieldLink RX3 23 "WarpDesk$Past" "next" "I", Cond.fieldLink RX3 9 "WarpDesk$Past" "kinds" "[I", Cond.fieldLink RX3 13 "WarpDesk$Past" "firsts" "[I", Cond.fieldLink RX3 16 "WarpDesk$Past" "seconds" "[I", Cond.fieldLink RX3 19 "WarpDesk$Past" "size" "I", Cond.methodLink RX3 26 Lib.Math.min.name, Cond.static Lib.Math.min.name, Cond.initialized "java/lang/Math", Cond.code Lib.Math.min.name Lib.Math.min.code 2 (some .int)]
def wz_k185_X3_note : List Cond := .code yX3_note cX3_note 4 none :: (wo_k185_X3_note ++ (wsX30 ++ ([] : List Cond)))
theorem zg_k185_X3_note : ∀ w ∈ wz_k185_X3_note, goodWord w = true := zg_cons rfl (zg_app (by decide +kernel) (zg_app zgU_wsX30 zg_nil))
theorem zi_k185_X3_note : ∀ w ∈ wz_k185_X3_note, w ∈ lw_tbl := zi_cons zw_827 (zi_app (zi_cons zw_305 (zi_cons zw_302 (zi_cons zw_303 (zi_cons zw_304 (zi_cons zw_306 (zi_cons zw_828 (zi_cons zw_829 (zi_cons zw_120 (zi_cons zw_830 zi_nil))))))))) (zi_app inX3 zi_nil))
set_option maxHeartbeats 4000000 in
set_option maxRecDepth 100000 in
theorem k185_X3_note (l : Launch) (D : va_G) (zt : Nat × Nat × Nat × (Nat → Nat) × (Nat → Nat)) (q : Nat → Nat) (d : Nat → ClassId) (I : Nat → Int32) (A : Nat → Nat → Int32) (z1 : Int32) (z2 : Int32) (z3 : Int32) (hIv : IvX I A) : GM l D zt (tyX d) yX3_note wz_k185_X3_note ({ frames := 1, cells := 0, slots := 0, locals := 14 } : Room) [.ref (q 20), .int z1, .int z2, .int z3] (wX q d I A) (fun v _ w' => ∃ (I' : Nat → Int32) (A' : Nat → Nat → Int32), Md [20, 21] I I' ∧ Md [11, 12, 13] A A' ∧ IvX I' A' ∧ v = none ∧ w' = wX q d I' A') 0 0 := by
  refine GM.of (cc := cX3_note) (maxL := 4) (ret := none) (own := RX3) (lv := [(0, .ref (q 20)), (1, .int z1), (2, .int z2), (3, .int z3)]) (by decide) rfl rfl (Nat.le_of_ble_eq_true rfl) rfl (fun κ sz hk hR hN => ?_)
  have hin3 : ∀ w ∈ u_ws RX3 TX3 5, w ∈ wz_k185_X3_note := fun w h => (List.mem_cons_of_mem _ (List.mem_append_right _ (List.mem_append_left _ h)))
  refine g_aload_n hk dX3_note_0 rfl ?_
  refine gX_i20 (v := (I 20)) hk hin3 (List.mem_cons_of_mem _ (List.mem_append_left _ (List.mem_of_getElem? (i := 0) rfl))) dX3_note_1 rfl ?_
  have b2036l := Int32.le_toInt (I 20)
  have b2036h := Int32.toInt_lt (I 20)
  refine g_if_lt (tgt := 16) (a := (I 20).toInt) hk dX3_note_4 (by decide) rfl (fun c2037 => ?_) (fun c2037 => ?_)
  · skip
    exact g_vret hk hR ⟨I, A, (show Md [20, 21] I I from Md.rf), (show Md [11, 12, 13] A A from Md.rf), hIv, rfl, rfl⟩ dX3_note_16
  · skip
    refine g_aload_n hk dX3_note_7 rfl ?_
    refine gX_i20 (v := (I 20)) hk hin3 (List.mem_cons_of_mem _ (List.mem_append_left _ (List.mem_of_getElem? (i := 0) rfl))) dX3_note_8 rfl ?_
    refine g_bipush (v := 40) hk dX3_note_11 (by decide) ?_
    refine g_icmp_lt (tgt := 17) (a := (I 20).toInt) (b := 40) hk dX3_note_13 (by decide) rfl rfl (fun c2038 => ?_) (fun c2038 => ?_)
    · skip
      refine g_aload_n hk dX3_note_17 rfl ?_
      refine gX_r20_0 hk hin3 (List.mem_cons_of_mem _ (List.mem_append_left _ (List.mem_of_getElem? (i := 1) rfl))) dX3_note_18 ?_
      refine g_aload_n hk dX3_note_21 rfl ?_
      refine gX_i20 (v := (I 20)) hk hin3 (List.mem_cons_of_mem _ (List.mem_append_left _ (List.mem_of_getElem? (i := 0) rfl))) dX3_note_22 rfl ?_
      refine g_iload_n hk dX3_note_25 rfl ?_
      refine sX_11 (j := (I 20).toNatClampNeg) hk (vp_in_iff.mpr ⟨by omega, by omega⟩) rfl dX3_note_26 ?_
      refine g_aload_n hk dX3_note_27 rfl ?_
      refine gX_r20_1 hk hin3 (List.mem_cons_of_mem _ (List.mem_append_left _ (List.mem_of_getElem? (i := 2) rfl))) dX3_note_28 ?_
      refine g_aload_n hk dX3_note_31 rfl ?_
      refine gX_i20 (v := (I 20)) hk hin3 (List.mem_cons_of_mem _ (List.mem_append_left _ (List.mem_of_getElem? (i := 0) rfl))) dX3_note_32 rfl ?_
      refine g_iload_n hk dX3_note_35 rfl ?_
      refine sX_12 (j := (I 20).toNatClampNeg) hk (vp_in_iff.mpr ⟨by omega, by omega⟩) rfl dX3_note_36 ?_
      refine g_aload_n hk dX3_note_37 rfl ?_
      refine gX_r20_2 hk hin3 (List.mem_cons_of_mem _ (List.mem_append_left _ (List.mem_of_getElem? (i := 3) rfl))) dX3_note_38 ?_
      refine g_aload_n hk dX3_note_41 rfl ?_
      refine gX_i20 (v := (I 20)) hk hin3 (List.mem_cons_of_mem _ (List.mem_append_left _ (List.mem_of_getElem? (i := 0) rfl))) dX3_note_42 rfl ?_
      refine g_iload_n hk dX3_note_45 rfl ?_
      refine sX_13 (j := (I 20).toNatClampNeg) hk (vp_in_iff.mpr ⟨by omega, by omega⟩) rfl dX3_note_46 ?_
      refine g_aload_n hk dX3_note_47 rfl ?_
      refine g_aload_n hk dX3_note_48 rfl ?_
      refine gX_i20 (v := (I 20)) hk hin3 (List.mem_cons_of_mem _ (List.mem_append_left _ (List.mem_of_getElem? (i := 0) rfl))) dX3_note_49 rfl ?_
      refine g_bipush (v := 39) hk dX3_note_52 (by decide) ?_
      refine g_icmp_ne (tgt := 61) (a := (I 20).toInt) (b := 39) hk dX3_note_54 (by decide) rfl rfl (fun c2039 => ?_) (fun c2039 => ?_)
      · skip
        refine g_aload_n hk dX3_note_61 rfl ?_
        refine gX_i20 (v := (I 20)) hk hin3 (List.mem_cons_of_mem _ (List.mem_append_left _ (List.mem_of_getElem? (i := 0) rfl))) dX3_note_62 rfl ?_
        refine g_iconst (v := 1) hk dX3_note_65 (by decide) ?_
        refine g_iadd hk dX3_note_66 ?_
        refine g_topi (fun y2040 ey2040 => ?_)
        have hy2040 : y2040.toInt = (I 20).toInt + 1 := i32_add ey2040 rfl rfl (by omega) (by omega)
        refine pX_i20 hk hin3 (List.mem_cons_of_mem _ (List.mem_append_left _ (List.mem_of_getElem? (i := 0) rfl))) dX3_note_67 ?_
        refine g_aload_n hk dX3_note_70 rfl ?_
        refine g_aload_n hk dX3_note_71 rfl ?_
        refine gX_i21 (v := (I 21)) hk hin3 (List.mem_cons_of_mem _ (List.mem_append_left _ (List.mem_of_getElem? (i := 4) rfl))) dX3_note_72 rfl ?_
        refine g_iconst (v := 1) hk dX3_note_75 (by decide) ?_
        have b2041l := Int32.le_toInt (I 21)
        have b2041h := Int32.toInt_lt (I 21)
        refine g_iadd hk dX3_note_76 ?_
        refine g_topi (fun y2042 ey2042 => ?_)
        refine g_bipush (v := 40) hk dX3_note_77 (by decide) ?_
        have b2043l := Int32.le_toInt y2042
        have b2043h := Int32.toInt_lt y2042
        refine g_mmin hk (List.mem_cons_of_mem _ (List.mem_append_left _ (List.mem_of_getElem? (i := 5) rfl))) (List.mem_cons_of_mem _ (List.mem_append_left _ (List.mem_of_getElem? (i := 6) rfl))) (List.mem_cons_of_mem _ (List.mem_append_left _ (List.mem_of_getElem? (i := 7) rfl))) (List.mem_cons_of_mem _ (List.mem_append_left _ (List.mem_of_getElem? (i := 8) rfl))) (Nat.le_of_ble_eq_true rfl) (Nat.le_of_ble_eq_true rfl) (Nat.le_of_ble_eq_true rfl) (Nat.le_of_ble_eq_true rfl) dX3_note_79 ?_
        refine g_topi (fun y2044 ey2044 => ?_)
        have k2045 : (40 : Int32).toInt = 40 := rfl
        have hy2044 := i32_min ey2044
        refine pX_i21 hk hin3 (List.mem_cons_of_mem _ (List.mem_append_left _ (List.mem_of_getElem? (i := 4) rfl))) dX3_note_82 ?_
        exact g_vret hk hR ⟨(upd (upd I 20 y2040) 21 y2044), (up3 (up3 (up3 A 11 ((I 20).toNatClampNeg) z1) 12 ((I 20).toNatClampNeg) z2) 13 ((I 20).toNatClampNeg) z3), (show Md [20, 21] I (upd (upd I 20 y2040) 21 y2044) from (Md.up (Md.up Md.rf rfl) rfl)), (show Md [11, 12, 13] A (up3 (up3 (up3 A 11 ((I 20).toNatClampNeg) z1) 12 ((I 20).toNatClampNeg) z2) 13 ((I 20).toNatClampNeg) z3) from (Md.up3 (Md.up3 (Md.up3 Md.rf rfl) rfl) rfl)), ⟨(IvX_f0 (I := I) (A := A) hIv), (IvX_f18 (I := I) (A := A) hIv), (IvX_f30 (I := I) (A := A) hIv), (IvX_f31 (I := I) (A := A) hIv), (IvX_a4 (I := I) (A := A) hIv), (IvX_a9 (I := I) (A := A) hIv), trivial⟩, rfl, rfl⟩ dX3_note_85
      · skip
        refine g_iconst (v := 0) hk dX3_note_57 (by decide) ?_
        refine g_goto (tgt := 67) hk dX3_note_58 (by decide) ?_
        refine pX_i20 hk hin3 (List.mem_cons_of_mem _ (List.mem_append_left _ (List.mem_of_getElem? (i := 0) rfl))) dX3_note_67 ?_
        refine g_aload_n hk dX3_note_70 rfl ?_
        refine g_aload_n hk dX3_note_71 rfl ?_
        refine gX_i21 (v := (I 21)) hk hin3 (List.mem_cons_of_mem _ (List.mem_append_left _ (List.mem_of_getElem? (i := 4) rfl))) dX3_note_72 rfl ?_
        refine g_iconst (v := 1) hk dX3_note_75 (by decide) ?_
        have b2046l := Int32.le_toInt (I 21)
        have b2046h := Int32.toInt_lt (I 21)
        refine g_iadd hk dX3_note_76 ?_
        refine g_topi (fun y2047 ey2047 => ?_)
        refine g_bipush (v := 40) hk dX3_note_77 (by decide) ?_
        have b2048l := Int32.le_toInt y2047
        have b2048h := Int32.toInt_lt y2047
        refine g_mmin hk (List.mem_cons_of_mem _ (List.mem_append_left _ (List.mem_of_getElem? (i := 5) rfl))) (List.mem_cons_of_mem _ (List.mem_append_left _ (List.mem_of_getElem? (i := 6) rfl))) (List.mem_cons_of_mem _ (List.mem_append_left _ (List.mem_of_getElem? (i := 7) rfl))) (List.mem_cons_of_mem _ (List.mem_append_left _ (List.mem_of_getElem? (i := 8) rfl))) (Nat.le_of_ble_eq_true rfl) (Nat.le_of_ble_eq_true rfl) (Nat.le_of_ble_eq_true rfl) (Nat.le_of_ble_eq_true rfl) dX3_note_79 ?_
        refine g_topi (fun y2049 ey2049 => ?_)
        have k2050 : (40 : Int32).toInt = 40 := rfl
        have hy2049 := i32_min ey2049
        refine pX_i21 hk hin3 (List.mem_cons_of_mem _ (List.mem_append_left _ (List.mem_of_getElem? (i := 4) rfl))) dX3_note_82 ?_
        exact g_vret hk hR ⟨(upd (upd I 20 0) 21 y2049), (up3 (up3 (up3 A 11 ((I 20).toNatClampNeg) z1) 12 ((I 20).toNatClampNeg) z2) 13 ((I 20).toNatClampNeg) z3), (show Md [20, 21] I (upd (upd I 20 0) 21 y2049) from (Md.up (Md.up Md.rf rfl) rfl)), (show Md [11, 12, 13] A (up3 (up3 (up3 A 11 ((I 20).toNatClampNeg) z1) 12 ((I 20).toNatClampNeg) z2) 13 ((I 20).toNatClampNeg) z3) from (Md.up3 (Md.up3 (Md.up3 Md.rf rfl) rfl) rfl)), ⟨(IvX_f0 (I := I) (A := A) hIv), (IvX_f18 (I := I) (A := A) hIv), (IvX_f30 (I := I) (A := A) hIv), (IvX_f31 (I := I) (A := A) hIv), (IvX_a4 (I := I) (A := A) hIv), (IvX_a9 (I := I) (A := A) hIv), trivial⟩, rfl, rfl⟩ dX3_note_85
    · skip
      exact g_vret hk hR ⟨I, A, (show Md [20, 21] I I from Md.rf), (show Md [11, 12, 13] A A from Md.rf), hIv, rfl, rfl⟩ dX3_note_16
def wo_k184_X11_appendPlace : List Cond := [Cond.fieldLink RX11 28 "WarpDesk" "series" "LWarpDesk$Series;", Cond.methodLink RX11 130 yX6_append, Cond.instanceMethod yX6_append, Cond.selects RX6 yX6_append yX6_append, Cond.initialized RX6, Cond.fieldLink RX11 49 "WarpDesk" "past" "LWarpDesk$Past;", Cond.methodLink RX11 134 yX3_note, Cond.instanceMethod yX3_note, Cond.selects RX3 yX3_note yX3_note, Cond.initialized RX3, Cond.fieldLink RX11 138 "WarpDesk$Series" "size" "I"]
def wz_k184_X11_appendPlace : List Cond := .code yX11_appendPlace cX11_appendPlace 2 (some .int) :: (wo_k184_X11_appendPlace ++ (wsX60 ++ (wsX110 ++ (wz_k172_X6_append ++ (wz_k185_X3_note ++ ([] : List Cond))))))
theorem zg_k184_X11_appendPlace : ∀ w ∈ wz_k184_X11_appendPlace, goodWord w = true := zg_cons rfl (zg_app (by decide +kernel) (zg_app zgU_wsX60 (zg_app zgU_wsX110 (zg_app zg_k172_X6_append (zg_app zg_k185_X3_note zg_nil)))))
theorem zi_k184_X11_appendPlace : ∀ w ∈ wz_k184_X11_appendPlace, w ∈ lw_tbl := zi_cons zw_822 (zi_app (zi_cons zw_489 (zi_cons zw_823 (zi_cons zw_778 (zi_cons zw_779 (zi_cons zw_109 (zi_cons zw_492 (zi_cons zw_824 (zi_cons zw_825 (zi_cons zw_826 (zi_cons zw_110 (zi_cons zw_284 zi_nil))))))))))) (zi_app inX6 (zi_app inX11 (zi_app zi_k172_X6_append (zi_app zi_k185_X3_note zi_nil)))))
set_option maxHeartbeats 4000000 in
set_option maxRecDepth 100000 in
theorem k184_X11_appendPlace (l : Launch) (D : va_G) (zt : Nat × Nat × Nat × (Nat → Nat) × (Nat → Nat)) (q : Nat → Nat) (d : Nat → ClassId) (I : Nat → Int32) (A : Nat → Nat → Int32) (z1 : Int32) (hIv : IvX I A) : GM l D zt (tyX d) yX11_appendPlace wz_k184_X11_appendPlace ({ frames := 2, cells := 0, slots := 0, locals := 37 } : Room) [.ref (q 0), .int z1] (wX q d I A) (fun v _ w' => ∃ (I' : Nat → Int32) (A' : Nat → Nat → Int32), Md [18, 20, 21] I I' ∧ Md [7, 11, 12, 13] A A' ∧ IvX I' A' ∧ ∃ y0 : Int32, ((-1) ≤ y0.toInt) ∧ (y0.toInt ≤ 160) ∧ v = some (.int y0) ∧ w' = wX q d I' A') 0 0 := by
  refine GM.of (cc := cX11_appendPlace) (maxL := 2) (ret := (some .int)) (own := RX11) (lv := [(0, .ref (q 0)), (1, .int z1)]) (by decide) rfl rfl (Nat.le_of_ble_eq_true rfl) rfl (fun κ sz hk hR hN => ?_)
  have hin6 : ∀ w ∈ u_ws RX6 TX6 3, w ∈ wz_k184_X11_appendPlace := fun w h => (List.mem_cons_of_mem _ (List.mem_append_right _ (List.mem_append_left _ h)))
  have hin11 : ∀ w ∈ u_ws RX11 TX11 10, w ∈ wz_k184_X11_appendPlace := fun w h => (List.mem_cons_of_mem _ (List.mem_append_right _ (List.mem_append_right _ (List.mem_append_left _ h))))
  refine g_aload_n hk dX11_appendPlace_0 rfl ?_
  refine gX_r0_2 hk hin11 (List.mem_cons_of_mem _ (List.mem_append_left _ (List.mem_of_getElem? (i := 0) rfl))) dX11_appendPlace_1 ?_
  refine g_iload_n hk dX11_appendPlace_4 rfl ?_
  refine g_callV (n := 1) hk (k172_X6_append l D zt q d I A z1 hIv) (SP.same _) (fun _ h => h) (gi_V (List.mem_cons_of_mem _ (List.mem_append_left _ (List.mem_of_getElem? (i := 1) rfl))) (List.mem_cons_of_mem _ (List.mem_append_left _ (List.mem_of_getElem? (i := 2) rfl))) (List.mem_cons_of_mem _ (List.mem_append_left _ (List.mem_of_getElem? (i := 3) rfl))) (List.mem_cons_of_mem _ (List.mem_append_left _ (List.mem_of_getElem? (i := 4) rfl))) (gi_sub (fun w h => (List.mem_cons_of_mem _ (List.mem_append_right _ (List.mem_append_right _ (List.mem_append_right _ (List.mem_append_left _ h)))))) zg_k172_X6_append)) rfl rfl rfl (by decide +kernel) ⟨Nat.le_of_ble_eq_true rfl, Nat.le_of_ble_eq_true rfl⟩ 13 rfl rfl rfl rfl (Nat.le_of_ble_eq_true rfl) ⟨Nat.le_of_ble_eq_true rfl, Nat.le_of_ble_eq_true rfl⟩ dX11_appendPlace_5 (fun v ty' w' hp hk' => ?_)
  obtain ⟨I2034, A2034, hI2034, hA2034, hV2034, y2031, c2032, c2033, rfl, rfl⟩ := hp
  show GW κ 2 0 0 (wX q d I2034 A2034) 8 [(0, .ref (q 0)), (1, .int z1)] [.int y2031]
  refine g_if_ne (tgt := 13) (a := y2031.toInt) hk dX11_appendPlace_8 (by decide) rfl (fun c2035 => ?_) (fun c2035 => ?_)
  · skip
    refine g_aload_n hk dX11_appendPlace_13 rfl ?_
    refine gX_r0_5 hk hin11 (List.mem_cons_of_mem _ (List.mem_append_left _ (List.mem_of_getElem? (i := 5) rfl))) dX11_appendPlace_14 ?_
    refine g_iconst (v := 0) hk dX11_appendPlace_17 (by decide) ?_
    refine g_iconst (v := 0) hk dX11_appendPlace_18 (by decide) ?_
    refine g_iconst (v := 0) hk dX11_appendPlace_19 (by decide) ?_
    have k2051 : (0 : Int32).toInt = 0 := rfl
    refine g_callV (n := 3) hk (k185_X3_note l D zt q d I2034 A2034 0 0 0 hV2034) (SP.same _) (fun _ h => h) (gi_V (List.mem_cons_of_mem _ (List.mem_append_left _ (List.mem_of_getElem? (i := 6) rfl))) (List.mem_cons_of_mem _ (List.mem_append_left _ (List.mem_of_getElem? (i := 7) rfl))) (List.mem_cons_of_mem _ (List.mem_append_left _ (List.mem_of_getElem? (i := 8) rfl))) (List.mem_cons_of_mem _ (List.mem_append_left _ (List.mem_of_getElem? (i := 9) rfl))) (gi_sub (fun w h => (List.mem_cons_of_mem _ (List.mem_append_right _ (List.mem_append_right _ (List.mem_append_right _ (List.mem_append_right _ (List.mem_append_left _ h))))))) zg_k185_X3_note)) rfl rfl rfl (by decide +kernel) ⟨Nat.le_of_ble_eq_true rfl, Nat.le_of_ble_eq_true rfl⟩ 20 rfl rfl rfl rfl (Nat.le_of_ble_eq_true rfl) ⟨Nat.le_of_ble_eq_true rfl, Nat.le_of_ble_eq_true rfl⟩ dX11_appendPlace_20 (fun v ty' w' hp hk' => ?_)
    obtain ⟨I2053, A2053, hI2053, hA2053, hV2053, rfl, rfl⟩ := hp
    show GW κ 2 0 0 (wX q d I2053 A2053) 23 [(0, .ref (q 0)), (1, .int z1)] []
    refine g_aload_n hk dX11_appendPlace_23 rfl ?_
    refine gX_r0_2 hk hin11 (List.mem_cons_of_mem _ (List.mem_append_left _ (List.mem_of_getElem? (i := 0) rfl))) dX11_appendPlace_24 ?_
    refine gX_i18 (v := (I2034 18)) hk hin6 (List.mem_cons_of_mem _ (List.mem_append_left _ (List.mem_of_getElem? (i := 10) rfl))) dX11_appendPlace_27 (hI2053 18 rfl) ?_
    have f2054 := IvX_f18 hV2034
    exact g_iret hk hR rfl ⟨I2053, A2053, (show Md [18, 20, 21] I I2053 from (Md.tr (Md.tr Md.rf hI2034 rfl) hI2053 rfl)), (show Md [7, 11, 12, 13] A A2053 from (Md.tr (Md.tr Md.rf hA2034 rfl) hA2053 rfl)), hV2053, (I2034 18), (by omega), (by omega), rfl, rfl⟩ dX11_appendPlace_30
  · skip
    refine g_iconst (v := (-1)) hk dX11_appendPlace_11 (by decide) ?_
    exact g_iret hk hR rfl ⟨I2034, A2034, (show Md [18, 20, 21] I I2034 from (Md.tr Md.rf hI2034 rfl)), (show Md [7, 11, 12, 13] A A2034 from (Md.tr Md.rf hA2034 rfl)), hV2034, (-1), (by decide), (by decide), rfl, rfl⟩ dX11_appendPlace_12
def wo_k183_X11_push : List Cond := [Cond.methodLink RX11 127 yX11_appendPlace, Cond.instanceMethod yX11_appendPlace, Cond.selects RX11 yX11_appendPlace yX11_appendPlace, Cond.initialized RX11]
def wz_k183_X11_push : List Cond := .code yX11_push cX11_push 2 (some .int) :: (wo_k183_X11_push ++ (wz_k184_X11_appendPlace ++ ([] : List Cond)))
theorem zg_k183_X11_push : ∀ w ∈ wz_k183_X11_push, goodWord w = true := zg_cons rfl (zg_app (by decide +kernel) (zg_app zg_k184_X11_appendPlace zg_nil))
theorem zi_k183_X11_push : ∀ w ∈ wz_k183_X11_push, w ∈ lw_tbl := zi_cons zw_818 (zi_app (zi_cons zw_819 (zi_cons zw_821 (zi_cons zw_23 (zi_cons zw_103 zi_nil)))) (zi_app zi_k184_X11_appendPlace zi_nil))
set_option maxHeartbeats 4000000 in
set_option maxRecDepth 100000 in
theorem k183_X11_push (l : Launch) (D : va_G) (zt : Nat × Nat × Nat × (Nat → Nat) × (Nat → Nat)) (q : Nat → Nat) (d : Nat → ClassId) (I : Nat → Int32) (A : Nat → Nat → Int32) (z1 : Int32) (hIv : IvX I A) : GM l D zt (tyX d) yX11_push wz_k183_X11_push ({ frames := 3, cells := 0, slots := 0, locals := 58 } : Room) [.ref (q 0), .int z1] (wX q d I A) (fun v _ w' => ∃ (I' : Nat → Int32) (A' : Nat → Nat → Int32), Md [18, 20, 21] I I' ∧ Md [7, 11, 12, 13] A A' ∧ IvX I' A' ∧ ∃ y0 : Int32, ((-1) ≤ y0.toInt) ∧ (y0.toInt ≤ 160) ∧ v = some (.int y0) ∧ w' = wX q d I' A') 0 0 := by
  refine GM.of (cc := cX11_push) (maxL := 2) (ret := (some .int)) (own := RX11) (lv := [(0, .ref (q 0)), (1, .int z1)]) (by decide) rfl rfl (Nat.le_of_ble_eq_true rfl) rfl (fun κ sz hk hR hN => ?_)
  refine g_iload_n hk dX11_push_0 rfl ?_
  refine g_sipush (v := (-999)) hk dX11_push_1 (by decide) ?_
  have b2028l := Int32.le_toInt z1
  have b2028h := Int32.toInt_lt z1
  refine g_icmp_lt (tgt := 14) (a := z1.toInt) (b := (-999)) hk dX11_push_4 (by decide) rfl rfl (fun c2029 => ?_) (fun c2029 => ?_)
  · skip
    refine g_iconst (v := (-1)) hk dX11_push_14 (by decide) ?_
    exact g_iret hk hR rfl ⟨I, A, (show Md [18, 20, 21] I I from Md.rf), (show Md [7, 11, 12, 13] A A from Md.rf), hIv, (-1), (by decide), (by decide), rfl, rfl⟩ dX11_push_15
  · skip
    refine g_iload_n hk dX11_push_7 rfl ?_
    refine g_sipush (v := 999) hk dX11_push_8 (by decide) ?_
    refine g_icmp_le (tgt := 16) (a := z1.toInt) (b := 999) hk dX11_push_11 (by decide) rfl rfl (fun c2030 => ?_) (fun c2030 => ?_)
    · skip
      refine g_aload_n hk dX11_push_16 rfl ?_
      refine g_iload_n hk dX11_push_17 rfl ?_
      refine g_callV (n := 1) hk (k184_X11_appendPlace l D zt q d I A z1 hIv) (SP.same _) (fun _ h => h) (gi_V (List.mem_cons_of_mem _ (List.mem_append_left _ (List.mem_of_getElem? (i := 0) rfl))) (List.mem_cons_of_mem _ (List.mem_append_left _ (List.mem_of_getElem? (i := 1) rfl))) (List.mem_cons_of_mem _ (List.mem_append_left _ (List.mem_of_getElem? (i := 2) rfl))) (List.mem_cons_of_mem _ (List.mem_append_left _ (List.mem_of_getElem? (i := 3) rfl))) (gi_sub (fun w h => (List.mem_cons_of_mem _ (List.mem_append_right _ (List.mem_append_left _ h)))) zg_k184_X11_appendPlace)) rfl rfl rfl (by decide +kernel) ⟨Nat.le_of_ble_eq_true rfl, Nat.le_of_ble_eq_true rfl⟩ 0 rfl rfl rfl rfl (Nat.le_of_ble_eq_true rfl) ⟨Nat.le_of_ble_eq_true rfl, Nat.le_of_ble_eq_true rfl⟩ dX11_push_18 (fun v ty' w' hp hk' => ?_)
      obtain ⟨I2058, A2058, hI2058, hA2058, hV2058, y2055, c2056, c2057, rfl, rfl⟩ := hp
      show GW κ 2 0 0 (wX q d I2058 A2058) 21 [(0, .ref (q 0)), (1, .int z1)] [.int y2055]
      exact g_iret hk hR rfl ⟨I2058, A2058, (show Md [18, 20, 21] I I2058 from (Md.tr Md.rf hI2058 rfl)), (show Md [7, 11, 12, 13] A A2058 from (Md.tr Md.rf hA2058 rfl)), hV2058, y2055, (by omega), (by omega), rfl, rfl⟩ dX11_push_21
    · skip
      refine g_iconst (v := (-1)) hk dX11_push_14 (by decide) ?_
      exact g_iret hk hR rfl ⟨I, A, (show Md [18, 20, 21] I I from Md.rf), (show Md [7, 11, 12, 13] A A from Md.rf), hIv, (-1), (by decide), (by decide), rfl, rfl⟩ dX11_push_15
def wo_k186_X11_gap : List Cond := [Cond.methodLink RX11 127 yX11_appendPlace, Cond.instanceMethod yX11_appendPlace, Cond.selects RX11 yX11_appendPlace yX11_appendPlace, Cond.initialized RX11]
def wz_k186_X11_gap : List Cond := .code yX11_gap cX11_gap 1 (some .int) :: (wo_k186_X11_gap ++ (wz_k184_X11_appendPlace ++ ([] : List Cond)))
theorem zg_k186_X11_gap : ∀ w ∈ wz_k186_X11_gap, goodWord w = true := zg_cons rfl (zg_app (by decide +kernel) (zg_app zg_k184_X11_appendPlace zg_nil))
theorem zi_k186_X11_gap : ∀ w ∈ wz_k186_X11_gap, w ∈ lw_tbl := zi_cons zw_834 (zi_app (zi_cons zw_819 (zi_cons zw_821 (zi_cons zw_23 (zi_cons zw_103 zi_nil)))) (zi_app zi_k184_X11_appendPlace zi_nil))
set_option maxHeartbeats 4000000 in
set_option maxRecDepth 100000 in
theorem k186_X11_gap (l : Launch) (D : va_G) (zt : Nat × Nat × Nat × (Nat → Nat) × (Nat → Nat)) (q : Nat → Nat) (d : Nat → ClassId) (I : Nat → Int32) (A : Nat → Nat → Int32) (hIv : IvX I A) : GM l D zt (tyX d) yX11_gap wz_k186_X11_gap ({ frames := 3, cells := 0, slots := 0, locals := 58 } : Room) [.ref (q 0)] (wX q d I A) (fun v _ w' => ∃ (I' : Nat → Int32) (A' : Nat → Nat → Int32), Md [18, 20, 21] I I' ∧ Md [7, 11, 12, 13] A A' ∧ IvX I' A' ∧ ∃ y0 : Int32, ((-1) ≤ y0.toInt) ∧ (y0.toInt ≤ 160) ∧ v = some (.int y0) ∧ w' = wX q d I' A') 0 0 := by
  refine GM.of (cc := cX11_gap) (maxL := 1) (ret := (some .int)) (own := RX11) (lv := [(0, .ref (q 0))]) (by decide) rfl rfl (Nat.le_of_ble_eq_true rfl) rfl (fun κ sz hk hR hN => ?_)
  refine g_aload_n hk dX11_gap_0 rfl ?_
  refine g_sipush (v := (-1000)) hk dX11_gap_1 (by decide) ?_
  have k2059 : ((-1000) : Int32).toInt = (-1000) := rfl
  refine g_callV (n := 1) hk (k184_X11_appendPlace l D zt q d I A (-1000) hIv) (SP.same _) (fun _ h => h) (gi_V (List.mem_cons_of_mem _ (List.mem_append_left _ (List.mem_of_getElem? (i := 0) rfl))) (List.mem_cons_of_mem _ (List.mem_append_left _ (List.mem_of_getElem? (i := 1) rfl))) (List.mem_cons_of_mem _ (List.mem_append_left _ (List.mem_of_getElem? (i := 2) rfl))) (List.mem_cons_of_mem _ (List.mem_append_left _ (List.mem_of_getElem? (i := 3) rfl))) (gi_sub (fun w h => (List.mem_cons_of_mem _ (List.mem_append_right _ (List.mem_append_left _ h)))) zg_k184_X11_appendPlace)) rfl rfl rfl (by decide +kernel) ⟨Nat.le_of_ble_eq_true rfl, Nat.le_of_ble_eq_true rfl⟩ 0 rfl rfl rfl rfl (Nat.le_of_ble_eq_true rfl) ⟨Nat.le_of_ble_eq_true rfl, Nat.le_of_ble_eq_true rfl⟩ dX11_gap_4 (fun v ty' w' hp hk' => ?_)
  obtain ⟨I2063, A2063, hI2063, hA2063, hV2063, y2060, c2061, c2062, rfl, rfl⟩ := hp
  show GW κ 1 0 0 (wX q d I2063 A2063) 7 [(0, .ref (q 0))] [.int y2060]
  exact g_iret hk hR rfl ⟨I2063, A2063, (show Md [18, 20, 21] I I2063 from (Md.tr Md.rf hI2063 rfl)), (show Md [7, 11, 12, 13] A A2063 from (Md.tr Md.rf hA2063 rfl)), hV2063, y2060, (by omega), (by omega), rfl, rfl⟩ dX11_gap_7
def wo_k188_X6_hasReading : List Cond := [Cond.methodLink RX6 33 yX6_valueAt, Cond.instanceMethod yX6_valueAt, Cond.selects RX6 yX6_valueAt yX6_valueAt, Cond.initialized RX6]
def wz_k188_X6_hasReading : List Cond := .code yX6_hasReading cX6_hasReading 2 (some .boolean) :: (wo_k188_X6_hasReading ++ (wz_k179_X6_valueAt ++ ([] : List Cond)))
theorem zg_k188_X6_hasReading : ∀ w ∈ wz_k188_X6_hasReading, goodWord w = true := zg_cons rfl (zg_app (by decide +kernel) (zg_app zg_k179_X6_valueAt zg_nil))
theorem zi_k188_X6_hasReading : ∀ w ∈ wz_k188_X6_hasReading, w ∈ lw_tbl := zi_cons zw_842 (zi_app (zi_cons zw_843 (zi_cons zw_807 (zi_cons zw_808 (zi_cons zw_109 zi_nil)))) (zi_app zi_k179_X6_valueAt zi_nil))
set_option maxHeartbeats 4000000 in
set_option maxRecDepth 100000 in
theorem k188_X6_hasReading (l : Launch) (D : va_G) (zt : Nat × Nat × Nat × (Nat → Nat) × (Nat → Nat)) (q : Nat → Nat) (d : Nat → ClassId) (I : Nat → Int32) (A : Nat → Nat → Int32) (z1 : Int32) (hIv : IvX I A) : GM l D zt (tyX d) yX6_hasReading wz_k188_X6_hasReading ({ frames := 1, cells := 0, slots := 0, locals := 21 } : Room) [.ref (q 13), .int z1] (wX q d I A) (fun v _ w' => (v = some (.int 0) ∧ w' = wX q d I A) ∨ (v = some (.int 1) ∧ w' = wX q d I A)) 0 0 := by
  refine GM.of (cc := cX6_hasReading) (maxL := 2) (ret := (some .boolean)) (own := RX6) (lv := [(0, .ref (q 13)), (1, .int z1)]) (by decide) rfl rfl (Nat.le_of_ble_eq_true rfl) rfl (fun κ sz hk hR hN => ?_)
  refine g_aload_n hk dX6_hasReading_0 rfl ?_
  refine g_iload_n hk dX6_hasReading_1 rfl ?_
  refine g_callV (n := 1) hk (k179_X6_valueAt l D zt q d I A z1 hIv) (SP.same _) (fun _ h => h) (gi_V (List.mem_cons_of_mem _ (List.mem_append_left _ (List.mem_of_getElem? (i := 0) rfl))) (List.mem_cons_of_mem _ (List.mem_append_left _ (List.mem_of_getElem? (i := 1) rfl))) (List.mem_cons_of_mem _ (List.mem_append_left _ (List.mem_of_getElem? (i := 2) rfl))) (List.mem_cons_of_mem _ (List.mem_append_left _ (List.mem_of_getElem? (i := 3) rfl))) (gi_sub (fun w h => (List.mem_cons_of_mem _ (List.mem_append_right _ (List.mem_append_left _ h)))) zg_k179_X6_valueAt)) rfl rfl rfl (by decide +kernel) ⟨Nat.le_of_ble_eq_true rfl, Nat.le_of_ble_eq_true rfl⟩ 13 rfl rfl rfl rfl (Nat.le_of_ble_eq_true rfl) ⟨Nat.le_of_ble_eq_true rfl, Nat.le_of_ble_eq_true rfl⟩ dX6_hasReading_2 (fun v ty' w' hp hk' => ?_)
  obtain ⟨y2069, rfl, rfl⟩ := hp
  show GW κ 2 0 0 (wX q d I A) 5 [(0, .ref (q 13)), (1, .int z1)] [.int y2069]
  refine g_sipush (v := (-1000)) hk dX6_hasReading_5 (by decide) ?_
  have b2070l := Int32.le_toInt y2069
  have b2070h := Int32.toInt_lt y2069
  refine g_icmp_eq (tgt := 15) (a := y2069.toInt) (b := (-1000)) hk dX6_hasReading_8 (by decide) rfl rfl (fun c2071 => ?_) (fun c2071 => ?_)
  · skip
    refine g_iconst (v := 0) hk dX6_hasReading_15 (by decide) ?_
    exact g_iret hk hR rfl (Or.inl ⟨rfl, rfl⟩) dX6_hasReading_16
  · skip
    refine g_iconst (v := 1) hk dX6_hasReading_11 (by decide) ?_
    refine g_goto (tgt := 16) hk dX6_hasReading_12 (by decide) ?_
    exact g_iret hk hR rfl (Or.inr (⟨rfl, rfl⟩)) dX6_hasReading_16
def wo_k189_J9_floorDiv_7cf53 : List Cond := []
def wz_k189_J9_floorDiv_7cf53 : List Cond := .code yJ9_floorDiv_7cf53 cJ9_floorDiv_7cf53 3 (some .int) :: (wo_k189_J9_floorDiv_7cf53 ++ ([] : List Cond))
theorem zg_k189_J9_floorDiv_7cf53 : ∀ w ∈ wz_k189_J9_floorDiv_7cf53, goodWord w = true := zg_cons rfl (zg_app (by decide +kernel) zg_nil)
theorem zi_k189_J9_floorDiv_7cf53 : ∀ w ∈ wz_k189_J9_floorDiv_7cf53, w ∈ lw_tbl := zi_cons zw_846 (zi_app zi_nil zi_nil)
set_option maxHeartbeats 4000000 in
set_option maxRecDepth 100000 in
theorem k189_J9_floorDiv_7cf53 (l : Launch) (D : va_G) (zt : Nat × Nat × Nat × (Nat → Nat) × (Nat → Nat)) (q : Nat → Nat) (d : Nat → ClassId) (I : Nat → Int32) (A : Nat → Nat → Int32) (z0 : Int32) (z1 : Int32) (hIv : IvX I A) (hp0 : 1 ≤ z1.toInt) : GM l D zt (tyX d) yJ9_floorDiv_7cf53 wz_k189_J9_floorDiv_7cf53 ({ frames := 0, cells := 0, slots := 0, locals := 0 } : Room) [.int z0, .int z1] (wX q d I A) (fun v _ w' => ∃ y0 : Int32, v = some (.int y0) ∧ w' = wX q d I A) 0 0 := by
  refine GM.of (cc := cJ9_floorDiv_7cf53) (maxL := 3) (ret := (some .int)) (own := RJ9) (lv := [(0, .int z0), (1, .int z1)]) (by decide) rfl rfl (Nat.le_of_ble_eq_true rfl) rfl (fun κ sz hk hR hN => ?_)
  refine g_iload_n hk dJ9_floorDiv_7cf53_0 rfl ?_
  refine g_iload_n hk dJ9_floorDiv_7cf53_1 rfl ?_
  have b2087l := Int32.le_toInt z1
  have b2087h := Int32.toInt_lt z1
  refine g_idiv hk dJ9_floorDiv_7cf53_2 (i32_ne0 (by omega)) ?_
  refine g_topi (fun y2088 ey2088 => ?_)
  refine g_istore_n (lv' := [(2, .int y2088), (0, .int z0), (1, .int z1)]) hk dJ9_floorDiv_7cf53_3 (by decide) rfl ?_
  refine g_iload_n hk dJ9_floorDiv_7cf53_4 rfl ?_
  refine g_iload_n hk dJ9_floorDiv_7cf53_5 rfl ?_
  have b2089l := Int32.le_toInt z0
  have b2089h := Int32.toInt_lt z0
  refine g_ixor hk dJ9_floorDiv_7cf53_6 ?_
  refine g_topi (fun y2090 ey2090 => ?_)
  have b2091l := Int32.le_toInt y2090
  have b2091h := Int32.toInt_lt y2090
  refine g_if_ge (tgt := 21) (a := y2090.toInt) hk dJ9_floorDiv_7cf53_7 (by decide) rfl (fun c2092 => ?_) (fun c2092 => ?_)
  · skip
    refine g_iload_n hk dJ9_floorDiv_7cf53_21 rfl ?_
    have b2093l := Int32.le_toInt y2088
    have b2093h := Int32.toInt_lt y2088
    exact g_iret hk hR rfl ⟨y2088, rfl, rfl⟩ dJ9_floorDiv_7cf53_22
  · skip
    refine g_iload_n hk dJ9_floorDiv_7cf53_10 rfl ?_
    refine g_iload_n hk dJ9_floorDiv_7cf53_11 rfl ?_
    have b2094l := Int32.le_toInt y2088
    have b2094h := Int32.toInt_lt y2088
    refine g_imul hk dJ9_floorDiv_7cf53_12 ?_
    refine g_topi (fun y2095 ey2095 => ?_)
    refine g_iload_n hk dJ9_floorDiv_7cf53_13 rfl ?_
    have b2096l := Int32.le_toInt y2095
    have b2096h := Int32.toInt_lt y2095
    refine g_icmp_eq (tgt := 21) (a := y2095.toInt) (b := z0.toInt) hk dJ9_floorDiv_7cf53_14 (by decide) rfl rfl (fun c2097 => ?_) (fun c2097 => ?_)
    · skip
      refine g_iload_n hk dJ9_floorDiv_7cf53_21 rfl ?_
      exact g_iret hk hR rfl ⟨y2088, rfl, rfl⟩ dJ9_floorDiv_7cf53_22
    · skip
      refine g_iload_n hk dJ9_floorDiv_7cf53_17 rfl ?_
      refine g_iconst (v := 1) hk dJ9_floorDiv_7cf53_18 (by decide) ?_
      refine g_isub hk dJ9_floorDiv_7cf53_19 ?_
      refine g_topi (fun y2098 ey2098 => ?_)
      have hy2098 := i32_sub0 ey2098
      have b2099l := Int32.le_toInt y2098
      have b2099h := Int32.toInt_lt y2098
      exact g_iret hk hR rfl ⟨y2098, rfl, rfl⟩ dJ9_floorDiv_7cf53_20
def wo_k190_X6_putAt : List Cond := [Cond.fieldLink RX6 19 "WarpDesk$Series" "size" "I", Cond.fieldLink RX6 11 "WarpDesk$Series" "ring" "[I", Cond.fieldLink RX6 15 "WarpDesk$Series" "first" "I"]
def wz_k190_X6_putAt : List Cond := .code yX6_putAt cX6_putAt 3 none :: (wo_k190_X6_putAt ++ (wsX60 ++ ([] : List Cond)))
theorem zg_k190_X6_putAt : ∀ w ∈ wz_k190_X6_putAt, goodWord w = true := zg_cons rfl (zg_app (by decide +kernel) (zg_app zgU_wsX60 zg_nil))
theorem zi_k190_X6_putAt : ∀ w ∈ wz_k190_X6_putAt, w ∈ lw_tbl := zi_cons zw_850 (zi_app (zi_cons zw_282 (zi_cons zw_280 (zi_cons zw_281 zi_nil))) (zi_app inX6 zi_nil))
set_option maxHeartbeats 4000000 in
set_option maxRecDepth 100000 in
theorem k190_X6_putAt (l : Launch) (D : va_G) (zt : Nat × Nat × Nat × (Nat → Nat) × (Nat → Nat)) (q : Nat → Nat) (d : Nat → ClassId) (I : Nat → Int32) (A : Nat → Nat → Int32) (z1 : Int32) (z2 : Int32) (hIv : IvX I A) : GM l D zt (tyX d) yX6_putAt wz_k190_X6_putAt ({ frames := 0, cells := 0, slots := 0, locals := 0 } : Room) [.ref (q 13), .int z1, .int z2] (wX q d I A) (fun v _ w' => ∃ (I' : Nat → Int32) (A' : Nat → Nat → Int32), Md [] I I' ∧ Md [7] A A' ∧ IvX I' A' ∧ v = none ∧ w' = wX q d I' A') 0 0 := by
  refine GM.of (cc := cX6_putAt) (maxL := 3) (ret := none) (own := RX6) (lv := [(0, .ref (q 13)), (1, .int z1), (2, .int z2)]) (by decide) rfl rfl (Nat.le_of_ble_eq_true rfl) rfl (fun κ sz hk hR hN => ?_)
  have hin6 : ∀ w ∈ u_ws RX6 TX6 3, w ∈ wz_k190_X6_putAt := fun w h => (List.mem_cons_of_mem _ (List.mem_append_right _ (List.mem_append_left _ h)))
  refine g_iload_n hk dX6_putAt_0 rfl ?_
  have b2102l := Int32.le_toInt z1
  have b2102h := Int32.toInt_lt z1
  refine g_if_lt (tgt := 28) (a := z1.toInt) hk dX6_putAt_1 (by decide) rfl (fun c2103 => ?_) (fun c2103 => ?_)
  · skip
    exact g_vret hk hR ⟨I, A, (show Md [] I I from Md.rf), (show Md [7] A A from Md.rf), hIv, rfl, rfl⟩ dX6_putAt_28
  · skip
    refine g_iload_n hk dX6_putAt_4 rfl ?_
    refine g_aload_n hk dX6_putAt_5 rfl ?_
    refine gX_i18 (v := (I 18)) hk hin6 (List.mem_cons_of_mem _ (List.mem_append_left _ (List.mem_of_getElem? (i := 0) rfl))) dX6_putAt_6 rfl ?_
    have f2104 := IvX_f18 hIv
    refine g_icmp_ge (tgt := 28) (a := z1.toInt) (b := (I 18).toInt) hk dX6_putAt_9 (by decide) rfl rfl (fun c2105 => ?_) (fun c2105 => ?_)
    · skip
      exact g_vret hk hR ⟨I, A, (show Md [] I I from Md.rf), (show Md [7] A A from Md.rf), hIv, rfl, rfl⟩ dX6_putAt_28
    · skip
      refine g_aload_n hk dX6_putAt_12 rfl ?_
      refine gX_r13_0 hk hin6 (List.mem_cons_of_mem _ (List.mem_append_left _ (List.mem_of_getElem? (i := 1) rfl))) dX6_putAt_13 ?_
      refine g_aload_n hk dX6_putAt_16 rfl ?_
      refine gX_i17 (v := (I 17)) hk hin6 (List.mem_cons_of_mem _ (List.mem_append_left _ (List.mem_of_getElem? (i := 2) rfl))) dX6_putAt_17 rfl ?_
      refine g_iload_n hk dX6_putAt_20 rfl ?_
      have b2106l := Int32.le_toInt (I 17)
      have b2106h := Int32.toInt_lt (I 17)
      refine g_iadd hk dX6_putAt_21 ?_
      refine g_topi (fun y2107 ey2107 => ?_)
      refine g_sipush (v := 255) hk dX6_putAt_22 (by decide) ?_
      have b2108l := Int32.le_toInt y2107
      have b2108h := Int32.toInt_lt y2107
      refine g_iand hk dX6_putAt_25 ?_
      refine g_topi (fun y2109 ey2109 => ?_)
      have hy2109 : 0 ≤ y2109.toInt ∧ y2109.toInt ≤ 255 := i32_mask 8 ey2109 (by decide) (by decide)
      refine g_iload_n hk dX6_putAt_26 rfl ?_
      refine sX_7 (j := y2109.toNatClampNeg) hk (vp_in_iff.mpr ⟨by omega, by omega⟩) rfl dX6_putAt_27 ?_
      exact g_vret hk hR ⟨I, (up3 A 7 (y2109.toNatClampNeg) z2), (show Md [] I I from Md.rf), (show Md [7] A (up3 A 7 (y2109.toNatClampNeg) z2) from (Md.up3 Md.rf rfl)), ⟨(IvX_f0 (I := I) (A := A) hIv), (IvX_f18 (I := I) (A := A) hIv), (IvX_f30 (I := I) (A := A) hIv), (IvX_f31 (I := I) (A := A) hIv), (IvX_a4 (I := I) (A := A) hIv), (IvX_a9 (I := I) (A := A) hIv), trivial⟩, rfl, rfl⟩ dX6_putAt_28
def wo_k187_X11_mend : List Cond := [Cond.fieldLink RX11 28 "WarpDesk" "series" "LWarpDesk$Series;", Cond.fieldLink RX11 138 "WarpDesk$Series" "size" "I", Cond.methodLink RX11 139 yX6_hasReading, Cond.instanceMethod yX6_hasReading, Cond.selects RX6 yX6_hasReading yX6_hasReading, Cond.initialized RX6, Cond.methodLink RX11 120 yX6_valueAt, Cond.instanceMethod yX6_valueAt, Cond.selects RX6 yX6_valueAt yX6_valueAt, Cond.methodLink RX11 142 yJ9_floorDiv_7cf53, Cond.static yJ9_floorDiv_7cf53, Cond.initialized RJ9, Cond.methodLink RX11 147 yX6_putAt, Cond.instanceMethod yX6_putAt, Cond.selects RX6 yX6_putAt yX6_putAt, Cond.fieldLink RX11 49 "WarpDesk" "past" "LWarpDesk$Past;", Cond.methodLink RX11 134 yX3_note, Cond.instanceMethod yX3_note, Cond.selects RX3 yX3_note yX3_note, Cond.initialized RX3]
def wz_k187_X11_mend : List Cond := .code yX11_mend cX11_mend 3 (some .int) :: (wo_k187_X11_mend ++ (wsX60 ++ (wsX110 ++ (wz_k188_X6_hasReading ++ (wz_k179_X6_valueAt ++ (wz_k189_J9_floorDiv_7cf53 ++ (wz_k190_X6_putAt ++ (wz_k185_X3_note ++ ([] : List Cond)))))))))
theorem zg_k187_X11_mend : ∀ w ∈ wz_k187_X11_mend, goodWord w = true := zg_cons rfl (zg_app (by decide +kernel) (zg_app zgU_wsX60 (zg_app zgU_wsX110 (zg_app zg_k188_X6_hasReading (zg_app zg_k179_X6_valueAt (zg_app zg_k189_J9_floorDiv_7cf53 (zg_app zg_k190_X6_putAt (zg_app zg_k185_X3_note zg_nil))))))))
theorem zi_k187_X11_mend : ∀ w ∈ wz_k187_X11_mend, w ∈ lw_tbl := zi_cons zw_838 (zi_app (zi_cons zw_489 (zi_cons zw_284 (zi_cons zw_839 (zi_cons zw_840 (zi_cons zw_841 (zi_cons zw_109 (zi_cons zw_806 (zi_cons zw_807 (zi_cons zw_808 (zi_cons zw_844 (zi_cons zw_845 (zi_cons zw_120 (zi_cons zw_847 (zi_cons zw_848 (zi_cons zw_849 (zi_cons zw_492 (zi_cons zw_824 (zi_cons zw_825 (zi_cons zw_826 (zi_cons zw_110 zi_nil)))))))))))))))))))) (zi_app inX6 (zi_app inX11 (zi_app zi_k188_X6_hasReading (zi_app zi_k179_X6_valueAt (zi_app zi_k189_J9_floorDiv_7cf53 (zi_app zi_k190_X6_putAt (zi_app zi_k185_X3_note zi_nil))))))))
set_option maxHeartbeats 4000000 in
set_option maxRecDepth 100000 in
theorem k187_X11_mend (l : Launch) (D : va_G) (zt : Nat × Nat × Nat × (Nat → Nat) × (Nat → Nat)) (q : Nat → Nat) (d : Nat → ClassId) (I : Nat → Int32) (A : Nat → Nat → Int32) (z1 : Int32) (hIv : IvX I A) : GM l D zt (tyX d) yX11_mend wz_k187_X11_mend ({ frames := 2, cells := 0, slots := 0, locals := 42 } : Room) [.ref (q 0), .int z1] (wX q d I A) (fun v _ w' => ∃ (I' : Nat → Int32) (A' : Nat → Nat → Int32), Md [20, 21] I I' ∧ Md [7, 11, 12, 13] A A' ∧ IvX I' A' ∧ ∃ y0 : Int32, v = some (.int y0) ∧ w' = wX q d I' A') 0 0 := by
  refine GM.of (cc := cX11_mend) (maxL := 3) (ret := (some .int)) (own := RX11) (lv := [(0, .ref (q 0)), (1, .int z1)]) (by decide) rfl rfl (Nat.le_of_ble_eq_true rfl) rfl (fun κ sz hk hR hN => ?_)
  have hin6 : ∀ w ∈ u_ws RX6 TX6 3, w ∈ wz_k187_X11_mend := fun w h => (List.mem_cons_of_mem _ (List.mem_append_right _ (List.mem_append_left _ h)))
  have hin11 : ∀ w ∈ u_ws RX11 TX11 10, w ∈ wz_k187_X11_mend := fun w h => (List.mem_cons_of_mem _ (List.mem_append_right _ (List.mem_append_right _ (List.mem_append_left _ h))))
  refine g_iload_n hk dX11_mend_0 rfl ?_
  refine g_iconst (v := 1) hk dX11_mend_1 (by decide) ?_
  have b2064l := Int32.le_toInt z1
  have b2064h := Int32.toInt_lt z1
  refine g_icmp_lt (tgt := 29) (a := z1.toInt) (b := 1) hk dX11_mend_2 (by decide) rfl rfl (fun c2065 => ?_) (fun c2065 => ?_)
  · skip
    refine g_sipush (v := (-1000)) hk dX11_mend_29 (by decide) ?_
    exact g_iret hk hR rfl ⟨I, A, (show Md [20, 21] I I from Md.rf), (show Md [7, 11, 12, 13] A A from Md.rf), hIv, (-1000), rfl, rfl⟩ dX11_mend_32
  · skip
    refine g_iload_n hk dX11_mend_5 rfl ?_
    refine g_aload_n hk dX11_mend_6 rfl ?_
    refine gX_r0_2 hk hin11 (List.mem_cons_of_mem _ (List.mem_append_left _ (List.mem_of_getElem? (i := 0) rfl))) dX11_mend_7 ?_
    refine gX_i18 (v := (I 18)) hk hin6 (List.mem_cons_of_mem _ (List.mem_append_left _ (List.mem_of_getElem? (i := 1) rfl))) dX11_mend_10 rfl ?_
    have f2066 := IvX_f18 hIv
    refine g_iconst (v := 1) hk dX11_mend_13 (by decide) ?_
    refine g_isub hk dX11_mend_14 ?_
    refine g_topi (fun y2067 ey2067 => ?_)
    have hy2067 : y2067.toInt = (I 18).toInt - 1 := i32_sub ey2067 rfl rfl (by omega) (by omega)
    refine g_icmp_ge (tgt := 29) (a := z1.toInt) (b := y2067.toInt) hk dX11_mend_15 (by decide) rfl rfl (fun c2068 => ?_) (fun c2068 => ?_)
    · skip
      refine g_sipush (v := (-1000)) hk dX11_mend_29 (by decide) ?_
      exact g_iret hk hR rfl ⟨I, A, (show Md [20, 21] I I from Md.rf), (show Md [7, 11, 12, 13] A A from Md.rf), hIv, (-1000), rfl, rfl⟩ dX11_mend_32
    · skip
      refine g_aload_n hk dX11_mend_18 rfl ?_
      refine gX_r0_2 hk hin11 (List.mem_cons_of_mem _ (List.mem_append_left _ (List.mem_of_getElem? (i := 0) rfl))) dX11_mend_19 ?_
      refine g_iload_n hk dX11_mend_22 rfl ?_
      refine g_callV (n := 1) hk (k188_X6_hasReading l D zt q d I A z1 hIv) (SP.same _) (fun _ h => h) (gi_V (List.mem_cons_of_mem _ (List.mem_append_left _ (List.mem_of_getElem? (i := 2) rfl))) (List.mem_cons_of_mem _ (List.mem_append_left _ (List.mem_of_getElem? (i := 3) rfl))) (List.mem_cons_of_mem _ (List.mem_append_left _ (List.mem_of_getElem? (i := 4) rfl))) (List.mem_cons_of_mem _ (List.mem_append_left _ (List.mem_of_getElem? (i := 5) rfl))) (gi_sub (fun w h => (List.mem_cons_of_mem _ (List.mem_append_right _ (List.mem_append_right _ (List.mem_append_right _ (List.mem_append_left _ h)))))) zg_k188_X6_hasReading)) rfl rfl rfl (by decide +kernel) ⟨Nat.le_of_ble_eq_true rfl, Nat.le_of_ble_eq_true rfl⟩ 13 rfl rfl rfl rfl (Nat.le_of_ble_eq_true rfl) ⟨Nat.le_of_ble_eq_true rfl, Nat.le_of_ble_eq_true rfl⟩ dX11_mend_23 (fun v ty' w' hp hk' => ?_)
      rcases hp with ⟨rfl, rfl⟩ | ⟨rfl, rfl⟩
      · skip
        show GW κ 3 0 0 (wX q d I A) 26 [(0, .ref (q 0)), (1, .int z1)] [.int 0]
        refine g_if_eq (tgt := 33) (a := 0) hk dX11_mend_26 (by decide) rfl (fun _ => ?_) (fun z9 => absurd (show (0 : Int) = (0 : Int) from by decide) z9)
        refine g_aload_n hk dX11_mend_33 rfl ?_
        refine gX_r0_2 hk hin11 (List.mem_cons_of_mem _ (List.mem_append_left _ (List.mem_of_getElem? (i := 0) rfl))) dX11_mend_34 ?_
        refine g_iload_n hk dX11_mend_37 rfl ?_
        refine g_iconst (v := 1) hk dX11_mend_38 (by decide) ?_
        refine g_isub hk dX11_mend_39 ?_
        refine g_topi (fun y2074 ey2074 => ?_)
        have hy2074 : y2074.toInt = z1.toInt - 1 := i32_sub ey2074 rfl rfl (by omega) (by omega)
        refine g_callV (n := 1) hk (k188_X6_hasReading l D zt q d I A y2074 hIv) (SP.same _) (fun _ h => h) (gi_V (List.mem_cons_of_mem _ (List.mem_append_left _ (List.mem_of_getElem? (i := 2) rfl))) (List.mem_cons_of_mem _ (List.mem_append_left _ (List.mem_of_getElem? (i := 3) rfl))) (List.mem_cons_of_mem _ (List.mem_append_left _ (List.mem_of_getElem? (i := 4) rfl))) (List.mem_cons_of_mem _ (List.mem_append_left _ (List.mem_of_getElem? (i := 5) rfl))) (gi_sub (fun w h => (List.mem_cons_of_mem _ (List.mem_append_right _ (List.mem_append_right _ (List.mem_append_right _ (List.mem_append_left _ h)))))) zg_k188_X6_hasReading)) rfl rfl rfl (by decide +kernel) ⟨Nat.le_of_ble_eq_true rfl, Nat.le_of_ble_eq_true rfl⟩ 13 rfl rfl rfl rfl (Nat.le_of_ble_eq_true rfl) ⟨Nat.le_of_ble_eq_true rfl, Nat.le_of_ble_eq_true rfl⟩ dX11_mend_40 (fun v ty' w' hp hk' => ?_)
        rcases hp with ⟨rfl, rfl⟩ | ⟨rfl, rfl⟩
        · skip
          show GW κ 3 0 0 (wX q d I A) 43 [(0, .ref (q 0)), (1, .int z1)] [.int 0]
          refine g_if_eq (tgt := 59) (a := 0) hk dX11_mend_43 (by decide) rfl (fun _ => ?_) (fun z9 => absurd (show (0 : Int) = (0 : Int) from by decide) z9)
          refine g_sipush (v := (-1000)) hk dX11_mend_59 (by decide) ?_
          exact g_iret hk hR rfl ⟨I, A, (show Md [20, 21] I I from Md.rf), (show Md [7, 11, 12, 13] A A from Md.rf), hIv, (-1000), rfl, rfl⟩ dX11_mend_62
        · skip
          show GW κ 3 0 0 (wX q d I A) 43 [(0, .ref (q 0)), (1, .int z1)] [.int 1]
          refine g_if_eq (tgt := 59) (a := 1) hk dX11_mend_43 (by decide) rfl (fun z9 => absurd z9 (show ¬ ((1 : Int) = (0 : Int)) from by decide)) (fun _ => ?_)
          refine g_aload_n hk dX11_mend_46 rfl ?_
          refine gX_r0_2 hk hin11 (List.mem_cons_of_mem _ (List.mem_append_left _ (List.mem_of_getElem? (i := 0) rfl))) dX11_mend_47 ?_
          refine g_iload_n hk dX11_mend_50 rfl ?_
          refine g_iconst (v := 1) hk dX11_mend_51 (by decide) ?_
          refine g_iadd hk dX11_mend_52 ?_
          refine g_topi (fun y2077 ey2077 => ?_)
          have hy2077 : y2077.toInt = z1.toInt + 1 := i32_add ey2077 rfl rfl (by omega) (by omega)
          refine g_callV (n := 1) hk (k188_X6_hasReading l D zt q d I A y2077 hIv) (SP.same _) (fun _ h => h) (gi_V (List.mem_cons_of_mem _ (List.mem_append_left _ (List.mem_of_getElem? (i := 2) rfl))) (List.mem_cons_of_mem _ (List.mem_append_left _ (List.mem_of_getElem? (i := 3) rfl))) (List.mem_cons_of_mem _ (List.mem_append_left _ (List.mem_of_getElem? (i := 4) rfl))) (List.mem_cons_of_mem _ (List.mem_append_left _ (List.mem_of_getElem? (i := 5) rfl))) (gi_sub (fun w h => (List.mem_cons_of_mem _ (List.mem_append_right _ (List.mem_append_right _ (List.mem_append_right _ (List.mem_append_left _ h)))))) zg_k188_X6_hasReading)) rfl rfl rfl (by decide +kernel) ⟨Nat.le_of_ble_eq_true rfl, Nat.le_of_ble_eq_true rfl⟩ 13 rfl rfl rfl rfl (Nat.le_of_ble_eq_true rfl) ⟨Nat.le_of_ble_eq_true rfl, Nat.le_of_ble_eq_true rfl⟩ dX11_mend_53 (fun v ty' w' hp hk' => ?_)
          rcases hp with ⟨rfl, rfl⟩ | ⟨rfl, rfl⟩
          · skip
            show GW κ 3 0 0 (wX q d I A) 56 [(0, .ref (q 0)), (1, .int z1)] [.int 0]
            refine g_if_ne (tgt := 63) (a := 0) hk dX11_mend_56 (by decide) rfl (fun z9 => absurd z9 (show ¬ ((0 : Int) ≠ (0 : Int)) from by decide)) (fun _ => ?_)
            refine g_sipush (v := (-1000)) hk dX11_mend_59 (by decide) ?_
            exact g_iret hk hR rfl ⟨I, A, (show Md [20, 21] I I from Md.rf), (show Md [7, 11, 12, 13] A A from Md.rf), hIv, (-1000), rfl, rfl⟩ dX11_mend_62
          · skip
            show GW κ 3 0 0 (wX q d I A) 56 [(0, .ref (q 0)), (1, .int z1)] [.int 1]
            refine g_if_ne (tgt := 63) (a := 1) hk dX11_mend_56 (by decide) rfl (fun _ => ?_) (fun z9 => absurd (show (1 : Int) ≠ (0 : Int) from by decide) z9)
            refine g_aload_n hk dX11_mend_63 rfl ?_
            refine gX_r0_2 hk hin11 (List.mem_cons_of_mem _ (List.mem_append_left _ (List.mem_of_getElem? (i := 0) rfl))) dX11_mend_64 ?_
            refine g_iload_n hk dX11_mend_67 rfl ?_
            refine g_iconst (v := 1) hk dX11_mend_68 (by decide) ?_
            refine g_isub hk dX11_mend_69 ?_
            refine g_topi (fun y2080 ey2080 => ?_)
            have hy2080 : y2080.toInt = z1.toInt - 1 := i32_sub ey2080 rfl rfl (by omega) (by omega)
            refine g_callV (n := 1) hk (k179_X6_valueAt l D zt q d I A y2080 hIv) (SP.same _) (fun _ h => h) (gi_V (List.mem_cons_of_mem _ (List.mem_append_left _ (List.mem_of_getElem? (i := 6) rfl))) (List.mem_cons_of_mem _ (List.mem_append_left _ (List.mem_of_getElem? (i := 7) rfl))) (List.mem_cons_of_mem _ (List.mem_append_left _ (List.mem_of_getElem? (i := 8) rfl))) (List.mem_cons_of_mem _ (List.mem_append_left _ (List.mem_of_getElem? (i := 5) rfl))) (gi_sub (fun w h => (List.mem_cons_of_mem _ (List.mem_append_right _ (List.mem_append_right _ (List.mem_append_right _ (List.mem_append_right _ (List.mem_append_left _ h))))))) zg_k179_X6_valueAt)) rfl rfl rfl (by decide +kernel) ⟨Nat.le_of_ble_eq_true rfl, Nat.le_of_ble_eq_true rfl⟩ 13 rfl rfl rfl rfl (Nat.le_of_ble_eq_true rfl) ⟨Nat.le_of_ble_eq_true rfl, Nat.le_of_ble_eq_true rfl⟩ dX11_mend_70 (fun v ty' w' hp hk' => ?_)
            obtain ⟨y2081, rfl, rfl⟩ := hp
            show GW κ 3 0 0 (wX q d I A) 73 [(0, .ref (q 0)), (1, .int z1)] [.int y2081]
            refine g_aload_n hk dX11_mend_73 rfl ?_
            refine gX_r0_2 hk hin11 (List.mem_cons_of_mem _ (List.mem_append_left _ (List.mem_of_getElem? (i := 0) rfl))) dX11_mend_74 ?_
            refine g_iload_n hk dX11_mend_77 rfl ?_
            refine g_iconst (v := 1) hk dX11_mend_78 (by decide) ?_
            refine g_iadd hk dX11_mend_79 ?_
            refine g_topi (fun y2082 ey2082 => ?_)
            have hy2082 : y2082.toInt = z1.toInt + 1 := i32_add ey2082 rfl rfl (by omega) (by omega)
            refine g_callV (n := 1) hk (k179_X6_valueAt l D zt q d I A y2082 hIv) (SP.same _) (fun _ h => h) (gi_V (List.mem_cons_of_mem _ (List.mem_append_left _ (List.mem_of_getElem? (i := 6) rfl))) (List.mem_cons_of_mem _ (List.mem_append_left _ (List.mem_of_getElem? (i := 7) rfl))) (List.mem_cons_of_mem _ (List.mem_append_left _ (List.mem_of_getElem? (i := 8) rfl))) (List.mem_cons_of_mem _ (List.mem_append_left _ (List.mem_of_getElem? (i := 5) rfl))) (gi_sub (fun w h => (List.mem_cons_of_mem _ (List.mem_append_right _ (List.mem_append_right _ (List.mem_append_right _ (List.mem_append_right _ (List.mem_append_left _ h))))))) zg_k179_X6_valueAt)) rfl rfl rfl (by decide +kernel) ⟨Nat.le_of_ble_eq_true rfl, Nat.le_of_ble_eq_true rfl⟩ 13 rfl rfl rfl rfl (Nat.le_of_ble_eq_true rfl) ⟨Nat.le_of_ble_eq_true rfl, Nat.le_of_ble_eq_true rfl⟩ dX11_mend_80 (fun v ty' w' hp hk' => ?_)
            obtain ⟨y2083, rfl, rfl⟩ := hp
            show GW κ 3 0 0 (wX q d I A) 83 [(0, .ref (q 0)), (1, .int z1)] [.int y2083, .int y2081]
            have b2084l := Int32.le_toInt y2081
            have b2084h := Int32.toInt_lt y2081
            have b2085l := Int32.le_toInt y2083
            have b2085h := Int32.toInt_lt y2083
            refine g_iadd hk dX11_mend_83 ?_
            refine g_topi (fun y2086 ey2086 => ?_)
            refine g_iconst (v := 2) hk dX11_mend_84 (by decide) ?_
            have k2100 : (2 : Int32).toInt = 2 := rfl
            refine g_callS (n := 2) hk (k189_J9_floorDiv_7cf53 l D zt q d I A y2086 2 hIv (by decide)) (SP.same _) (fun _ h => h) (gi_S (List.mem_cons_of_mem _ (List.mem_append_left _ (List.mem_of_getElem? (i := 9) rfl))) (List.mem_cons_of_mem _ (List.mem_append_left _ (List.mem_of_getElem? (i := 10) rfl))) (List.mem_cons_of_mem _ (List.mem_append_left _ (List.mem_of_getElem? (i := 11) rfl))) (gi_sub (fun w h => (List.mem_cons_of_mem _ (List.mem_append_right _ (List.mem_append_right _ (List.mem_append_right _ (List.mem_append_right _ (List.mem_append_right _ (List.mem_append_left _ h)))))))) zg_k189_J9_floorDiv_7cf53)) rfl rfl rfl (by decide +kernel) ⟨Nat.le_of_ble_eq_true rfl, Nat.le_of_ble_eq_true rfl⟩ rfl rfl (Nat.le_of_ble_eq_true rfl) ⟨Nat.le_of_ble_eq_true rfl, Nat.le_of_ble_eq_true rfl⟩ dX11_mend_85 (fun v ty' w' hp hk' => ?_)
            obtain ⟨y2101, rfl, rfl⟩ := hp
            show GW κ 3 0 0 (wX q d I A) 88 [(0, .ref (q 0)), (1, .int z1)] [.int y2101]
            refine g_istore_n (lv' := [(2, .int y2101), (0, .ref (q 0)), (1, .int z1)]) hk dX11_mend_88 (by decide) rfl ?_
            refine g_aload_n hk dX11_mend_89 rfl ?_
            refine gX_r0_2 hk hin11 (List.mem_cons_of_mem _ (List.mem_append_left _ (List.mem_of_getElem? (i := 0) rfl))) dX11_mend_90 ?_
            refine g_iload_n hk dX11_mend_93 rfl ?_
            refine g_iload_n hk dX11_mend_94 rfl ?_
            refine g_callV (n := 2) hk (k190_X6_putAt l D zt q d I A z1 y2101 hIv) (SP.same _) (fun _ h => h) (gi_V (List.mem_cons_of_mem _ (List.mem_append_left _ (List.mem_of_getElem? (i := 12) rfl))) (List.mem_cons_of_mem _ (List.mem_append_left _ (List.mem_of_getElem? (i := 13) rfl))) (List.mem_cons_of_mem _ (List.mem_append_left _ (List.mem_of_getElem? (i := 14) rfl))) (List.mem_cons_of_mem _ (List.mem_append_left _ (List.mem_of_getElem? (i := 5) rfl))) (gi_sub (fun w h => (List.mem_cons_of_mem _ (List.mem_append_right _ (List.mem_append_right _ (List.mem_append_right _ (List.mem_append_right _ (List.mem_append_right _ (List.mem_append_right _ (List.mem_append_left _ h))))))))) zg_k190_X6_putAt)) rfl rfl rfl (by decide +kernel) ⟨Nat.le_of_ble_eq_true rfl, Nat.le_of_ble_eq_true rfl⟩ 13 rfl rfl rfl rfl (Nat.le_of_ble_eq_true rfl) ⟨Nat.le_of_ble_eq_true rfl, Nat.le_of_ble_eq_true rfl⟩ dX11_mend_95 (fun v ty' w' hp hk' => ?_)
            obtain ⟨I2111, A2111, hI2111, hA2111, hV2111, rfl, rfl⟩ := hp
            show GW κ 3 0 0 (wX q d I2111 A2111) 98 [(2, .int y2101), (0, .ref (q 0)), (1, .int z1)] []
            refine g_aload_n hk dX11_mend_98 rfl ?_
            refine gX_r0_5 hk hin11 (List.mem_cons_of_mem _ (List.mem_append_left _ (List.mem_of_getElem? (i := 15) rfl))) dX11_mend_99 ?_
            refine g_iconst (v := 1) hk dX11_mend_102 (by decide) ?_
            refine g_iload_n hk dX11_mend_103 rfl ?_
            refine g_iconst (v := 0) hk dX11_mend_104 (by decide) ?_
            have k2112 : (1 : Int32).toInt = 1 := rfl
            have k2113 : (0 : Int32).toInt = 0 := rfl
            refine g_callV (n := 3) hk (k185_X3_note l D zt q d I2111 A2111 1 z1 0 hV2111) (SP.same _) (fun _ h => h) (gi_V (List.mem_cons_of_mem _ (List.mem_append_left _ (List.mem_of_getElem? (i := 16) rfl))) (List.mem_cons_of_mem _ (List.mem_append_left _ (List.mem_of_getElem? (i := 17) rfl))) (List.mem_cons_of_mem _ (List.mem_append_left _ (List.mem_of_getElem? (i := 18) rfl))) (List.mem_cons_of_mem _ (List.mem_append_left _ (List.mem_of_getElem? (i := 19) rfl))) (gi_sub (fun w h => (List.mem_cons_of_mem _ (List.mem_append_right _ (List.mem_append_right _ (List.mem_append_right _ (List.mem_append_right _ (List.mem_append_right _ (List.mem_append_right _ (List.mem_append_right _ (List.mem_append_left _ h)))))))))) zg_k185_X3_note)) rfl rfl rfl (by decide +kernel) ⟨Nat.le_of_ble_eq_true rfl, Nat.le_of_ble_eq_true rfl⟩ 20 rfl rfl rfl rfl (Nat.le_of_ble_eq_true rfl) ⟨Nat.le_of_ble_eq_true rfl, Nat.le_of_ble_eq_true rfl⟩ dX11_mend_105 (fun v ty' w' hp hk' => ?_)
            obtain ⟨I2115, A2115, hI2115, hA2115, hV2115, rfl, rfl⟩ := hp
            show GW κ 3 0 0 (wX q d I2115 A2115) 108 [(2, .int y2101), (0, .ref (q 0)), (1, .int z1)] []
            refine g_iload_n hk dX11_mend_108 rfl ?_
            have b2116l := Int32.le_toInt y2101
            have b2116h := Int32.toInt_lt y2101
            exact g_iret hk hR rfl ⟨I2115, A2115, (show Md [20, 21] I I2115 from (Md.tr (Md.tr Md.rf hI2111 rfl) hI2115 rfl)), (show Md [7, 11, 12, 13] A A2115 from (Md.tr (Md.tr Md.rf hA2111 rfl) hA2115 rfl)), hV2115, y2101, rfl, rfl⟩ dX11_mend_109
      · skip
        show GW κ 3 0 0 (wX q d I A) 26 [(0, .ref (q 0)), (1, .int z1)] [.int 1]
        refine g_if_eq (tgt := 33) (a := 1) hk dX11_mend_26 (by decide) rfl (fun z9 => absurd z9 (show ¬ ((1 : Int) = (0 : Int)) from by decide)) (fun _ => ?_)
        refine g_sipush (v := (-1000)) hk dX11_mend_29 (by decide) ?_
        exact g_iret hk hR rfl ⟨I, A, (show Md [20, 21] I I from Md.rf), (show Md [7, 11, 12, 13] A A from Md.rf), hIv, (-1000), rfl, rfl⟩ dX11_mend_32
def wo_k192_X6_cutFirst : List Cond := [Cond.fieldLink RX6 19 "WarpDesk$Series" "size" "I", Cond.fieldLink RX6 15 "WarpDesk$Series" "first" "I"]
def wz_k192_X6_cutFirst : List Cond := .code yX6_cutFirst cX6_cutFirst 2 (some .boolean) :: (wo_k192_X6_cutFirst ++ (wsX60 ++ ([] : List Cond)))
theorem zg_k192_X6_cutFirst : ∀ w ∈ wz_k192_X6_cutFirst, goodWord w = true := zg_cons rfl (zg_app (by decide +kernel) (zg_app zgU_wsX60 zg_nil))
theorem zi_k192_X6_cutFirst : ∀ w ∈ wz_k192_X6_cutFirst, w ∈ lw_tbl := zi_cons zw_858 (zi_app (zi_cons zw_282 (zi_cons zw_281 zi_nil)) (zi_app inX6 zi_nil))
set_option maxHeartbeats 4000000 in
set_option maxRecDepth 100000 in
theorem k192_X6_cutFirst (l : Launch) (D : va_G) (zt : Nat × Nat × Nat × (Nat → Nat) × (Nat → Nat)) (q : Nat → Nat) (d : Nat → ClassId) (I : Nat → Int32) (A : Nat → Nat → Int32) (z1 : Int32) (hIv : IvX I A) : GM l D zt (tyX d) yX6_cutFirst wz_k192_X6_cutFirst ({ frames := 0, cells := 0, slots := 0, locals := 0 } : Room) [.ref (q 13), .int z1] (wX q d I A) (fun v _ w' => ∃ (I' : Nat → Int32) (A' : Nat → Nat → Int32), Md [17, 18] I I' ∧ Md [] A A' ∧ IvX I' A' ∧ ∃ y0 : Int32, (0 ≤ y0.toInt) ∧ (y0.toInt ≤ 1) ∧ v = some (.int y0) ∧ w' = wX q d I' A') 0 0 := by
  refine GM.of (cc := cX6_cutFirst) (maxL := 2) (ret := (some .boolean)) (own := RX6) (lv := [(0, .ref (q 13)), (1, .int z1)]) (by decide) rfl rfl (Nat.le_of_ble_eq_true rfl) rfl (fun κ sz hk hR hN => ?_)
  have hin6 : ∀ w ∈ u_ws RX6 TX6 3, w ∈ wz_k192_X6_cutFirst := fun w h => (List.mem_cons_of_mem _ (List.mem_append_right _ (List.mem_append_left _ h)))
  refine g_iload_n hk dX6_cutFirst_0 rfl ?_
  refine g_iconst (v := 1) hk dX6_cutFirst_1 (by decide) ?_
  have b2117l := Int32.le_toInt z1
  have b2117h := Int32.toInt_lt z1
  refine g_icmp_lt (tgt := 13) (a := z1.toInt) (b := 1) hk dX6_cutFirst_2 (by decide) rfl rfl (fun c2118 => ?_) (fun c2118 => ?_)
  · skip
    refine g_iconst (v := 0) hk dX6_cutFirst_13 (by decide) ?_
    exact g_iret hk hR rfl ⟨I, A, (show Md [17, 18] I I from Md.rf), (show Md [] A A from Md.rf), hIv, 0, (by decide), (by decide), rfl, rfl⟩ dX6_cutFirst_14
  · skip
    refine g_iload_n hk dX6_cutFirst_5 rfl ?_
    refine g_aload_n hk dX6_cutFirst_6 rfl ?_
    refine gX_i18 (v := (I 18)) hk hin6 (List.mem_cons_of_mem _ (List.mem_append_left _ (List.mem_of_getElem? (i := 0) rfl))) dX6_cutFirst_7 rfl ?_
    have f2119 := IvX_f18 hIv
    refine g_icmp_le (tgt := 15) (a := z1.toInt) (b := (I 18).toInt) hk dX6_cutFirst_10 (by decide) rfl rfl (fun c2120 => ?_) (fun c2120 => ?_)
    · skip
      refine g_aload_n hk dX6_cutFirst_15 rfl ?_
      refine g_aload_n hk dX6_cutFirst_16 rfl ?_
      refine gX_i17 (v := (I 17)) hk hin6 (List.mem_cons_of_mem _ (List.mem_append_left _ (List.mem_of_getElem? (i := 1) rfl))) dX6_cutFirst_17 rfl ?_
      refine g_iload_n hk dX6_cutFirst_20 rfl ?_
      have b2121l := Int32.le_toInt (I 17)
      have b2121h := Int32.toInt_lt (I 17)
      refine g_iadd hk dX6_cutFirst_21 ?_
      refine g_topi (fun y2122 ey2122 => ?_)
      refine g_sipush (v := 255) hk dX6_cutFirst_22 (by decide) ?_
      have b2123l := Int32.le_toInt y2122
      have b2123h := Int32.toInt_lt y2122
      refine g_iand hk dX6_cutFirst_25 ?_
      refine g_topi (fun y2124 ey2124 => ?_)
      have hy2124 : 0 ≤ y2124.toInt ∧ y2124.toInt ≤ 255 := i32_mask 8 ey2124 (by decide) (by decide)
      refine pX_i17 hk hin6 (List.mem_cons_of_mem _ (List.mem_append_left _ (List.mem_of_getElem? (i := 1) rfl))) dX6_cutFirst_26 ?_
      refine g_aload_n hk dX6_cutFirst_29 rfl ?_
      refine g_dup hk dX6_cutFirst_30 rfl ?_
      refine gX_i18 (v := (I 18)) hk hin6 (List.mem_cons_of_mem _ (List.mem_append_left _ (List.mem_of_getElem? (i := 0) rfl))) dX6_cutFirst_31 rfl ?_
      refine g_iload_n hk dX6_cutFirst_34 rfl ?_
      refine g_isub hk dX6_cutFirst_35 ?_
      refine g_topi (fun y2125 ey2125 => ?_)
      have hy2125 : y2125.toInt = (I 18).toInt - z1.toInt := i32_sub ey2125 rfl rfl (by omega) (by omega)
      refine pX_i18 hk hin6 (List.mem_cons_of_mem _ (List.mem_append_left _ (List.mem_of_getElem? (i := 0) rfl))) dX6_cutFirst_36 ?_
      refine g_iconst (v := 1) hk dX6_cutFirst_39 (by decide) ?_
      exact g_iret hk hR rfl ⟨(upd (upd I 17 y2124) 18 y2125), A, (show Md [17, 18] I (upd (upd I 17 y2124) 18 y2125) from (Md.up (Md.up Md.rf rfl) rfl)), (show Md [] A A from Md.rf), ⟨(IvX_f0 (I := I) (A := A) hIv), (show 0 ≤ y2125.toInt ∧ y2125.toInt ≤ 160 from ⟨by omega, by omega⟩), (IvX_f30 (I := I) (A := A) hIv), (IvX_f31 (I := I) (A := A) hIv), (IvX_a4 (I := I) (A := A) hIv), (IvX_a9 (I := I) (A := A) hIv), trivial⟩, 1, (by decide), (by decide), rfl, rfl⟩ dX6_cutFirst_40
    · skip
      refine g_iconst (v := 0) hk dX6_cutFirst_13 (by decide) ?_
      exact g_iret hk hR rfl ⟨I, A, (show Md [17, 18] I I from Md.rf), (show Md [] A A from Md.rf), hIv, 0, (by decide), (by decide), rfl, rfl⟩ dX6_cutFirst_14
def wo_k191_X11_drop : List Cond := [Cond.fieldLink RX11 28 "WarpDesk" "series" "LWarpDesk$Series;", Cond.methodLink RX11 151 yX6_cutFirst, Cond.instanceMethod yX6_cutFirst, Cond.selects RX6 yX6_cutFirst yX6_cutFirst, Cond.initialized RX6, Cond.fieldLink RX11 49 "WarpDesk" "past" "LWarpDesk$Past;", Cond.methodLink RX11 134 yX3_note, Cond.instanceMethod yX3_note, Cond.selects RX3 yX3_note yX3_note, Cond.initialized RX3]
def wz_k191_X11_drop : List Cond := .code yX11_drop cX11_drop 2 (some .boolean) :: (wo_k191_X11_drop ++ (wsX110 ++ (wz_k192_X6_cutFirst ++ (wz_k185_X3_note ++ ([] : List Cond)))))
theorem zg_k191_X11_drop : ∀ w ∈ wz_k191_X11_drop, goodWord w = true := zg_cons rfl (zg_app (by decide +kernel) (zg_app zgU_wsX110 (zg_app zg_k192_X6_cutFirst (zg_app zg_k185_X3_note zg_nil))))
theorem zi_k191_X11_drop : ∀ w ∈ wz_k191_X11_drop, w ∈ lw_tbl := zi_cons zw_854 (zi_app (zi_cons zw_489 (zi_cons zw_855 (zi_cons zw_856 (zi_cons zw_857 (zi_cons zw_109 (zi_cons zw_492 (zi_cons zw_824 (zi_cons zw_825 (zi_cons zw_826 (zi_cons zw_110 zi_nil)))))))))) (zi_app inX11 (zi_app zi_k192_X6_cutFirst (zi_app zi_k185_X3_note zi_nil))))
set_option maxHeartbeats 4000000 in
set_option maxRecDepth 100000 in
theorem k191_X11_drop (l : Launch) (D : va_G) (zt : Nat × Nat × Nat × (Nat → Nat) × (Nat → Nat)) (q : Nat → Nat) (d : Nat → ClassId) (I : Nat → Int32) (A : Nat → Nat → Int32) (z1 : Int32) (hIv : IvX I A) : GM l D zt (tyX d) yX11_drop wz_k191_X11_drop ({ frames := 2, cells := 0, slots := 0, locals := 37 } : Room) [.ref (q 0), .int z1] (wX q d I A) (fun v _ w' => ∃ (I' : Nat → Int32) (A' : Nat → Nat → Int32), Md [17, 18, 20, 21] I I' ∧ Md [11, 12, 13] A A' ∧ IvX I' A' ∧ ∃ y0 : Int32, (0 ≤ y0.toInt) ∧ (y0.toInt ≤ 1) ∧ v = some (.int y0) ∧ w' = wX q d I' A') 0 0 := by
  refine GM.of (cc := cX11_drop) (maxL := 2) (ret := (some .boolean)) (own := RX11) (lv := [(0, .ref (q 0)), (1, .int z1)]) (by decide) rfl rfl (Nat.le_of_ble_eq_true rfl) rfl (fun κ sz hk hR hN => ?_)
  have hin11 : ∀ w ∈ u_ws RX11 TX11 10, w ∈ wz_k191_X11_drop := fun w h => (List.mem_cons_of_mem _ (List.mem_append_right _ (List.mem_append_left _ h)))
  refine g_aload_n hk dX11_drop_0 rfl ?_
  refine gX_r0_2 hk hin11 (List.mem_cons_of_mem _ (List.mem_append_left _ (List.mem_of_getElem? (i := 0) rfl))) dX11_drop_1 ?_
  refine g_iload_n hk dX11_drop_4 rfl ?_
  refine g_callV (n := 1) hk (k192_X6_cutFirst l D zt q d I A z1 hIv) (SP.same _) (fun _ h => h) (gi_V (List.mem_cons_of_mem _ (List.mem_append_left _ (List.mem_of_getElem? (i := 1) rfl))) (List.mem_cons_of_mem _ (List.mem_append_left _ (List.mem_of_getElem? (i := 2) rfl))) (List.mem_cons_of_mem _ (List.mem_append_left _ (List.mem_of_getElem? (i := 3) rfl))) (List.mem_cons_of_mem _ (List.mem_append_left _ (List.mem_of_getElem? (i := 4) rfl))) (gi_sub (fun w h => (List.mem_cons_of_mem _ (List.mem_append_right _ (List.mem_append_right _ (List.mem_append_left _ h))))) zg_k192_X6_cutFirst)) rfl rfl rfl (by decide +kernel) ⟨Nat.le_of_ble_eq_true rfl, Nat.le_of_ble_eq_true rfl⟩ 13 rfl rfl rfl rfl (Nat.le_of_ble_eq_true rfl) ⟨Nat.le_of_ble_eq_true rfl, Nat.le_of_ble_eq_true rfl⟩ dX11_drop_5 (fun v ty' w' hp hk' => ?_)
  obtain ⟨I2129, A2129, hI2129, hA2129, hV2129, y2126, c2127, c2128, rfl, rfl⟩ := hp
  show GW κ 2 0 0 (wX q d I2129 A2129) 8 [(0, .ref (q 0)), (1, .int z1)] [.int y2126]
  refine g_if_ne (tgt := 13) (a := y2126.toInt) hk dX11_drop_8 (by decide) rfl (fun c2130 => ?_) (fun c2130 => ?_)
  · skip
    refine g_aload_n hk dX11_drop_13 rfl ?_
    refine gX_r0_5 hk hin11 (List.mem_cons_of_mem _ (List.mem_append_left _ (List.mem_of_getElem? (i := 5) rfl))) dX11_drop_14 ?_
    refine g_iconst (v := 2) hk dX11_drop_17 (by decide) ?_
    refine g_iload_n hk dX11_drop_18 rfl ?_
    refine g_iconst (v := 0) hk dX11_drop_19 (by decide) ?_
    have k2131 : (2 : Int32).toInt = 2 := rfl
    have k2132 : (0 : Int32).toInt = 0 := rfl
    refine g_callV (n := 3) hk (k185_X3_note l D zt q d I2129 A2129 2 z1 0 hV2129) (SP.same _) (fun _ h => h) (gi_V (List.mem_cons_of_mem _ (List.mem_append_left _ (List.mem_of_getElem? (i := 6) rfl))) (List.mem_cons_of_mem _ (List.mem_append_left _ (List.mem_of_getElem? (i := 7) rfl))) (List.mem_cons_of_mem _ (List.mem_append_left _ (List.mem_of_getElem? (i := 8) rfl))) (List.mem_cons_of_mem _ (List.mem_append_left _ (List.mem_of_getElem? (i := 9) rfl))) (gi_sub (fun w h => (List.mem_cons_of_mem _ (List.mem_append_right _ (List.mem_append_right _ (List.mem_append_right _ (List.mem_append_left _ h)))))) zg_k185_X3_note)) rfl rfl rfl (by decide +kernel) ⟨Nat.le_of_ble_eq_true rfl, Nat.le_of_ble_eq_true rfl⟩ 20 rfl rfl rfl rfl (Nat.le_of_ble_eq_true rfl) ⟨Nat.le_of_ble_eq_true rfl, Nat.le_of_ble_eq_true rfl⟩ dX11_drop_20 (fun v ty' w' hp hk' => ?_)
    obtain ⟨I2134, A2134, hI2134, hA2134, hV2134, rfl, rfl⟩ := hp
    show GW κ 2 0 0 (wX q d I2134 A2134) 23 [(0, .ref (q 0)), (1, .int z1)] []
    refine g_iconst (v := 1) hk dX11_drop_23 (by decide) ?_
    exact g_iret hk hR rfl ⟨I2134, A2134, (show Md [17, 18, 20, 21] I I2134 from (Md.tr (Md.tr Md.rf hI2129 rfl) hI2134 rfl)), (show Md [11, 12, 13] A A2134 from (Md.tr (Md.tr Md.rf hA2129 rfl) hA2134 rfl)), hV2134, 1, (by decide), (by decide), rfl, rfl⟩ dX11_drop_24
  · skip
    refine g_iconst (v := 0) hk dX11_drop_11 (by decide) ?_
    exact g_iret hk hR rfl ⟨I2129, A2129, (show Md [17, 18, 20, 21] I I2129 from (Md.tr Md.rf hI2129 rfl)), (show Md [11, 12, 13] A A2129 from (Md.tr Md.rf hA2129 rfl)), hV2129, 0, (by decide), (by decide), rfl, rfl⟩ dX11_drop_12
def wo_k194_X7_valueOf : List Cond := [Cond.fieldLink RX7 20 "WarpDesk$Settings" "values" "[I"]
def wz_k194_X7_valueOf : List Cond := .code yX7_valueOf cX7_valueOf 2 (some .int) :: (wo_k194_X7_valueOf ++ (wsX70 ++ ([] : List Cond)))
theorem zg_k194_X7_valueOf : ∀ w ∈ wz_k194_X7_valueOf, goodWord w = true := zg_cons rfl (zg_app (by decide +kernel) (zg_app zgU_wsX70 zg_nil))
theorem zi_k194_X7_valueOf : ∀ w ∈ wz_k194_X7_valueOf, w ∈ lw_tbl := zi_cons zw_788 (zi_app (zi_cons zw_190 zi_nil) (zi_app inX7 zi_nil))
set_option maxHeartbeats 4000000 in
set_option maxRecDepth 100000 in
theorem k194_X7_valueOf (l : Launch) (D : va_G) (zt : Nat × Nat × Nat × (Nat → Nat) × (Nat → Nat)) (q : Nat → Nat) (d : Nat → ClassId) (I : Nat → Int32) (A : Nat → Nat → Int32) (z1 : Int32) (hIv : IvX I A) : GM l D zt (tyX d) yX7_valueOf wz_k194_X7_valueOf ({ frames := 0, cells := 0, slots := 0, locals := 0 } : Room) [.ref (q 18), .int z1] (wX q d I A) (fun v _ w' => ∃ y0 : Int32, v = some (.int y0) ∧ w' = wX q d I A) 0 0 := by
  refine GM.of (cc := cX7_valueOf) (maxL := 2) (ret := (some .int)) (own := RX7) (lv := [(0, .ref (q 18)), (1, .int z1)]) (by decide) rfl rfl (Nat.le_of_ble_eq_true rfl) rfl (fun κ sz hk hR hN => ?_)
  have hin7 : ∀ w ∈ u_ws RX7 TX7 1, w ∈ wz_k194_X7_valueOf := fun w h => (List.mem_cons_of_mem _ (List.mem_append_right _ (List.mem_append_left _ h)))
  refine g_iload_n hk dX7_valueOf_0 rfl ?_
  have b2135l := Int32.le_toInt z1
  have b2135h := Int32.toInt_lt z1
  refine g_if_lt (tgt := 22) (a := z1.toInt) hk dX7_valueOf_1 (by decide) rfl (fun c2136 => ?_) (fun c2136 => ?_)
  · skip
    refine g_iconst (v := (-1)) hk dX7_valueOf_22 (by decide) ?_
    exact g_iret hk hR rfl ⟨(-1), rfl, rfl⟩ dX7_valueOf_23
  · skip
    refine g_iload_n hk dX7_valueOf_4 rfl ?_
    refine g_aload_n hk dX7_valueOf_5 rfl ?_
    refine gX_r18_0 hk hin7 (List.mem_cons_of_mem _ (List.mem_append_left _ (List.mem_of_getElem? (i := 0) rfl))) dX7_valueOf_6 ?_
    refine nX_10 hk dX7_valueOf_9 ?_
    refine g_icmp_ge (tgt := 22) (a := z1.toInt) (b := 4) hk dX7_valueOf_10 (by decide) rfl rfl (fun c2137 => ?_) (fun c2137 => ?_)
    · skip
      refine g_iconst (v := (-1)) hk dX7_valueOf_22 (by decide) ?_
      exact g_iret hk hR rfl ⟨(-1), rfl, rfl⟩ dX7_valueOf_23
    · skip
      refine g_aload_n hk dX7_valueOf_13 rfl ?_
      refine gX_r18_0 hk hin7 (List.mem_cons_of_mem _ (List.mem_append_left _ (List.mem_of_getElem? (i := 0) rfl))) dX7_valueOf_14 ?_
      refine g_iload_n hk dX7_valueOf_17 rfl ?_
      refine lX_10 (v := (A 10 z1.toNatClampNeg)) hk (vp_in_iff.mpr ⟨by omega, by omega⟩) rfl dX7_valueOf_18 ?_
      refine g_goto (tgt := 23) hk dX7_valueOf_19 (by decide) ?_
      have b2138l := Int32.le_toInt (A 10 z1.toNatClampNeg)
      have b2138h := Int32.toInt_lt (A 10 z1.toNatClampNeg)
      exact g_iret hk hR rfl ⟨(A 10 z1.toNatClampNeg), rfl, rfl⟩ dX7_valueOf_23
def wo_k195_X7_put : List Cond := [Cond.fieldLink RX7 20 "WarpDesk$Settings" "values" "[I"]
def wz_k195_X7_put : List Cond := .code yX7_put cX7_put 3 none :: (wo_k195_X7_put ++ (wsX70 ++ ([] : List Cond)))
theorem zg_k195_X7_put : ∀ w ∈ wz_k195_X7_put, goodWord w = true := zg_cons rfl (zg_app (by decide +kernel) (zg_app zgU_wsX70 zg_nil))
theorem zi_k195_X7_put : ∀ w ∈ wz_k195_X7_put, w ∈ lw_tbl := zi_cons zw_553 (zi_app (zi_cons zw_190 zi_nil) (zi_app inX7 zi_nil))
set_option maxHeartbeats 4000000 in
set_option maxRecDepth 100000 in
theorem k195_X7_put (l : Launch) (D : va_G) (zt : Nat × Nat × Nat × (Nat → Nat) × (Nat → Nat)) (q : Nat → Nat) (d : Nat → ClassId) (I : Nat → Int32) (A : Nat → Nat → Int32) (z1 : Int32) (z2 : Int32) (hIv : IvX I A) : GM l D zt (tyX d) yX7_put wz_k195_X7_put ({ frames := 0, cells := 0, slots := 0, locals := 0 } : Room) [.ref (q 18), .int z1, .int z2] (wX q d I A) (fun v _ w' => ∃ (I' : Nat → Int32) (A' : Nat → Nat → Int32), Md [] I I' ∧ Md [10] A A' ∧ IvX I' A' ∧ v = none ∧ w' = wX q d I' A') 0 0 := by
  refine GM.of (cc := cX7_put) (maxL := 3) (ret := none) (own := RX7) (lv := [(0, .ref (q 18)), (1, .int z1), (2, .int z2)]) (by decide) rfl rfl (Nat.le_of_ble_eq_true rfl) rfl (fun κ sz hk hR hN => ?_)
  have hin7 : ∀ w ∈ u_ws RX7 TX7 1, w ∈ wz_k195_X7_put := fun w h => (List.mem_cons_of_mem _ (List.mem_append_right _ (List.mem_append_left _ h)))
  refine g_iload_n hk dX7_put_0 rfl ?_
  have b2150l := Int32.le_toInt z1
  have b2150h := Int32.toInt_lt z1
  refine g_if_lt (tgt := 20) (a := z1.toInt) hk dX7_put_1 (by decide) rfl (fun c2151 => ?_) (fun c2151 => ?_)
  · skip
    exact g_vret hk hR ⟨I, A, (show Md [] I I from Md.rf), (show Md [10] A A from Md.rf), hIv, rfl, rfl⟩ dX7_put_20
  · skip
    refine g_iload_n hk dX7_put_4 rfl ?_
    refine g_aload_n hk dX7_put_5 rfl ?_
    refine gX_r18_0 hk hin7 (List.mem_cons_of_mem _ (List.mem_append_left _ (List.mem_of_getElem? (i := 0) rfl))) dX7_put_6 ?_
    refine nX_10 hk dX7_put_9 ?_
    refine g_icmp_ge (tgt := 20) (a := z1.toInt) (b := 4) hk dX7_put_10 (by decide) rfl rfl (fun c2152 => ?_) (fun c2152 => ?_)
    · skip
      exact g_vret hk hR ⟨I, A, (show Md [] I I from Md.rf), (show Md [10] A A from Md.rf), hIv, rfl, rfl⟩ dX7_put_20
    · skip
      refine g_aload_n hk dX7_put_13 rfl ?_
      refine gX_r18_0 hk hin7 (List.mem_cons_of_mem _ (List.mem_append_left _ (List.mem_of_getElem? (i := 0) rfl))) dX7_put_14 ?_
      refine g_iload_n hk dX7_put_17 rfl ?_
      refine g_iload_n hk dX7_put_18 rfl ?_
      refine sX_10 (j := z1.toNatClampNeg) hk (vp_in_iff.mpr ⟨by omega, by omega⟩) rfl dX7_put_19 ?_
      exact g_vret hk hR ⟨I, (up3 A 10 (z1.toNatClampNeg) z2), (show Md [] I I from Md.rf), (show Md [10] A (up3 A 10 (z1.toNatClampNeg) z2) from (Md.up3 Md.rf rfl)), ⟨(IvX_f0 (I := I) (A := A) hIv), (IvX_f18 (I := I) (A := A) hIv), (IvX_f30 (I := I) (A := A) hIv), (IvX_f31 (I := I) (A := A) hIv), (IvX_a4 (I := I) (A := A) hIv), (IvX_a9 (I := I) (A := A) hIv), trivial⟩, rfl, rfl⟩ dX7_put_20
def wo_k193_X11_set : List Cond := [Cond.fieldLink RX11 42 "WarpDesk" "settings" "LWarpDesk$Settings;", Cond.methodLink RX11 154 yX7_valueOf, Cond.instanceMethod yX7_valueOf, Cond.selects RX7 yX7_valueOf yX7_valueOf, Cond.initialized RX7, Cond.methodLink RX11 157 yX7_allows, Cond.static yX7_allows, Cond.methodLink RX11 161 yX7_put, Cond.instanceMethod yX7_put, Cond.selects RX7 yX7_put yX7_put, Cond.fieldLink RX11 49 "WarpDesk" "past" "LWarpDesk$Past;", Cond.methodLink RX11 134 yX3_note, Cond.instanceMethod yX3_note, Cond.selects RX3 yX3_note yX3_note, Cond.initialized RX3]
def wz_k193_X11_set : List Cond := .code yX11_set cX11_set 4 (some .boolean) :: (wo_k193_X11_set ++ (wsX110 ++ (wz_k194_X7_valueOf ++ (wz_k162_X7_allows ++ (wz_k195_X7_put ++ (wz_k185_X3_note ++ ([] : List Cond)))))))
theorem zg_k193_X11_set : ∀ w ∈ wz_k193_X11_set, goodWord w = true := zg_cons rfl (zg_app (by decide +kernel) (zg_app zgU_wsX110 (zg_app zg_k194_X7_valueOf (zg_app zg_k162_X7_allows (zg_app zg_k195_X7_put (zg_app zg_k185_X3_note zg_nil))))))
theorem zi_k193_X11_set : ∀ w ∈ wz_k193_X11_set, w ∈ lw_tbl := zi_cons zw_862 (zi_app (zi_cons zw_491 (zi_cons zw_863 (zi_cons zw_786 (zi_cons zw_787 (zi_cons zw_107 (zi_cons zw_864 (zi_cons zw_723 (zi_cons zw_865 (zi_cons zw_551 (zi_cons zw_552 (zi_cons zw_492 (zi_cons zw_824 (zi_cons zw_825 (zi_cons zw_826 (zi_cons zw_110 zi_nil))))))))))))))) (zi_app inX11 (zi_app zi_k194_X7_valueOf (zi_app zi_k162_X7_allows (zi_app zi_k195_X7_put (zi_app zi_k185_X3_note zi_nil))))))
set_option maxHeartbeats 4000000 in
set_option maxRecDepth 100000 in
theorem k193_X11_set (l : Launch) (D : va_G) (zt : Nat × Nat × Nat × (Nat → Nat) × (Nat → Nat)) (q : Nat → Nat) (d : Nat → ClassId) (I : Nat → Int32) (A : Nat → Nat → Int32) (z1 : Int32) (z2 : Int32) (hIv : IvX I A) : GM l D zt (tyX d) yX11_set wz_k193_X11_set ({ frames := 2, cells := 0, slots := 0, locals := 37 } : Room) [.ref (q 0), .int z1, .int z2] (wX q d I A) (fun v _ w' => ∃ (I' : Nat → Int32) (A' : Nat → Nat → Int32), Md [20, 21] I I' ∧ Md [10, 11, 12, 13] A A' ∧ IvX I' A' ∧ ∃ y0 : Int32, (0 ≤ y0.toInt) ∧ (y0.toInt ≤ 1) ∧ v = some (.int y0) ∧ w' = wX q d I' A') 0 0 := by
  refine GM.of (cc := cX11_set) (maxL := 4) (ret := (some .boolean)) (own := RX11) (lv := [(0, .ref (q 0)), (1, .int z1), (2, .int z2)]) (by decide) rfl rfl (Nat.le_of_ble_eq_true rfl) rfl (fun κ sz hk hR hN => ?_)
  have hin11 : ∀ w ∈ u_ws RX11 TX11 10, w ∈ wz_k193_X11_set := fun w h => (List.mem_cons_of_mem _ (List.mem_append_right _ (List.mem_append_left _ h)))
  refine g_aload_n hk dX11_set_0 rfl ?_
  refine gX_r0_4 hk hin11 (List.mem_cons_of_mem _ (List.mem_append_left _ (List.mem_of_getElem? (i := 0) rfl))) dX11_set_1 ?_
  refine g_iload_n hk dX11_set_4 rfl ?_
  refine g_callV (n := 1) hk (k194_X7_valueOf l D zt q d I A z1 hIv) (SP.same _) (fun _ h => h) (gi_V (List.mem_cons_of_mem _ (List.mem_append_left _ (List.mem_of_getElem? (i := 1) rfl))) (List.mem_cons_of_mem _ (List.mem_append_left _ (List.mem_of_getElem? (i := 2) rfl))) (List.mem_cons_of_mem _ (List.mem_append_left _ (List.mem_of_getElem? (i := 3) rfl))) (List.mem_cons_of_mem _ (List.mem_append_left _ (List.mem_of_getElem? (i := 4) rfl))) (gi_sub (fun w h => (List.mem_cons_of_mem _ (List.mem_append_right _ (List.mem_append_right _ (List.mem_append_left _ h))))) zg_k194_X7_valueOf)) rfl rfl rfl (by decide +kernel) ⟨Nat.le_of_ble_eq_true rfl, Nat.le_of_ble_eq_true rfl⟩ 18 rfl rfl rfl rfl (Nat.le_of_ble_eq_true rfl) ⟨Nat.le_of_ble_eq_true rfl, Nat.le_of_ble_eq_true rfl⟩ dX11_set_5 (fun v ty' w' hp hk' => ?_)
  obtain ⟨y2139, rfl, rfl⟩ := hp
  show GW κ 4 0 0 (wX q d I A) 8 [(0, .ref (q 0)), (1, .int z1), (2, .int z2)] [.int y2139]
  refine g_istore_n (lv' := [(3, .int y2139), (0, .ref (q 0)), (1, .int z1), (2, .int z2)]) hk dX11_set_8 (by decide) rfl ?_
  refine g_iload_n hk dX11_set_9 rfl ?_
  refine g_iload_n hk dX11_set_10 rfl ?_
  refine g_callS (n := 2) hk (k162_X7_allows l D zt q d I A z1 z2 hIv) (SP.same _) (fun _ h => h) (gi_S (List.mem_cons_of_mem _ (List.mem_append_left _ (List.mem_of_getElem? (i := 5) rfl))) (List.mem_cons_of_mem _ (List.mem_append_left _ (List.mem_of_getElem? (i := 6) rfl))) (List.mem_cons_of_mem _ (List.mem_append_left _ (List.mem_of_getElem? (i := 4) rfl))) (gi_sub (fun w h => (List.mem_cons_of_mem _ (List.mem_append_right _ (List.mem_append_right _ (List.mem_append_right _ (List.mem_append_left _ h)))))) zg_k162_X7_allows)) rfl rfl rfl (by decide +kernel) ⟨Nat.le_of_ble_eq_true rfl, Nat.le_of_ble_eq_true rfl⟩ rfl rfl (Nat.le_of_ble_eq_true rfl) ⟨Nat.le_of_ble_eq_true rfl, Nat.le_of_ble_eq_true rfl⟩ dX11_set_11 (fun v ty' w' hp hk' => ?_)
  rcases hp with ⟨rfl, rfl⟩ | ⟨c2141, c2142, c2143, c2144, c2145, c2146, rfl, rfl⟩
  · skip
    show GW κ 4 0 0 (wX q d I A) 14 [(3, .int y2139), (0, .ref (q 0)), (1, .int z1), (2, .int z2)] [.int 0]
    refine g_if_eq (tgt := 22) (a := 0) hk dX11_set_14 (by decide) rfl (fun _ => ?_) (fun z9 => absurd (show (0 : Int) = (0 : Int) from by decide) z9)
    refine g_iconst (v := 0) hk dX11_set_22 (by decide) ?_
    exact g_iret hk hR rfl ⟨I, A, (show Md [20, 21] I I from Md.rf), (show Md [10, 11, 12, 13] A A from Md.rf), hIv, 0, (by decide), (by decide), rfl, rfl⟩ dX11_set_23
  · skip
    show GW κ 4 0 0 (wX q d I A) 14 [(3, .int y2139), (0, .ref (q 0)), (1, .int z1), (2, .int z2)] [.int 1]
    refine g_if_eq (tgt := 22) (a := 1) hk dX11_set_14 (by decide) rfl (fun z9 => absurd z9 (show ¬ ((1 : Int) = (0 : Int)) from by decide)) (fun _ => ?_)
    refine g_iload_n hk dX11_set_17 rfl ?_
    refine g_iload_n hk dX11_set_18 rfl ?_
    have b2148l := Int32.le_toInt y2139
    have b2148h := Int32.toInt_lt y2139
    refine g_icmp_ne (tgt := 24) (a := y2139.toInt) (b := z2.toInt) hk dX11_set_19 (by decide) rfl rfl (fun c2149 => ?_) (fun c2149 => ?_)
    · skip
      refine g_aload_n hk dX11_set_24 rfl ?_
      refine gX_r0_4 hk hin11 (List.mem_cons_of_mem _ (List.mem_append_left _ (List.mem_of_getElem? (i := 0) rfl))) dX11_set_25 ?_
      refine g_iload_n hk dX11_set_28 rfl ?_
      refine g_iload_n hk dX11_set_29 rfl ?_
      refine g_callV (n := 2) hk (k195_X7_put l D zt q d I A z1 z2 hIv) (SP.same _) (fun _ h => h) (gi_V (List.mem_cons_of_mem _ (List.mem_append_left _ (List.mem_of_getElem? (i := 7) rfl))) (List.mem_cons_of_mem _ (List.mem_append_left _ (List.mem_of_getElem? (i := 8) rfl))) (List.mem_cons_of_mem _ (List.mem_append_left _ (List.mem_of_getElem? (i := 9) rfl))) (List.mem_cons_of_mem _ (List.mem_append_left _ (List.mem_of_getElem? (i := 4) rfl))) (gi_sub (fun w h => (List.mem_cons_of_mem _ (List.mem_append_right _ (List.mem_append_right _ (List.mem_append_right _ (List.mem_append_right _ (List.mem_append_left _ h))))))) zg_k195_X7_put)) rfl rfl rfl (by decide +kernel) ⟨Nat.le_of_ble_eq_true rfl, Nat.le_of_ble_eq_true rfl⟩ 18 rfl rfl rfl rfl (Nat.le_of_ble_eq_true rfl) ⟨Nat.le_of_ble_eq_true rfl, Nat.le_of_ble_eq_true rfl⟩ dX11_set_30 (fun v ty' w' hp hk' => ?_)
      obtain ⟨I2154, A2154, hI2154, hA2154, hV2154, rfl, rfl⟩ := hp
      show GW κ 4 0 0 (wX q d I2154 A2154) 33 [(3, .int y2139), (0, .ref (q 0)), (1, .int z1), (2, .int z2)] []
      refine g_aload_n hk dX11_set_33 rfl ?_
      refine gX_r0_5 hk hin11 (List.mem_cons_of_mem _ (List.mem_append_left _ (List.mem_of_getElem? (i := 10) rfl))) dX11_set_34 ?_
      refine g_iconst (v := 3) hk dX11_set_37 (by decide) ?_
      refine g_iload_n hk dX11_set_38 rfl ?_
      refine g_iload_n hk dX11_set_39 rfl ?_
      have k2155 : (3 : Int32).toInt = 3 := rfl
      refine g_callV (n := 3) hk (k185_X3_note l D zt q d I2154 A2154 3 z1 y2139 hV2154) (SP.same _) (fun _ h => h) (gi_V (List.mem_cons_of_mem _ (List.mem_append_left _ (List.mem_of_getElem? (i := 11) rfl))) (List.mem_cons_of_mem _ (List.mem_append_left _ (List.mem_of_getElem? (i := 12) rfl))) (List.mem_cons_of_mem _ (List.mem_append_left _ (List.mem_of_getElem? (i := 13) rfl))) (List.mem_cons_of_mem _ (List.mem_append_left _ (List.mem_of_getElem? (i := 14) rfl))) (gi_sub (fun w h => (List.mem_cons_of_mem _ (List.mem_append_right _ (List.mem_append_right _ (List.mem_append_right _ (List.mem_append_right _ (List.mem_append_right _ (List.mem_append_left _ h)))))))) zg_k185_X3_note)) rfl rfl rfl (by decide +kernel) ⟨Nat.le_of_ble_eq_true rfl, Nat.le_of_ble_eq_true rfl⟩ 20 rfl rfl rfl rfl (Nat.le_of_ble_eq_true rfl) ⟨Nat.le_of_ble_eq_true rfl, Nat.le_of_ble_eq_true rfl⟩ dX11_set_40 (fun v ty' w' hp hk' => ?_)
      obtain ⟨I2157, A2157, hI2157, hA2157, hV2157, rfl, rfl⟩ := hp
      show GW κ 4 0 0 (wX q d I2157 A2157) 43 [(3, .int y2139), (0, .ref (q 0)), (1, .int z1), (2, .int z2)] []
      refine g_iconst (v := 1) hk dX11_set_43 (by decide) ?_
      exact g_iret hk hR rfl ⟨I2157, A2157, (show Md [20, 21] I I2157 from (Md.tr (Md.tr Md.rf hI2154 rfl) hI2157 rfl)), (show Md [10, 11, 12, 13] A A2157 from (Md.tr (Md.tr Md.rf hA2154 rfl) hA2157 rfl)), hV2157, 1, (by decide), (by decide), rfl, rfl⟩ dX11_set_44
    · skip
      refine g_iconst (v := 0) hk dX11_set_22 (by decide) ?_
      exact g_iret hk hR rfl ⟨I, A, (show Md [20, 21] I I from Md.rf), (show Md [10, 11, 12, 13] A A from Md.rf), hIv, 0, (by decide), (by decide), rfl, rfl⟩ dX11_set_23
def wo_k197_X3_stepBack : List Cond := [Cond.fieldLink RX3 19 "WarpDesk$Past" "size" "I", Cond.fieldLink RX3 23 "WarpDesk$Past" "next" "I"]
def wz_k197_X3_stepBack : List Cond := .code yX3_stepBack cX3_stepBack 1 (some .boolean) :: (wo_k197_X3_stepBack ++ (wsX30 ++ ([] : List Cond)))
theorem zg_k197_X3_stepBack : ∀ w ∈ wz_k197_X3_stepBack, goodWord w = true := zg_cons rfl (zg_app (by decide +kernel) (zg_app zgU_wsX30 zg_nil))
theorem zi_k197_X3_stepBack : ∀ w ∈ wz_k197_X3_stepBack, w ∈ lw_tbl := zi_cons zw_873 (zi_app (zi_cons zw_306 (zi_cons zw_305 zi_nil)) (zi_app inX3 zi_nil))
set_option maxHeartbeats 4000000 in
set_option maxRecDepth 100000 in
theorem k197_X3_stepBack (l : Launch) (D : va_G) (zt : Nat × Nat × Nat × (Nat → Nat) × (Nat → Nat)) (q : Nat → Nat) (d : Nat → ClassId) (I : Nat → Int32) (A : Nat → Nat → Int32) (hIv : IvX I A) : GM l D zt (tyX d) yX3_stepBack wz_k197_X3_stepBack ({ frames := 0, cells := 0, slots := 0, locals := 0 } : Room) [.ref (q 20)] (wX q d I A) (fun v _ w' => ∃ (I' : Nat → Int32) (A' : Nat → Nat → Int32), Md [20, 21] I I' ∧ Md [] A A' ∧ IvX I' A' ∧ ∃ y0 : Int32, (0 ≤ y0.toInt) ∧ (y0.toInt ≤ 1) ∧ v = some (.int y0) ∧ w' = wX q d I' A') 0 0 := by
  refine GM.of (cc := cX3_stepBack) (maxL := 1) (ret := (some .boolean)) (own := RX3) (lv := [(0, .ref (q 20))]) (by decide) rfl rfl (Nat.le_of_ble_eq_true rfl) rfl (fun κ sz hk hR hN => ?_)
  have hin3 : ∀ w ∈ u_ws RX3 TX3 5, w ∈ wz_k197_X3_stepBack := fun w h => (List.mem_cons_of_mem _ (List.mem_append_right _ (List.mem_append_left _ h)))
  refine g_aload_n hk dX3_stepBack_0 rfl ?_
  refine gX_i21 (v := (I 21)) hk hin3 (List.mem_cons_of_mem _ (List.mem_append_left _ (List.mem_of_getElem? (i := 0) rfl))) dX3_stepBack_1 rfl ?_
  refine g_iconst (v := 1) hk dX3_stepBack_4 (by decide) ?_
  have b2158l := Int32.le_toInt (I 21)
  have b2158h := Int32.toInt_lt (I 21)
  refine g_icmp_ge (tgt := 10) (a := (I 21).toInt) (b := 1) hk dX3_stepBack_5 (by decide) rfl rfl (fun c2159 => ?_) (fun c2159 => ?_)
  · skip
    refine g_aload_n hk dX3_stepBack_10 rfl ?_
    refine g_aload_n hk dX3_stepBack_11 rfl ?_
    refine gX_i20 (v := (I 20)) hk hin3 (List.mem_cons_of_mem _ (List.mem_append_left _ (List.mem_of_getElem? (i := 1) rfl))) dX3_stepBack_12 rfl ?_
    have b2160l := Int32.le_toInt (I 20)
    have b2160h := Int32.toInt_lt (I 20)
    refine g_if_ne (tgt := 23) (a := (I 20).toInt) hk dX3_stepBack_15 (by decide) rfl (fun c2161 => ?_) (fun c2161 => ?_)
    · skip
      refine g_aload_n hk dX3_stepBack_23 rfl ?_
      refine gX_i20 (v := (I 20)) hk hin3 (List.mem_cons_of_mem _ (List.mem_append_left _ (List.mem_of_getElem? (i := 1) rfl))) dX3_stepBack_24 rfl ?_
      refine g_iconst (v := 1) hk dX3_stepBack_27 (by decide) ?_
      refine g_isub hk dX3_stepBack_28 ?_
      refine g_topi (fun y2162 ey2162 => ?_)
      have hy2162 := i32_sub0 ey2162
      refine pX_i20 hk hin3 (List.mem_cons_of_mem _ (List.mem_append_left _ (List.mem_of_getElem? (i := 1) rfl))) dX3_stepBack_29 ?_
      refine g_aload_n hk dX3_stepBack_32 rfl ?_
      refine g_dup hk dX3_stepBack_33 rfl ?_
      refine gX_i21 (v := (I 21)) hk hin3 (List.mem_cons_of_mem _ (List.mem_append_left _ (List.mem_of_getElem? (i := 0) rfl))) dX3_stepBack_34 rfl ?_
      refine g_iconst (v := 1) hk dX3_stepBack_37 (by decide) ?_
      refine g_isub hk dX3_stepBack_38 ?_
      refine g_topi (fun y2163 ey2163 => ?_)
      have hy2163 : y2163.toInt = (I 21).toInt - 1 := i32_sub ey2163 rfl rfl (by omega) (by omega)
      refine pX_i21 hk hin3 (List.mem_cons_of_mem _ (List.mem_append_left _ (List.mem_of_getElem? (i := 0) rfl))) dX3_stepBack_39 ?_
      refine g_iconst (v := 1) hk dX3_stepBack_42 (by decide) ?_
      exact g_iret hk hR rfl ⟨(upd (upd I 20 y2162) 21 y2163), A, (show Md [20, 21] I (upd (upd I 20 y2162) 21 y2163) from (Md.up (Md.up Md.rf rfl) rfl)), (show Md [] A A from Md.rf), ⟨(IvX_f0 (I := I) (A := A) hIv), (IvX_f18 (I := I) (A := A) hIv), (IvX_f30 (I := I) (A := A) hIv), (IvX_f31 (I := I) (A := A) hIv), (IvX_a4 (I := I) (A := A) hIv), (IvX_a9 (I := I) (A := A) hIv), trivial⟩, 1, (by decide), (by decide), rfl, rfl⟩ dX3_stepBack_43
    · skip
      refine g_bipush (v := 39) hk dX3_stepBack_18 (by decide) ?_
      refine g_goto (tgt := 29) hk dX3_stepBack_20 (by decide) ?_
      refine pX_i20 hk hin3 (List.mem_cons_of_mem _ (List.mem_append_left _ (List.mem_of_getElem? (i := 1) rfl))) dX3_stepBack_29 ?_
      refine g_aload_n hk dX3_stepBack_32 rfl ?_
      refine g_dup hk dX3_stepBack_33 rfl ?_
      refine gX_i21 (v := (I 21)) hk hin3 (List.mem_cons_of_mem _ (List.mem_append_left _ (List.mem_of_getElem? (i := 0) rfl))) dX3_stepBack_34 rfl ?_
      refine g_iconst (v := 1) hk dX3_stepBack_37 (by decide) ?_
      refine g_isub hk dX3_stepBack_38 ?_
      refine g_topi (fun y2164 ey2164 => ?_)
      have hy2164 : y2164.toInt = (I 21).toInt - 1 := i32_sub ey2164 rfl rfl (by omega) (by omega)
      refine pX_i21 hk hin3 (List.mem_cons_of_mem _ (List.mem_append_left _ (List.mem_of_getElem? (i := 0) rfl))) dX3_stepBack_39 ?_
      refine g_iconst (v := 1) hk dX3_stepBack_42 (by decide) ?_
      exact g_iret hk hR rfl ⟨(upd (upd I 20 39) 21 y2164), A, (show Md [20, 21] I (upd (upd I 20 39) 21 y2164) from (Md.up (Md.up Md.rf rfl) rfl)), (show Md [] A A from Md.rf), ⟨(IvX_f0 (I := I) (A := A) hIv), (IvX_f18 (I := I) (A := A) hIv), (IvX_f30 (I := I) (A := A) hIv), (IvX_f31 (I := I) (A := A) hIv), (IvX_a4 (I := I) (A := A) hIv), (IvX_a9 (I := I) (A := A) hIv), trivial⟩, 1, (by decide), (by decide), rfl, rfl⟩ dX3_stepBack_43
  · skip
    refine g_iconst (v := 0) hk dX3_stepBack_8 (by decide) ?_
    exact g_iret hk hR rfl ⟨I, A, (show Md [20, 21] I I from Md.rf), (show Md [] A A from Md.rf), hIv, 0, (by decide), (by decide), rfl, rfl⟩ dX3_stepBack_9
def wo_k199_X3_valueIn : List Cond := []
def wz_k199_X3_valueIn : List Cond := .code yX3_valueIn cX3_valueIn 2 (some .int) :: (wo_k199_X3_valueIn ++ ([] : List Cond))
theorem zg_k199_X3_valueIn : ∀ w ∈ wz_k199_X3_valueIn, goodWord w = true := zg_cons rfl (zg_app (by decide +kernel) zg_nil)
theorem zi_k199_X3_valueIn : ∀ w ∈ wz_k199_X3_valueIn, w ∈ lw_tbl := zi_cons zw_880 (zi_app zi_nil zi_nil)
set_option maxHeartbeats 4000000 in
set_option maxRecDepth 100000 in
theorem k199_X3_valueIn (l : Launch) (D : va_G) (zt : Nat × Nat × Nat × (Nat → Nat) × (Nat → Nat)) (q : Nat → Nat) (d : Nat → ClassId) (I : Nat → Int32) (A : Nat → Nat → Int32) (z1 : Int32) (hIv : IvX I A) : GM l D zt (tyX d) yX3_valueIn wz_k199_X3_valueIn ({ frames := 0, cells := 0, slots := 0, locals := 0 } : Room) [.ref (q 22), .int z1] (wX q d I A) (fun v _ w' => ∃ y0 : Int32, v = some (.int y0) ∧ w' = wX q d I A) 0 0 := by
  refine GM.of (cc := cX3_valueIn) (maxL := 2) (ret := (some .int)) (own := RX3) (lv := [(0, .ref (q 22)), (1, .int z1)]) (by decide) rfl rfl (Nat.le_of_ble_eq_true rfl) rfl (fun κ sz hk hR hN => ?_)
  refine g_iload_n hk dX3_valueIn_0 rfl ?_
  have b2170l := Int32.le_toInt z1
  have b2170h := Int32.toInt_lt z1
  refine g_if_lt (tgt := 16) (a := z1.toInt) hk dX3_valueIn_1 (by decide) rfl (fun c2171 => ?_) (fun c2171 => ?_)
  · skip
    refine g_iconst (v := 0) hk dX3_valueIn_16 (by decide) ?_
    exact g_iret hk hR rfl ⟨0, rfl, rfl⟩ dX3_valueIn_17
  · skip
    refine g_iload_n hk dX3_valueIn_4 rfl ?_
    refine g_aload_n hk dX3_valueIn_5 rfl ?_
    refine nX_12 hk dX3_valueIn_6 ?_
    refine g_icmp_ge (tgt := 16) (a := z1.toInt) (b := 40) hk dX3_valueIn_7 (by decide) rfl rfl (fun c2172 => ?_) (fun c2172 => ?_)
    · skip
      refine g_iconst (v := 0) hk dX3_valueIn_16 (by decide) ?_
      exact g_iret hk hR rfl ⟨0, rfl, rfl⟩ dX3_valueIn_17
    · skip
      refine g_aload_n hk dX3_valueIn_10 rfl ?_
      refine g_iload_n hk dX3_valueIn_11 rfl ?_
      refine lX_12 (v := (A 12 z1.toNatClampNeg)) hk (vp_in_iff.mpr ⟨by omega, by omega⟩) rfl dX3_valueIn_12 ?_
      refine g_goto (tgt := 17) hk dX3_valueIn_13 (by decide) ?_
      have b2173l := Int32.le_toInt (A 12 z1.toNatClampNeg)
      have b2173h := Int32.toInt_lt (A 12 z1.toNatClampNeg)
      exact g_iret hk hR rfl ⟨(A 12 z1.toNatClampNeg), rfl, rfl⟩ dX3_valueIn_17
def wo_k198_X3_firstOfStep : List Cond := [Cond.fieldLink RX3 13 "WarpDesk$Past" "firsts" "[I", Cond.fieldLink RX3 23 "WarpDesk$Past" "next" "I", Cond.methodLink RX3 32 yX3_valueIn, Cond.static yX3_valueIn, Cond.initialized RX3]
def wz_k198_X3_firstOfStep : List Cond := .code yX3_firstOfStep cX3_firstOfStep 1 (some .int) :: (wo_k198_X3_firstOfStep ++ (wsX30 ++ (wz_k199_X3_valueIn ++ ([] : List Cond))))
theorem zg_k198_X3_firstOfStep : ∀ w ∈ wz_k198_X3_firstOfStep, goodWord w = true := zg_cons rfl (zg_app (by decide +kernel) (zg_app zgU_wsX30 (zg_app zg_k199_X3_valueIn zg_nil)))
theorem zi_k198_X3_firstOfStep : ∀ w ∈ wz_k198_X3_firstOfStep, w ∈ lw_tbl := zi_cons zw_877 (zi_app (zi_cons zw_303 (zi_cons zw_305 (zi_cons zw_878 (zi_cons zw_879 (zi_cons zw_110 zi_nil))))) (zi_app inX3 (zi_app zi_k199_X3_valueIn zi_nil)))
set_option maxHeartbeats 4000000 in
set_option maxRecDepth 100000 in
theorem k198_X3_firstOfStep (l : Launch) (D : va_G) (zt : Nat × Nat × Nat × (Nat → Nat) × (Nat → Nat)) (q : Nat → Nat) (d : Nat → ClassId) (I : Nat → Int32) (A : Nat → Nat → Int32) (hIv : IvX I A) : GM l D zt (tyX d) yX3_firstOfStep wz_k198_X3_firstOfStep ({ frames := 1, cells := 0, slots := 0, locals := 21 } : Room) [.ref (q 20)] (wX q d I A) (fun v _ w' => ∃ y0 : Int32, v = some (.int y0) ∧ w' = wX q d I A) 0 0 := by
  refine GM.of (cc := cX3_firstOfStep) (maxL := 1) (ret := (some .int)) (own := RX3) (lv := [(0, .ref (q 20))]) (by decide) rfl rfl (Nat.le_of_ble_eq_true rfl) rfl (fun κ sz hk hR hN => ?_)
  have hin3 : ∀ w ∈ u_ws RX3 TX3 5, w ∈ wz_k198_X3_firstOfStep := fun w h => (List.mem_cons_of_mem _ (List.mem_append_right _ (List.mem_append_left _ h)))
  refine g_aload_n hk dX3_firstOfStep_0 rfl ?_
  refine gX_r20_1 hk hin3 (List.mem_cons_of_mem _ (List.mem_append_left _ (List.mem_of_getElem? (i := 0) rfl))) dX3_firstOfStep_1 ?_
  refine g_aload_n hk dX3_firstOfStep_4 rfl ?_
  refine gX_i20 (v := (I 20)) hk hin3 (List.mem_cons_of_mem _ (List.mem_append_left _ (List.mem_of_getElem? (i := 1) rfl))) dX3_firstOfStep_5 rfl ?_
  refine g_callS (n := 2) hk (k199_X3_valueIn l D zt q d I A (I 20) hIv) (SP.same _) (fun _ h => h) (gi_S (List.mem_cons_of_mem _ (List.mem_append_left _ (List.mem_of_getElem? (i := 2) rfl))) (List.mem_cons_of_mem _ (List.mem_append_left _ (List.mem_of_getElem? (i := 3) rfl))) (List.mem_cons_of_mem _ (List.mem_append_left _ (List.mem_of_getElem? (i := 4) rfl))) (gi_sub (fun w h => (List.mem_cons_of_mem _ (List.mem_append_right _ (List.mem_append_right _ (List.mem_append_left _ h))))) zg_k199_X3_valueIn)) rfl rfl rfl (by decide +kernel) ⟨Nat.le_of_ble_eq_true rfl, Nat.le_of_ble_eq_true rfl⟩ rfl rfl (Nat.le_of_ble_eq_true rfl) ⟨Nat.le_of_ble_eq_true rfl, Nat.le_of_ble_eq_true rfl⟩ dX3_firstOfStep_8 (fun v ty' w' hp hk' => ?_)
  obtain ⟨y2174, rfl, rfl⟩ := hp
  show GW κ 1 0 0 (wX q d I A) 11 [(0, .ref (q 20))] [.int y2174]
  have b2175l := Int32.le_toInt y2174
  have b2175h := Int32.toInt_lt y2174
  exact g_iret hk hR rfl ⟨y2174, rfl, rfl⟩ dX3_firstOfStep_11
def wo_k201_X3_valueIn : List Cond := []
def wz_k201_X3_valueIn : List Cond := .code yX3_valueIn cX3_valueIn 2 (some .int) :: (wo_k201_X3_valueIn ++ ([] : List Cond))
theorem zg_k201_X3_valueIn : ∀ w ∈ wz_k201_X3_valueIn, goodWord w = true := zg_cons rfl (zg_app (by decide +kernel) zg_nil)
theorem zi_k201_X3_valueIn : ∀ w ∈ wz_k201_X3_valueIn, w ∈ lw_tbl := zi_cons zw_880 (zi_app zi_nil zi_nil)
set_option maxHeartbeats 4000000 in
set_option maxRecDepth 100000 in
theorem k201_X3_valueIn (l : Launch) (D : va_G) (zt : Nat × Nat × Nat × (Nat → Nat) × (Nat → Nat)) (q : Nat → Nat) (d : Nat → ClassId) (I : Nat → Int32) (A : Nat → Nat → Int32) (z1 : Int32) (hIv : IvX I A) : GM l D zt (tyX d) yX3_valueIn wz_k201_X3_valueIn ({ frames := 0, cells := 0, slots := 0, locals := 0 } : Room) [.ref (q 21), .int z1] (wX q d I A) (fun v _ w' => ∃ y0 : Int32, v = some (.int y0) ∧ w' = wX q d I A) 0 0 := by
  refine GM.of (cc := cX3_valueIn) (maxL := 2) (ret := (some .int)) (own := RX3) (lv := [(0, .ref (q 21)), (1, .int z1)]) (by decide) rfl rfl (Nat.le_of_ble_eq_true rfl) rfl (fun κ sz hk hR hN => ?_)
  refine g_iload_n hk dX3_valueIn_0 rfl ?_
  have b2177l := Int32.le_toInt z1
  have b2177h := Int32.toInt_lt z1
  refine g_if_lt (tgt := 16) (a := z1.toInt) hk dX3_valueIn_1 (by decide) rfl (fun c2178 => ?_) (fun c2178 => ?_)
  · skip
    refine g_iconst (v := 0) hk dX3_valueIn_16 (by decide) ?_
    exact g_iret hk hR rfl ⟨0, rfl, rfl⟩ dX3_valueIn_17
  · skip
    refine g_iload_n hk dX3_valueIn_4 rfl ?_
    refine g_aload_n hk dX3_valueIn_5 rfl ?_
    refine nX_11 hk dX3_valueIn_6 ?_
    refine g_icmp_ge (tgt := 16) (a := z1.toInt) (b := 40) hk dX3_valueIn_7 (by decide) rfl rfl (fun c2179 => ?_) (fun c2179 => ?_)
    · skip
      refine g_iconst (v := 0) hk dX3_valueIn_16 (by decide) ?_
      exact g_iret hk hR rfl ⟨0, rfl, rfl⟩ dX3_valueIn_17
    · skip
      refine g_aload_n hk dX3_valueIn_10 rfl ?_
      refine g_iload_n hk dX3_valueIn_11 rfl ?_
      refine lX_11 (v := (A 11 z1.toNatClampNeg)) hk (vp_in_iff.mpr ⟨by omega, by omega⟩) rfl dX3_valueIn_12 ?_
      refine g_goto (tgt := 17) hk dX3_valueIn_13 (by decide) ?_
      have b2180l := Int32.le_toInt (A 11 z1.toNatClampNeg)
      have b2180h := Int32.toInt_lt (A 11 z1.toNatClampNeg)
      exact g_iret hk hR rfl ⟨(A 11 z1.toNatClampNeg), rfl, rfl⟩ dX3_valueIn_17
def wo_k200_X3_kindOfStep : List Cond := [Cond.fieldLink RX3 9 "WarpDesk$Past" "kinds" "[I", Cond.fieldLink RX3 23 "WarpDesk$Past" "next" "I", Cond.methodLink RX3 32 yX3_valueIn, Cond.static yX3_valueIn, Cond.initialized RX3]
def wz_k200_X3_kindOfStep : List Cond := .code yX3_kindOfStep cX3_kindOfStep 1 (some .int) :: (wo_k200_X3_kindOfStep ++ (wsX30 ++ (wz_k201_X3_valueIn ++ ([] : List Cond))))
theorem zg_k200_X3_kindOfStep : ∀ w ∈ wz_k200_X3_kindOfStep, goodWord w = true := zg_cons rfl (zg_app (by decide +kernel) (zg_app zgU_wsX30 (zg_app zg_k201_X3_valueIn zg_nil)))
theorem zi_k200_X3_kindOfStep : ∀ w ∈ wz_k200_X3_kindOfStep, w ∈ lw_tbl := zi_cons zw_884 (zi_app (zi_cons zw_302 (zi_cons zw_305 (zi_cons zw_878 (zi_cons zw_879 (zi_cons zw_110 zi_nil))))) (zi_app inX3 (zi_app zi_k201_X3_valueIn zi_nil)))
set_option maxHeartbeats 4000000 in
set_option maxRecDepth 100000 in
theorem k200_X3_kindOfStep (l : Launch) (D : va_G) (zt : Nat × Nat × Nat × (Nat → Nat) × (Nat → Nat)) (q : Nat → Nat) (d : Nat → ClassId) (I : Nat → Int32) (A : Nat → Nat → Int32) (hIv : IvX I A) : GM l D zt (tyX d) yX3_kindOfStep wz_k200_X3_kindOfStep ({ frames := 1, cells := 0, slots := 0, locals := 21 } : Room) [.ref (q 20)] (wX q d I A) (fun v _ w' => ∃ y0 : Int32, v = some (.int y0) ∧ w' = wX q d I A) 0 0 := by
  refine GM.of (cc := cX3_kindOfStep) (maxL := 1) (ret := (some .int)) (own := RX3) (lv := [(0, .ref (q 20))]) (by decide) rfl rfl (Nat.le_of_ble_eq_true rfl) rfl (fun κ sz hk hR hN => ?_)
  have hin3 : ∀ w ∈ u_ws RX3 TX3 5, w ∈ wz_k200_X3_kindOfStep := fun w h => (List.mem_cons_of_mem _ (List.mem_append_right _ (List.mem_append_left _ h)))
  refine g_aload_n hk dX3_kindOfStep_0 rfl ?_
  refine gX_r20_0 hk hin3 (List.mem_cons_of_mem _ (List.mem_append_left _ (List.mem_of_getElem? (i := 0) rfl))) dX3_kindOfStep_1 ?_
  refine g_aload_n hk dX3_kindOfStep_4 rfl ?_
  refine gX_i20 (v := (I 20)) hk hin3 (List.mem_cons_of_mem _ (List.mem_append_left _ (List.mem_of_getElem? (i := 1) rfl))) dX3_kindOfStep_5 rfl ?_
  refine g_callS (n := 2) hk (k201_X3_valueIn l D zt q d I A (I 20) hIv) (SP.same _) (fun _ h => h) (gi_S (List.mem_cons_of_mem _ (List.mem_append_left _ (List.mem_of_getElem? (i := 2) rfl))) (List.mem_cons_of_mem _ (List.mem_append_left _ (List.mem_of_getElem? (i := 3) rfl))) (List.mem_cons_of_mem _ (List.mem_append_left _ (List.mem_of_getElem? (i := 4) rfl))) (gi_sub (fun w h => (List.mem_cons_of_mem _ (List.mem_append_right _ (List.mem_append_right _ (List.mem_append_left _ h))))) zg_k201_X3_valueIn)) rfl rfl rfl (by decide +kernel) ⟨Nat.le_of_ble_eq_true rfl, Nat.le_of_ble_eq_true rfl⟩ rfl rfl (Nat.le_of_ble_eq_true rfl) ⟨Nat.le_of_ble_eq_true rfl, Nat.le_of_ble_eq_true rfl⟩ dX3_kindOfStep_8 (fun v ty' w' hp hk' => ?_)
  obtain ⟨y2181, rfl, rfl⟩ := hp
  show GW κ 1 0 0 (wX q d I A) 11 [(0, .ref (q 20))] [.int y2181]
  have b2182l := Int32.le_toInt y2181
  have b2182h := Int32.toInt_lt y2181
  exact g_iret hk hR rfl ⟨y2181, rfl, rfl⟩ dX3_kindOfStep_11
def wo_k202_X6_cutLast : List Cond := [Cond.fieldLink RX6 19 "WarpDesk$Series" "size" "I"]
def wz_k202_X6_cutLast : List Cond := .code yX6_cutLast cX6_cutLast 1 none :: (wo_k202_X6_cutLast ++ (wsX60 ++ ([] : List Cond)))
theorem zg_k202_X6_cutLast : ∀ w ∈ wz_k202_X6_cutLast, goodWord w = true := zg_cons rfl (zg_app (by decide +kernel) (zg_app zgU_wsX60 zg_nil))
theorem zi_k202_X6_cutLast : ∀ w ∈ wz_k202_X6_cutLast, w ∈ lw_tbl := zi_cons zw_888 (zi_app (zi_cons zw_282 zi_nil) (zi_app inX6 zi_nil))
set_option maxHeartbeats 4000000 in
set_option maxRecDepth 100000 in
theorem k202_X6_cutLast (l : Launch) (D : va_G) (zt : Nat × Nat × Nat × (Nat → Nat) × (Nat → Nat)) (q : Nat → Nat) (d : Nat → ClassId) (I : Nat → Int32) (A : Nat → Nat → Int32) (hIv : IvX I A) : GM l D zt (tyX d) yX6_cutLast wz_k202_X6_cutLast ({ frames := 0, cells := 0, slots := 0, locals := 0 } : Room) [.ref (q 13)] (wX q d I A) (fun v _ w' => ∃ (I' : Nat → Int32) (A' : Nat → Nat → Int32), Md [18] I I' ∧ Md [] A A' ∧ IvX I' A' ∧ v = none ∧ w' = wX q d I' A') 0 0 := by
  refine GM.of (cc := cX6_cutLast) (maxL := 1) (ret := none) (own := RX6) (lv := [(0, .ref (q 13))]) (by decide) rfl rfl (Nat.le_of_ble_eq_true rfl) rfl (fun κ sz hk hR hN => ?_)
  have hin6 : ∀ w ∈ u_ws RX6 TX6 3, w ∈ wz_k202_X6_cutLast := fun w h => (List.mem_cons_of_mem _ (List.mem_append_right _ (List.mem_append_left _ h)))
  refine g_aload_n hk dX6_cutLast_0 rfl ?_
  refine gX_i18 (v := (I 18)) hk hin6 (List.mem_cons_of_mem _ (List.mem_append_left _ (List.mem_of_getElem? (i := 0) rfl))) dX6_cutLast_1 rfl ?_
  have f2185 := IvX_f18 hIv
  refine g_if_le (tgt := 17) (a := (I 18).toInt) hk dX6_cutLast_4 (by decide) rfl (fun c2186 => ?_) (fun c2186 => ?_)
  · skip
    exact g_vret hk hR ⟨I, A, (show Md [18] I I from Md.rf), (show Md [] A A from Md.rf), hIv, rfl, rfl⟩ dX6_cutLast_17
  · skip
    refine g_aload_n hk dX6_cutLast_7 rfl ?_
    refine g_dup hk dX6_cutLast_8 rfl ?_
    refine gX_i18 (v := (I 18)) hk hin6 (List.mem_cons_of_mem _ (List.mem_append_left _ (List.mem_of_getElem? (i := 0) rfl))) dX6_cutLast_9 rfl ?_
    refine g_iconst (v := 1) hk dX6_cutLast_12 (by decide) ?_
    refine g_isub hk dX6_cutLast_13 ?_
    refine g_topi (fun y2187 ey2187 => ?_)
    have hy2187 : y2187.toInt = (I 18).toInt - 1 := i32_sub ey2187 rfl rfl (by omega) (by omega)
    refine pX_i18 hk hin6 (List.mem_cons_of_mem _ (List.mem_append_left _ (List.mem_of_getElem? (i := 0) rfl))) dX6_cutLast_14 ?_
    exact g_vret hk hR ⟨(upd I 18 y2187), A, (show Md [18] I (upd I 18 y2187) from (Md.up Md.rf rfl)), (show Md [] A A from Md.rf), ⟨(IvX_f0 (I := I) (A := A) hIv), (show 0 ≤ y2187.toInt ∧ y2187.toInt ≤ 160 from ⟨by omega, by omega⟩), (IvX_f30 (I := I) (A := A) hIv), (IvX_f31 (I := I) (A := A) hIv), (IvX_a4 (I := I) (A := A) hIv), (IvX_a9 (I := I) (A := A) hIv), trivial⟩, rfl, rfl⟩ dX6_cutLast_17
def wo_k203_X6_bringBackFirst : List Cond := [Cond.fieldLink RX6 19 "WarpDesk$Series" "size" "I", Cond.fieldLink RX6 15 "WarpDesk$Series" "first" "I"]
def wz_k203_X6_bringBackFirst : List Cond := .code yX6_bringBackFirst cX6_bringBackFirst 2 none :: (wo_k203_X6_bringBackFirst ++ (wsX60 ++ ([] : List Cond)))
theorem zg_k203_X6_bringBackFirst : ∀ w ∈ wz_k203_X6_bringBackFirst, goodWord w = true := zg_cons rfl (zg_app (by decide +kernel) (zg_app zgU_wsX60 zg_nil))
theorem zi_k203_X6_bringBackFirst : ∀ w ∈ wz_k203_X6_bringBackFirst, w ∈ lw_tbl := zi_cons zw_892 (zi_app (zi_cons zw_282 (zi_cons zw_281 zi_nil)) (zi_app inX6 zi_nil))
set_option maxHeartbeats 4000000 in
set_option maxRecDepth 100000 in
theorem k203_X6_bringBackFirst (l : Launch) (D : va_G) (zt : Nat × Nat × Nat × (Nat → Nat) × (Nat → Nat)) (q : Nat → Nat) (d : Nat → ClassId) (I : Nat → Int32) (A : Nat → Nat → Int32) (z1 : Int32) (hIv : IvX I A) : GM l D zt (tyX d) yX6_bringBackFirst wz_k203_X6_bringBackFirst ({ frames := 0, cells := 0, slots := 0, locals := 0 } : Room) [.ref (q 13), .int z1] (wX q d I A) (fun v _ w' => ∃ (I' : Nat → Int32) (A' : Nat → Nat → Int32), Md [17, 18] I I' ∧ Md [] A A' ∧ IvX I' A' ∧ v = none ∧ w' = wX q d I' A') 0 0 := by
  refine GM.of (cc := cX6_bringBackFirst) (maxL := 2) (ret := none) (own := RX6) (lv := [(0, .ref (q 13)), (1, .int z1)]) (by decide) rfl rfl (Nat.le_of_ble_eq_true rfl) rfl (fun κ sz hk hR hN => ?_)
  have hin6 : ∀ w ∈ u_ws RX6 TX6 3, w ∈ wz_k203_X6_bringBackFirst := fun w h => (List.mem_cons_of_mem _ (List.mem_append_right _ (List.mem_append_left _ h)))
  refine g_iload_n hk dX6_bringBackFirst_0 rfl ?_
  refine g_iconst (v := 1) hk dX6_bringBackFirst_1 (by decide) ?_
  have b2195l := Int32.le_toInt z1
  have b2195h := Int32.toInt_lt z1
  refine g_icmp_lt (tgt := 41) (a := z1.toInt) (b := 1) hk dX6_bringBackFirst_2 (by decide) rfl rfl (fun c2196 => ?_) (fun c2196 => ?_)
  · skip
    exact g_vret hk hR ⟨I, A, (show Md [17, 18] I I from Md.rf), (show Md [] A A from Md.rf), hIv, rfl, rfl⟩ dX6_bringBackFirst_41
  · skip
    refine g_iload_n hk dX6_bringBackFirst_5 rfl ?_
    refine g_sipush (v := 160) hk dX6_bringBackFirst_6 (by decide) ?_
    refine g_aload_n hk dX6_bringBackFirst_9 rfl ?_
    refine gX_i18 (v := (I 18)) hk hin6 (List.mem_cons_of_mem _ (List.mem_append_left _ (List.mem_of_getElem? (i := 0) rfl))) dX6_bringBackFirst_10 rfl ?_
    have f2197 := IvX_f18 hIv
    refine g_isub hk dX6_bringBackFirst_13 ?_
    refine g_topi (fun y2198 ey2198 => ?_)
    have hy2198 : y2198.toInt = 160 - (I 18).toInt := i32_sub ey2198 rfl rfl (by omega) (by omega)
    refine g_icmp_gt (tgt := 41) (a := z1.toInt) (b := y2198.toInt) hk dX6_bringBackFirst_14 (by decide) rfl rfl (fun c2199 => ?_) (fun c2199 => ?_)
    · skip
      exact g_vret hk hR ⟨I, A, (show Md [17, 18] I I from Md.rf), (show Md [] A A from Md.rf), hIv, rfl, rfl⟩ dX6_bringBackFirst_41
    · skip
      refine g_aload_n hk dX6_bringBackFirst_17 rfl ?_
      refine g_aload_n hk dX6_bringBackFirst_18 rfl ?_
      refine gX_i17 (v := (I 17)) hk hin6 (List.mem_cons_of_mem _ (List.mem_append_left _ (List.mem_of_getElem? (i := 1) rfl))) dX6_bringBackFirst_19 rfl ?_
      refine g_iload_n hk dX6_bringBackFirst_22 rfl ?_
      have b2200l := Int32.le_toInt (I 17)
      have b2200h := Int32.toInt_lt (I 17)
      refine g_isub hk dX6_bringBackFirst_23 ?_
      refine g_topi (fun y2201 ey2201 => ?_)
      have hy2201 := i32_sub0 ey2201
      refine g_sipush (v := 255) hk dX6_bringBackFirst_24 (by decide) ?_
      have b2202l := Int32.le_toInt y2201
      have b2202h := Int32.toInt_lt y2201
      refine g_iand hk dX6_bringBackFirst_27 ?_
      refine g_topi (fun y2203 ey2203 => ?_)
      have hy2203 : 0 ≤ y2203.toInt ∧ y2203.toInt ≤ 255 := i32_mask 8 ey2203 (by decide) (by decide)
      refine pX_i17 hk hin6 (List.mem_cons_of_mem _ (List.mem_append_left _ (List.mem_of_getElem? (i := 1) rfl))) dX6_bringBackFirst_28 ?_
      refine g_aload_n hk dX6_bringBackFirst_31 rfl ?_
      refine g_dup hk dX6_bringBackFirst_32 rfl ?_
      refine gX_i18 (v := (I 18)) hk hin6 (List.mem_cons_of_mem _ (List.mem_append_left _ (List.mem_of_getElem? (i := 0) rfl))) dX6_bringBackFirst_33 rfl ?_
      refine g_iload_n hk dX6_bringBackFirst_36 rfl ?_
      refine g_iadd hk dX6_bringBackFirst_37 ?_
      refine g_topi (fun y2204 ey2204 => ?_)
      have hy2204 : y2204.toInt = (I 18).toInt + z1.toInt := i32_add ey2204 rfl rfl (by omega) (by omega)
      refine pX_i18 hk hin6 (List.mem_cons_of_mem _ (List.mem_append_left _ (List.mem_of_getElem? (i := 0) rfl))) dX6_bringBackFirst_38 ?_
      exact g_vret hk hR ⟨(upd (upd I 17 y2203) 18 y2204), A, (show Md [17, 18] I (upd (upd I 17 y2203) 18 y2204) from (Md.up (Md.up Md.rf rfl) rfl)), (show Md [] A A from Md.rf), ⟨(IvX_f0 (I := I) (A := A) hIv), (show 0 ≤ y2204.toInt ∧ y2204.toInt ≤ 160 from ⟨by omega, by omega⟩), (IvX_f30 (I := I) (A := A) hIv), (IvX_f31 (I := I) (A := A) hIv), (IvX_a4 (I := I) (A := A) hIv), (IvX_a9 (I := I) (A := A) hIv), trivial⟩, rfl, rfl⟩ dX6_bringBackFirst_41
def wo_k205_X3_valueIn : List Cond := []
def wz_k205_X3_valueIn : List Cond := .code yX3_valueIn cX3_valueIn 2 (some .int) :: (wo_k205_X3_valueIn ++ ([] : List Cond))
theorem zg_k205_X3_valueIn : ∀ w ∈ wz_k205_X3_valueIn, goodWord w = true := zg_cons rfl (zg_app (by decide +kernel) zg_nil)
theorem zi_k205_X3_valueIn : ∀ w ∈ wz_k205_X3_valueIn, w ∈ lw_tbl := zi_cons zw_880 (zi_app zi_nil zi_nil)
set_option maxHeartbeats 4000000 in
set_option maxRecDepth 100000 in
theorem k205_X3_valueIn (l : Launch) (D : va_G) (zt : Nat × Nat × Nat × (Nat → Nat) × (Nat → Nat)) (q : Nat → Nat) (d : Nat → ClassId) (I : Nat → Int32) (A : Nat → Nat → Int32) (z1 : Int32) (hIv : IvX I A) : GM l D zt (tyX d) yX3_valueIn wz_k205_X3_valueIn ({ frames := 0, cells := 0, slots := 0, locals := 0 } : Room) [.ref (q 23), .int z1] (wX q d I A) (fun v _ w' => ∃ y0 : Int32, v = some (.int y0) ∧ w' = wX q d I A) 0 0 := by
  refine GM.of (cc := cX3_valueIn) (maxL := 2) (ret := (some .int)) (own := RX3) (lv := [(0, .ref (q 23)), (1, .int z1)]) (by decide) rfl rfl (Nat.le_of_ble_eq_true rfl) rfl (fun κ sz hk hR hN => ?_)
  refine g_iload_n hk dX3_valueIn_0 rfl ?_
  have b2207l := Int32.le_toInt z1
  have b2207h := Int32.toInt_lt z1
  refine g_if_lt (tgt := 16) (a := z1.toInt) hk dX3_valueIn_1 (by decide) rfl (fun c2208 => ?_) (fun c2208 => ?_)
  · skip
    refine g_iconst (v := 0) hk dX3_valueIn_16 (by decide) ?_
    exact g_iret hk hR rfl ⟨0, rfl, rfl⟩ dX3_valueIn_17
  · skip
    refine g_iload_n hk dX3_valueIn_4 rfl ?_
    refine g_aload_n hk dX3_valueIn_5 rfl ?_
    refine nX_13 hk dX3_valueIn_6 ?_
    refine g_icmp_ge (tgt := 16) (a := z1.toInt) (b := 40) hk dX3_valueIn_7 (by decide) rfl rfl (fun c2209 => ?_) (fun c2209 => ?_)
    · skip
      refine g_iconst (v := 0) hk dX3_valueIn_16 (by decide) ?_
      exact g_iret hk hR rfl ⟨0, rfl, rfl⟩ dX3_valueIn_17
    · skip
      refine g_aload_n hk dX3_valueIn_10 rfl ?_
      refine g_iload_n hk dX3_valueIn_11 rfl ?_
      refine lX_13 (v := (A 13 z1.toNatClampNeg)) hk (vp_in_iff.mpr ⟨by omega, by omega⟩) rfl dX3_valueIn_12 ?_
      refine g_goto (tgt := 17) hk dX3_valueIn_13 (by decide) ?_
      have b2210l := Int32.le_toInt (A 13 z1.toNatClampNeg)
      have b2210h := Int32.toInt_lt (A 13 z1.toNatClampNeg)
      exact g_iret hk hR rfl ⟨(A 13 z1.toNatClampNeg), rfl, rfl⟩ dX3_valueIn_17
def wo_k204_X3_secondOfStep : List Cond := [Cond.fieldLink RX3 16 "WarpDesk$Past" "seconds" "[I", Cond.fieldLink RX3 23 "WarpDesk$Past" "next" "I", Cond.methodLink RX3 32 yX3_valueIn, Cond.static yX3_valueIn, Cond.initialized RX3]
def wz_k204_X3_secondOfStep : List Cond := .code yX3_secondOfStep cX3_secondOfStep 1 (some .int) :: (wo_k204_X3_secondOfStep ++ (wsX30 ++ (wz_k205_X3_valueIn ++ ([] : List Cond))))
theorem zg_k204_X3_secondOfStep : ∀ w ∈ wz_k204_X3_secondOfStep, goodWord w = true := zg_cons rfl (zg_app (by decide +kernel) (zg_app zgU_wsX30 (zg_app zg_k205_X3_valueIn zg_nil)))
theorem zi_k204_X3_secondOfStep : ∀ w ∈ wz_k204_X3_secondOfStep, w ∈ lw_tbl := zi_cons zw_896 (zi_app (zi_cons zw_304 (zi_cons zw_305 (zi_cons zw_878 (zi_cons zw_879 (zi_cons zw_110 zi_nil))))) (zi_app inX3 (zi_app zi_k205_X3_valueIn zi_nil)))
set_option maxHeartbeats 4000000 in
set_option maxRecDepth 100000 in
theorem k204_X3_secondOfStep (l : Launch) (D : va_G) (zt : Nat × Nat × Nat × (Nat → Nat) × (Nat → Nat)) (q : Nat → Nat) (d : Nat → ClassId) (I : Nat → Int32) (A : Nat → Nat → Int32) (hIv : IvX I A) : GM l D zt (tyX d) yX3_secondOfStep wz_k204_X3_secondOfStep ({ frames := 1, cells := 0, slots := 0, locals := 21 } : Room) [.ref (q 20)] (wX q d I A) (fun v _ w' => ∃ y0 : Int32, v = some (.int y0) ∧ w' = wX q d I A) 0 0 := by
  refine GM.of (cc := cX3_secondOfStep) (maxL := 1) (ret := (some .int)) (own := RX3) (lv := [(0, .ref (q 20))]) (by decide) rfl rfl (Nat.le_of_ble_eq_true rfl) rfl (fun κ sz hk hR hN => ?_)
  have hin3 : ∀ w ∈ u_ws RX3 TX3 5, w ∈ wz_k204_X3_secondOfStep := fun w h => (List.mem_cons_of_mem _ (List.mem_append_right _ (List.mem_append_left _ h)))
  refine g_aload_n hk dX3_secondOfStep_0 rfl ?_
  refine gX_r20_2 hk hin3 (List.mem_cons_of_mem _ (List.mem_append_left _ (List.mem_of_getElem? (i := 0) rfl))) dX3_secondOfStep_1 ?_
  refine g_aload_n hk dX3_secondOfStep_4 rfl ?_
  refine gX_i20 (v := (I 20)) hk hin3 (List.mem_cons_of_mem _ (List.mem_append_left _ (List.mem_of_getElem? (i := 1) rfl))) dX3_secondOfStep_5 rfl ?_
  refine g_callS (n := 2) hk (k205_X3_valueIn l D zt q d I A (I 20) hIv) (SP.same _) (fun _ h => h) (gi_S (List.mem_cons_of_mem _ (List.mem_append_left _ (List.mem_of_getElem? (i := 2) rfl))) (List.mem_cons_of_mem _ (List.mem_append_left _ (List.mem_of_getElem? (i := 3) rfl))) (List.mem_cons_of_mem _ (List.mem_append_left _ (List.mem_of_getElem? (i := 4) rfl))) (gi_sub (fun w h => (List.mem_cons_of_mem _ (List.mem_append_right _ (List.mem_append_right _ (List.mem_append_left _ h))))) zg_k205_X3_valueIn)) rfl rfl rfl (by decide +kernel) ⟨Nat.le_of_ble_eq_true rfl, Nat.le_of_ble_eq_true rfl⟩ rfl rfl (Nat.le_of_ble_eq_true rfl) ⟨Nat.le_of_ble_eq_true rfl, Nat.le_of_ble_eq_true rfl⟩ dX3_secondOfStep_8 (fun v ty' w' hp hk' => ?_)
  obtain ⟨y2211, rfl, rfl⟩ := hp
  show GW κ 1 0 0 (wX q d I A) 11 [(0, .ref (q 20))] [.int y2211]
  have b2212l := Int32.le_toInt y2211
  have b2212h := Int32.toInt_lt y2211
  exact g_iret hk hR rfl ⟨y2211, rfl, rfl⟩ dX3_secondOfStep_11
def wo_k196_X11_undo : List Cond := [Cond.fieldLink RX11 49 "WarpDesk" "past" "LWarpDesk$Past;", Cond.methodLink RX11 164 yX3_stepBack, Cond.instanceMethod yX3_stepBack, Cond.selects RX3 yX3_stepBack yX3_stepBack, Cond.initialized RX3, Cond.methodLink RX11 168 yX3_firstOfStep, Cond.instanceMethod yX3_firstOfStep, Cond.selects RX3 yX3_firstOfStep yX3_firstOfStep, Cond.methodLink RX11 171 yX3_kindOfStep, Cond.instanceMethod yX3_kindOfStep, Cond.selects RX3 yX3_kindOfStep yX3_kindOfStep, Cond.fieldLink RX11 28 "WarpDesk" "series" "LWarpDesk$Series;", Cond.methodLink RX11 174 yX6_cutLast, Cond.instanceMethod yX6_cutLast, Cond.selects RX6 yX6_cutLast yX6_cutLast, Cond.initialized RX6, Cond.methodLink RX11 147 yX6_putAt, Cond.instanceMethod yX6_putAt, Cond.selects RX6 yX6_putAt yX6_putAt, Cond.methodLink RX11 177 yX6_bringBackFirst, Cond.instanceMethod yX6_bringBackFirst, Cond.selects RX6 yX6_bringBackFirst yX6_bringBackFirst, Cond.fieldLink RX11 42 "WarpDesk" "settings" "LWarpDesk$Settings;", Cond.methodLink RX11 180 yX3_secondOfStep, Cond.instanceMethod yX3_secondOfStep, Cond.selects RX3 yX3_secondOfStep yX3_secondOfStep, Cond.methodLink RX11 161 yX7_put, Cond.instanceMethod yX7_put, Cond.selects RX7 yX7_put yX7_put, Cond.initialized RX7]
def wz_k196_X11_undo : List Cond := .code yX11_undo cX11_undo 2 (some .boolean) :: (wo_k196_X11_undo ++ (wsX110 ++ (wz_k197_X3_stepBack ++ (wz_k198_X3_firstOfStep ++ (wz_k200_X3_kindOfStep ++ (wz_k202_X6_cutLast ++ (wz_k190_X6_putAt ++ (wz_k203_X6_bringBackFirst ++ (wz_k204_X3_secondOfStep ++ (wz_k195_X7_put ++ ([] : List Cond)))))))))))
theorem zg_k196_X11_undo : ∀ w ∈ wz_k196_X11_undo, goodWord w = true := zg_cons rfl (zg_app (by decide +kernel) (zg_app zgU_wsX110 (zg_app zg_k197_X3_stepBack (zg_app zg_k198_X3_firstOfStep (zg_app zg_k200_X3_kindOfStep (zg_app zg_k202_X6_cutLast (zg_app zg_k190_X6_putAt (zg_app zg_k203_X6_bringBackFirst (zg_app zg_k204_X3_secondOfStep (zg_app zg_k195_X7_put zg_nil))))))))))
theorem zi_k196_X11_undo : ∀ w ∈ wz_k196_X11_undo, w ∈ lw_tbl := zi_cons zw_869 (zi_app (zi_cons zw_492 (zi_cons zw_870 (zi_cons zw_871 (zi_cons zw_872 (zi_cons zw_110 (zi_cons zw_874 (zi_cons zw_875 (zi_cons zw_876 (zi_cons zw_881 (zi_cons zw_882 (zi_cons zw_883 (zi_cons zw_489 (zi_cons zw_885 (zi_cons zw_886 (zi_cons zw_887 (zi_cons zw_109 (zi_cons zw_847 (zi_cons zw_848 (zi_cons zw_849 (zi_cons zw_889 (zi_cons zw_890 (zi_cons zw_891 (zi_cons zw_491 (zi_cons zw_893 (zi_cons zw_894 (zi_cons zw_895 (zi_cons zw_865 (zi_cons zw_551 (zi_cons zw_552 (zi_cons zw_107 zi_nil)))))))))))))))))))))))))))))) (zi_app inX11 (zi_app zi_k197_X3_stepBack (zi_app zi_k198_X3_firstOfStep (zi_app zi_k200_X3_kindOfStep (zi_app zi_k202_X6_cutLast (zi_app zi_k190_X6_putAt (zi_app zi_k203_X6_bringBackFirst (zi_app zi_k204_X3_secondOfStep (zi_app zi_k195_X7_put zi_nil))))))))))
set_option maxHeartbeats 4000000 in
set_option maxRecDepth 100000 in
theorem k196_X11_undo (l : Launch) (D : va_G) (zt : Nat × Nat × Nat × (Nat → Nat) × (Nat → Nat)) (q : Nat → Nat) (d : Nat → ClassId) (I : Nat → Int32) (A : Nat → Nat → Int32) (hIv : IvX I A) : GM l D zt (tyX d) yX11_undo wz_k196_X11_undo ({ frames := 2, cells := 0, slots := 0, locals := 41 } : Room) [.ref (q 0)] (wX q d I A) (fun v _ w' => ∃ (I' : Nat → Int32) (A' : Nat → Nat → Int32), Md [17, 18, 20, 21] I I' ∧ Md [7, 10] A A' ∧ IvX I' A' ∧ ∃ y0 : Int32, (0 ≤ y0.toInt) ∧ (y0.toInt ≤ 1) ∧ v = some (.int y0) ∧ w' = wX q d I' A') 0 0 := by
  refine GM.of (cc := cX11_undo) (maxL := 2) (ret := (some .boolean)) (own := RX11) (lv := [(0, .ref (q 0))]) (by decide) rfl rfl (Nat.le_of_ble_eq_true rfl) rfl (fun κ sz hk hR hN => ?_)
  have hin11 : ∀ w ∈ u_ws RX11 TX11 10, w ∈ wz_k196_X11_undo := fun w h => (List.mem_cons_of_mem _ (List.mem_append_right _ (List.mem_append_left _ h)))
  refine g_aload_n hk dX11_undo_0 rfl ?_
  refine gX_r0_5 hk hin11 (List.mem_cons_of_mem _ (List.mem_append_left _ (List.mem_of_getElem? (i := 0) rfl))) dX11_undo_1 ?_
  refine g_callV (n := 0) hk (k197_X3_stepBack l D zt q d I A  hIv) (SP.same _) (fun _ h => h) (gi_V (List.mem_cons_of_mem _ (List.mem_append_left _ (List.mem_of_getElem? (i := 1) rfl))) (List.mem_cons_of_mem _ (List.mem_append_left _ (List.mem_of_getElem? (i := 2) rfl))) (List.mem_cons_of_mem _ (List.mem_append_left _ (List.mem_of_getElem? (i := 3) rfl))) (List.mem_cons_of_mem _ (List.mem_append_left _ (List.mem_of_getElem? (i := 4) rfl))) (gi_sub (fun w h => (List.mem_cons_of_mem _ (List.mem_append_right _ (List.mem_append_right _ (List.mem_append_left _ h))))) zg_k197_X3_stepBack)) rfl rfl rfl (by decide +kernel) ⟨Nat.le_of_ble_eq_true rfl, Nat.le_of_ble_eq_true rfl⟩ 20 rfl rfl rfl rfl (Nat.le_of_ble_eq_true rfl) ⟨Nat.le_of_ble_eq_true rfl, Nat.le_of_ble_eq_true rfl⟩ dX11_undo_4 (fun v ty' w' hp hk' => ?_)
  obtain ⟨I2168, A2168, hI2168, hA2168, hV2168, y2165, c2166, c2167, rfl, rfl⟩ := hp
  show GW κ 2 0 0 (wX q d I2168 A2168) 7 [(0, .ref (q 0))] [.int y2165]
  refine g_if_ne (tgt := 12) (a := y2165.toInt) hk dX11_undo_7 (by decide) rfl (fun c2169 => ?_) (fun c2169 => ?_)
  · skip
    refine g_aload_n hk dX11_undo_12 rfl ?_
    refine gX_r0_5 hk hin11 (List.mem_cons_of_mem _ (List.mem_append_left _ (List.mem_of_getElem? (i := 0) rfl))) dX11_undo_13 ?_
    refine g_callV (n := 0) hk (k198_X3_firstOfStep l D zt q d I2168 A2168  hV2168) (SP.same _) (fun _ h => h) (gi_V (List.mem_cons_of_mem _ (List.mem_append_left _ (List.mem_of_getElem? (i := 5) rfl))) (List.mem_cons_of_mem _ (List.mem_append_left _ (List.mem_of_getElem? (i := 6) rfl))) (List.mem_cons_of_mem _ (List.mem_append_left _ (List.mem_of_getElem? (i := 7) rfl))) (List.mem_cons_of_mem _ (List.mem_append_left _ (List.mem_of_getElem? (i := 4) rfl))) (gi_sub (fun w h => (List.mem_cons_of_mem _ (List.mem_append_right _ (List.mem_append_right _ (List.mem_append_right _ (List.mem_append_left _ h)))))) zg_k198_X3_firstOfStep)) rfl rfl rfl (by decide +kernel) ⟨Nat.le_of_ble_eq_true rfl, Nat.le_of_ble_eq_true rfl⟩ 20 rfl rfl rfl rfl (Nat.le_of_ble_eq_true rfl) ⟨Nat.le_of_ble_eq_true rfl, Nat.le_of_ble_eq_true rfl⟩ dX11_undo_16 (fun v ty' w' hp hk' => ?_)
    obtain ⟨y2176, rfl, rfl⟩ := hp
    show GW κ 2 0 0 (wX q d I2168 A2168) 19 [(0, .ref (q 0))] [.int y2176]
    refine g_istore_n (lv' := [(1, .int y2176), (0, .ref (q 0))]) hk dX11_undo_19 (by decide) rfl ?_
    refine g_aload_n hk dX11_undo_20 rfl ?_
    refine gX_r0_5 hk hin11 (List.mem_cons_of_mem _ (List.mem_append_left _ (List.mem_of_getElem? (i := 0) rfl))) dX11_undo_21 ?_
    refine g_callV (n := 0) hk (k200_X3_kindOfStep l D zt q d I2168 A2168  hV2168) (SP.same _) (fun _ h => h) (gi_V (List.mem_cons_of_mem _ (List.mem_append_left _ (List.mem_of_getElem? (i := 8) rfl))) (List.mem_cons_of_mem _ (List.mem_append_left _ (List.mem_of_getElem? (i := 9) rfl))) (List.mem_cons_of_mem _ (List.mem_append_left _ (List.mem_of_getElem? (i := 10) rfl))) (List.mem_cons_of_mem _ (List.mem_append_left _ (List.mem_of_getElem? (i := 4) rfl))) (gi_sub (fun w h => (List.mem_cons_of_mem _ (List.mem_append_right _ (List.mem_append_right _ (List.mem_append_right _ (List.mem_append_right _ (List.mem_append_left _ h))))))) zg_k200_X3_kindOfStep)) rfl rfl rfl (by decide +kernel) ⟨Nat.le_of_ble_eq_true rfl, Nat.le_of_ble_eq_true rfl⟩ 20 rfl rfl rfl rfl (Nat.le_of_ble_eq_true rfl) ⟨Nat.le_of_ble_eq_true rfl, Nat.le_of_ble_eq_true rfl⟩ dX11_undo_24 (fun v ty' w' hp hk' => ?_)
    obtain ⟨y2183, rfl, rfl⟩ := hp
    show GW κ 2 0 0 (wX q d I2168 A2168) 27 [(1, .int y2176), (0, .ref (q 0))] [.int y2183]
    by_cases c2184 : y2183.toInt = 0
    · refine g_tabIn (tgt := 52) (a := 0) hk dX11_undo_27 c2184 (by decide) (by decide) rfl (by decide) ?_
      refine g_aload_n hk dX11_undo_52 rfl ?_
      refine gX_r0_2 hk hin11 (List.mem_cons_of_mem _ (List.mem_append_left _ (List.mem_of_getElem? (i := 11) rfl))) dX11_undo_53 ?_
      refine g_callV (n := 0) hk (k202_X6_cutLast l D zt q d I2168 A2168  hV2168) (SP.same _) (fun _ h => h) (gi_V (List.mem_cons_of_mem _ (List.mem_append_left _ (List.mem_of_getElem? (i := 12) rfl))) (List.mem_cons_of_mem _ (List.mem_append_left _ (List.mem_of_getElem? (i := 13) rfl))) (List.mem_cons_of_mem _ (List.mem_append_left _ (List.mem_of_getElem? (i := 14) rfl))) (List.mem_cons_of_mem _ (List.mem_append_left _ (List.mem_of_getElem? (i := 15) rfl))) (gi_sub (fun w h => (List.mem_cons_of_mem _ (List.mem_append_right _ (List.mem_append_right _ (List.mem_append_right _ (List.mem_append_right _ (List.mem_append_right _ (List.mem_append_left _ h)))))))) zg_k202_X6_cutLast)) rfl rfl rfl (by decide +kernel) ⟨Nat.le_of_ble_eq_true rfl, Nat.le_of_ble_eq_true rfl⟩ 13 rfl rfl rfl rfl (Nat.le_of_ble_eq_true rfl) ⟨Nat.le_of_ble_eq_true rfl, Nat.le_of_ble_eq_true rfl⟩ dX11_undo_56 (fun v ty' w' hp hk' => ?_)
      obtain ⟨I2189, A2189, hI2189, hA2189, hV2189, rfl, rfl⟩ := hp
      show GW κ 2 0 0 (wX q d I2189 A2189) 59 [(1, .int y2176), (0, .ref (q 0))] []
      refine g_goto (tgt := 102) hk dX11_undo_59 (by decide) ?_
      refine g_iconst (v := 1) hk dX11_undo_102 (by decide) ?_
      exact g_iret hk hR rfl ⟨I2189, A2189, (show Md [17, 18, 20, 21] I I2189 from (Md.tr (Md.tr Md.rf hI2168 rfl) hI2189 rfl)), (show Md [7, 10] A A2189 from (Md.tr (Md.tr Md.rf hA2168 rfl) hA2189 rfl)), hV2189, 1, (by decide), (by decide), rfl, rfl⟩ dX11_undo_103
    by_cases c2190 : y2183.toInt = 1
    · refine g_tabIn (tgt := 62) (a := 1) hk dX11_undo_27 c2190 (by decide) (by decide) rfl (by decide) ?_
      refine g_aload_n hk dX11_undo_62 rfl ?_
      refine gX_r0_2 hk hin11 (List.mem_cons_of_mem _ (List.mem_append_left _ (List.mem_of_getElem? (i := 11) rfl))) dX11_undo_63 ?_
      refine g_iload_n hk dX11_undo_66 rfl ?_
      refine g_sipush (v := (-1000)) hk dX11_undo_67 (by decide) ?_
      have k2191 : ((-1000) : Int32).toInt = (-1000) := rfl
      refine g_callV (n := 2) hk (k190_X6_putAt l D zt q d I2168 A2168 y2176 (-1000) hV2168) (SP.same _) (fun _ h => h) (gi_V (List.mem_cons_of_mem _ (List.mem_append_left _ (List.mem_of_getElem? (i := 16) rfl))) (List.mem_cons_of_mem _ (List.mem_append_left _ (List.mem_of_getElem? (i := 17) rfl))) (List.mem_cons_of_mem _ (List.mem_append_left _ (List.mem_of_getElem? (i := 18) rfl))) (List.mem_cons_of_mem _ (List.mem_append_left _ (List.mem_of_getElem? (i := 15) rfl))) (gi_sub (fun w h => (List.mem_cons_of_mem _ (List.mem_append_right _ (List.mem_append_right _ (List.mem_append_right _ (List.mem_append_right _ (List.mem_append_right _ (List.mem_append_right _ (List.mem_append_left _ h))))))))) zg_k190_X6_putAt)) rfl rfl rfl (by decide +kernel) ⟨Nat.le_of_ble_eq_true rfl, Nat.le_of_ble_eq_true rfl⟩ 13 rfl rfl rfl rfl (Nat.le_of_ble_eq_true rfl) ⟨Nat.le_of_ble_eq_true rfl, Nat.le_of_ble_eq_true rfl⟩ dX11_undo_70 (fun v ty' w' hp hk' => ?_)
      obtain ⟨I2193, A2193, hI2193, hA2193, hV2193, rfl, rfl⟩ := hp
      show GW κ 2 0 0 (wX q d I2193 A2193) 73 [(1, .int y2176), (0, .ref (q 0))] []
      refine g_goto (tgt := 102) hk dX11_undo_73 (by decide) ?_
      refine g_iconst (v := 1) hk dX11_undo_102 (by decide) ?_
      exact g_iret hk hR rfl ⟨I2193, A2193, (show Md [17, 18, 20, 21] I I2193 from (Md.tr (Md.tr Md.rf hI2168 rfl) hI2193 rfl)), (show Md [7, 10] A A2193 from (Md.tr (Md.tr Md.rf hA2168 rfl) hA2193 rfl)), hV2193, 1, (by decide), (by decide), rfl, rfl⟩ dX11_undo_103
    by_cases c2194 : y2183.toInt = 2
    · refine g_tabIn (tgt := 76) (a := 2) hk dX11_undo_27 c2194 (by decide) (by decide) rfl (by decide) ?_
      refine g_aload_n hk dX11_undo_76 rfl ?_
      refine gX_r0_2 hk hin11 (List.mem_cons_of_mem _ (List.mem_append_left _ (List.mem_of_getElem? (i := 11) rfl))) dX11_undo_77 ?_
      refine g_iload_n hk dX11_undo_80 rfl ?_
      refine g_callV (n := 1) hk (k203_X6_bringBackFirst l D zt q d I2168 A2168 y2176 hV2168) (SP.same _) (fun _ h => h) (gi_V (List.mem_cons_of_mem _ (List.mem_append_left _ (List.mem_of_getElem? (i := 19) rfl))) (List.mem_cons_of_mem _ (List.mem_append_left _ (List.mem_of_getElem? (i := 20) rfl))) (List.mem_cons_of_mem _ (List.mem_append_left _ (List.mem_of_getElem? (i := 21) rfl))) (List.mem_cons_of_mem _ (List.mem_append_left _ (List.mem_of_getElem? (i := 15) rfl))) (gi_sub (fun w h => (List.mem_cons_of_mem _ (List.mem_append_right _ (List.mem_append_right _ (List.mem_append_right _ (List.mem_append_right _ (List.mem_append_right _ (List.mem_append_right _ (List.mem_append_right _ (List.mem_append_left _ h)))))))))) zg_k203_X6_bringBackFirst)) rfl rfl rfl (by decide +kernel) ⟨Nat.le_of_ble_eq_true rfl, Nat.le_of_ble_eq_true rfl⟩ 13 rfl rfl rfl rfl (Nat.le_of_ble_eq_true rfl) ⟨Nat.le_of_ble_eq_true rfl, Nat.le_of_ble_eq_true rfl⟩ dX11_undo_81 (fun v ty' w' hp hk' => ?_)
      obtain ⟨I2206, A2206, hI2206, hA2206, hV2206, rfl, rfl⟩ := hp
      show GW κ 2 0 0 (wX q d I2206 A2206) 84 [(1, .int y2176), (0, .ref (q 0))] []
      refine g_goto (tgt := 102) hk dX11_undo_84 (by decide) ?_
      refine g_iconst (v := 1) hk dX11_undo_102 (by decide) ?_
      exact g_iret hk hR rfl ⟨I2206, A2206, (show Md [17, 18, 20, 21] I I2206 from (Md.tr (Md.tr Md.rf hI2168 rfl) hI2206 rfl)), (show Md [7, 10] A A2206 from (Md.tr (Md.tr Md.rf hA2168 rfl) hA2206 rfl)), hV2206, 1, (by decide), (by decide), rfl, rfl⟩ dX11_undo_103
    refine g_tabOut (tgt := 87) (a := y2183.toInt) hk dX11_undo_27 rfl (by omega) (by decide) ?_
    refine g_aload_n hk dX11_undo_87 rfl ?_
    refine gX_r0_4 hk hin11 (List.mem_cons_of_mem _ (List.mem_append_left _ (List.mem_of_getElem? (i := 22) rfl))) dX11_undo_88 ?_
    refine g_iload_n hk dX11_undo_91 rfl ?_
    refine g_aload_n hk dX11_undo_92 rfl ?_
    refine gX_r0_5 hk hin11 (List.mem_cons_of_mem _ (List.mem_append_left _ (List.mem_of_getElem? (i := 0) rfl))) dX11_undo_93 ?_
    refine g_callV (n := 0) hk (k204_X3_secondOfStep l D zt q d I2168 A2168  hV2168) (SP.same _) (fun _ h => h) (gi_V (List.mem_cons_of_mem _ (List.mem_append_left _ (List.mem_of_getElem? (i := 23) rfl))) (List.mem_cons_of_mem _ (List.mem_append_left _ (List.mem_of_getElem? (i := 24) rfl))) (List.mem_cons_of_mem _ (List.mem_append_left _ (List.mem_of_getElem? (i := 25) rfl))) (List.mem_cons_of_mem _ (List.mem_append_left _ (List.mem_of_getElem? (i := 4) rfl))) (gi_sub (fun w h => (List.mem_cons_of_mem _ (List.mem_append_right _ (List.mem_append_right _ (List.mem_append_right _ (List.mem_append_right _ (List.mem_append_right _ (List.mem_append_right _ (List.mem_append_right _ (List.mem_append_right _ (List.mem_append_left _ h))))))))))) zg_k204_X3_secondOfStep)) rfl rfl rfl (by decide +kernel) ⟨Nat.le_of_ble_eq_true rfl, Nat.le_of_ble_eq_true rfl⟩ 20 rfl rfl rfl rfl (Nat.le_of_ble_eq_true rfl) ⟨Nat.le_of_ble_eq_true rfl, Nat.le_of_ble_eq_true rfl⟩ dX11_undo_96 (fun v ty' w' hp hk' => ?_)
    obtain ⟨y2213, rfl, rfl⟩ := hp
    show GW κ 2 0 0 (wX q d I2168 A2168) 99 [(1, .int y2176), (0, .ref (q 0))] [.int y2213, .int y2176, .ref (q 18)]
    refine g_callV (n := 2) hk (k195_X7_put l D zt q d I2168 A2168 y2176 y2213 hV2168) (SP.same _) (fun _ h => h) (gi_V (List.mem_cons_of_mem _ (List.mem_append_left _ (List.mem_of_getElem? (i := 26) rfl))) (List.mem_cons_of_mem _ (List.mem_append_left _ (List.mem_of_getElem? (i := 27) rfl))) (List.mem_cons_of_mem _ (List.mem_append_left _ (List.mem_of_getElem? (i := 28) rfl))) (List.mem_cons_of_mem _ (List.mem_append_left _ (List.mem_of_getElem? (i := 29) rfl))) (gi_sub (fun w h => (List.mem_cons_of_mem _ (List.mem_append_right _ (List.mem_append_right _ (List.mem_append_right _ (List.mem_append_right _ (List.mem_append_right _ (List.mem_append_right _ (List.mem_append_right _ (List.mem_append_right _ (List.mem_append_right _ (List.mem_append_left _ h)))))))))))) zg_k195_X7_put)) rfl rfl rfl (by decide +kernel) ⟨Nat.le_of_ble_eq_true rfl, Nat.le_of_ble_eq_true rfl⟩ 18 rfl rfl rfl rfl (Nat.le_of_ble_eq_true rfl) ⟨Nat.le_of_ble_eq_true rfl, Nat.le_of_ble_eq_true rfl⟩ dX11_undo_99 (fun v ty' w' hp hk' => ?_)
    obtain ⟨I2215, A2215, hI2215, hA2215, hV2215, rfl, rfl⟩ := hp
    show GW κ 2 0 0 (wX q d I2215 A2215) 102 [(1, .int y2176), (0, .ref (q 0))] []
    refine g_iconst (v := 1) hk dX11_undo_102 (by decide) ?_
    exact g_iret hk hR rfl ⟨I2215, A2215, (show Md [17, 18, 20, 21] I I2215 from (Md.tr (Md.tr Md.rf hI2168 rfl) hI2215 rfl)), (show Md [7, 10] A A2215 from (Md.tr (Md.tr Md.rf hA2168 rfl) hA2215 rfl)), hV2215, 1, (by decide), (by decide), rfl, rfl⟩ dX11_undo_103
  · skip
    refine g_iconst (v := 0) hk dX11_undo_10 (by decide) ?_
    exact g_iret hk hR rfl ⟨I2168, A2168, (show Md [17, 18, 20, 21] I I2168 from (Md.tr Md.rf hI2168 rfl)), (show Md [7, 10] A A2168 from (Md.tr Md.rf hA2168 rfl)), hV2168, 0, (by decide), (by decide), rfl, rfl⟩ dX11_undo_11
def wo_k207_X6_hasWindow : List Cond := [Cond.fieldLink RX6 19 "WarpDesk$Series" "size" "I", Cond.methodLink RX6 37 yX6_hasReading, Cond.instanceMethod yX6_hasReading, Cond.selects RX6 yX6_hasReading yX6_hasReading, Cond.initialized RX6]
def wz_k207_X6_hasWindow : List Cond := .code yX6_hasWindow cX6_hasWindow 4 (some .boolean) :: (wo_k207_X6_hasWindow ++ (wsX60 ++ (wz_k188_X6_hasReading ++ ([] : List Cond))))
theorem zg_k207_X6_hasWindow : ∀ w ∈ wz_k207_X6_hasWindow, goodWord w = true := zg_cons rfl (zg_app (by decide +kernel) (zg_app zgU_wsX60 (zg_app zg_k188_X6_hasReading zg_nil)))
theorem zi_k207_X6_hasWindow : ∀ w ∈ wz_k207_X6_hasWindow, w ∈ lw_tbl := zi_cons zw_904 (zi_app (zi_cons zw_282 (zi_cons zw_905 (zi_cons zw_840 (zi_cons zw_841 (zi_cons zw_109 zi_nil))))) (zi_app inX6 (zi_app zi_k188_X6_hasReading zi_nil)))
set_option maxHeartbeats 4000000 in
set_option maxRecDepth 100000 in
theorem k207_X6_hasWindow (l : Launch) (D : va_G) (zt : Nat × Nat × Nat × (Nat → Nat) × (Nat → Nat)) (q : Nat → Nat) (d : Nat → ClassId) (I : Nat → Int32) (A : Nat → Nat → Int32) (z1 : Int32) (z2 : Int32) (hIv : IvX I A) : GM l D zt (tyX d) yX6_hasWindow wz_k207_X6_hasWindow ({ frames := 2, cells := 0, slots := 0, locals := 42 } : Room) [.ref (q 13), .int z1, .int z2] (wX q d I A) (fun v _ w' => (v = some (.int 0) ∧ w' = wX q d I A) ∨ ((¬ (z1.toInt < 0)) ∧ (¬ (z2.toInt < 1)) ∧ (0 ≤ z1.toInt) ∧ (z1.toInt ≤ 159) ∧ (1 ≤ z2.toInt) ∧ (z2.toInt ≤ 160) ∧ v = some (.int 1) ∧ w' = wX q d I A)) 0 0 := by
  refine GM.of (cc := cX6_hasWindow) (maxL := 4) (ret := (some .boolean)) (own := RX6) (lv := [(0, .ref (q 13)), (1, .int z1), (2, .int z2)]) (by decide) rfl rfl (Nat.le_of_ble_eq_true rfl) rfl (fun κ sz hk hR hN => ?_)
  have hin6 : ∀ w ∈ u_ws RX6 TX6 3, w ∈ wz_k207_X6_hasWindow := fun w h => (List.mem_cons_of_mem _ (List.mem_append_right _ (List.mem_append_left _ h)))
  refine g_iload_n hk dX6_hasWindow_0 rfl ?_
  have b2218l := Int32.le_toInt z1
  have b2218h := Int32.toInt_lt z1
  refine g_if_lt (tgt := 27) (a := z1.toInt) hk dX6_hasWindow_1 (by decide) rfl (fun c2219 => ?_) (fun c2219 => ?_)
  · skip
    refine g_iconst (v := 0) hk dX6_hasWindow_27 (by decide) ?_
    exact g_iret hk hR rfl (Or.inl ⟨rfl, rfl⟩) dX6_hasWindow_28
  · skip
    refine g_iload_n hk dX6_hasWindow_4 rfl ?_
    refine g_aload_n hk dX6_hasWindow_5 rfl ?_
    refine gX_i18 (v := (I 18)) hk hin6 (List.mem_cons_of_mem _ (List.mem_append_left _ (List.mem_of_getElem? (i := 0) rfl))) dX6_hasWindow_6 rfl ?_
    have f2220 := IvX_f18 hIv
    refine g_icmp_ge (tgt := 27) (a := z1.toInt) (b := (I 18).toInt) hk dX6_hasWindow_9 (by decide) rfl rfl (fun c2221 => ?_) (fun c2221 => ?_)
    · skip
      refine g_iconst (v := 0) hk dX6_hasWindow_27 (by decide) ?_
      exact g_iret hk hR rfl (Or.inl ⟨rfl, rfl⟩) dX6_hasWindow_28
    · skip
      refine g_iload_n hk dX6_hasWindow_12 rfl ?_
      refine g_iconst (v := 1) hk dX6_hasWindow_13 (by decide) ?_
      have b2222l := Int32.le_toInt z2
      have b2222h := Int32.toInt_lt z2
      refine g_icmp_lt (tgt := 27) (a := z2.toInt) (b := 1) hk dX6_hasWindow_14 (by decide) rfl rfl (fun c2223 => ?_) (fun c2223 => ?_)
      · skip
        refine g_iconst (v := 0) hk dX6_hasWindow_27 (by decide) ?_
        exact g_iret hk hR rfl (Or.inl ⟨rfl, rfl⟩) dX6_hasWindow_28
      · skip
        refine g_iload_n hk dX6_hasWindow_17 rfl ?_
        refine g_aload_n hk dX6_hasWindow_18 rfl ?_
        refine gX_i18 (v := (I 18)) hk hin6 (List.mem_cons_of_mem _ (List.mem_append_left _ (List.mem_of_getElem? (i := 0) rfl))) dX6_hasWindow_19 rfl ?_
        refine g_iload_n hk dX6_hasWindow_22 rfl ?_
        refine g_isub hk dX6_hasWindow_23 ?_
        refine g_topi (fun y2224 ey2224 => ?_)
        have hy2224 : y2224.toInt = (I 18).toInt - z1.toInt := i32_sub ey2224 rfl rfl (by omega) (by omega)
        refine g_icmp_le (tgt := 29) (a := z2.toInt) (b := y2224.toInt) hk dX6_hasWindow_24 (by decide) rfl rfl (fun c2225 => ?_) (fun c2225 => ?_)
        · skip
          refine g_iconst (v := 0) hk dX6_hasWindow_29 (by decide) ?_
          refine g_istore_n (lv' := [(3, .int 0), (0, .ref (q 13)), (1, .int z1), (2, .int z2)]) hk dX6_hasWindow_30 (by decide) rfl ?_
          have lp2252 : ∀ (n2253 : Nat) (x2226 : Int32), (0 ≤ x2226.toInt) → (x2226.toInt ≤ 160) → (161 - x2226.toInt < (n2253 : Int)) → (0 < n2253) → GW κ 4 0 0 (wX q d I A) 31 [(3, .int x2226), (0, .ref (q 13)), (1, .int z1), (2, .int z2)] [] := by
            intro n2253
            induction n2253 with
            | zero =>
              intro x2226 h2250 h2251 m2254 m2254z
              exact absurd m2254z (Nat.lt_irrefl 0)
            | succ n2253 ih =>
              intro x2226 h2250 h2251 m2254 m2254z
              refine g_iload_n hk dX6_hasWindow_31 rfl ?_
              refine g_iload_n hk dX6_hasWindow_32 rfl ?_
              refine g_icmp_ge (tgt := 54) (a := x2226.toInt) (b := z2.toInt) hk dX6_hasWindow_33 (by decide) rfl rfl (fun c2255 => ?_) (fun c2255 => ?_)
              · skip
                refine g_iconst (v := 1) hk dX6_hasWindow_54 (by decide) ?_
                exact g_iret hk hR rfl (Or.inr (⟨c2219, c2223, (by omega), (by omega), (by omega), (by omega), rfl, rfl⟩)) dX6_hasWindow_55
              · skip
                refine g_aload_n hk dX6_hasWindow_36 rfl ?_
                refine g_iload_n hk dX6_hasWindow_37 rfl ?_
                refine g_iload_n hk dX6_hasWindow_38 rfl ?_
                refine g_iadd hk dX6_hasWindow_39 ?_
                refine g_topi (fun y2256 ey2256 => ?_)
                have hy2256 : y2256.toInt = z1.toInt + x2226.toInt := i32_add ey2256 rfl rfl (by omega) (by omega)
                refine g_callV (n := 1) hk (k188_X6_hasReading l D zt q d I A y2256 hIv) (SP.same _) (fun _ h => h) (gi_V (List.mem_cons_of_mem _ (List.mem_append_left _ (List.mem_of_getElem? (i := 1) rfl))) (List.mem_cons_of_mem _ (List.mem_append_left _ (List.mem_of_getElem? (i := 2) rfl))) (List.mem_cons_of_mem _ (List.mem_append_left _ (List.mem_of_getElem? (i := 3) rfl))) (List.mem_cons_of_mem _ (List.mem_append_left _ (List.mem_of_getElem? (i := 4) rfl))) (gi_sub (fun w h => (List.mem_cons_of_mem _ (List.mem_append_right _ (List.mem_append_right _ (List.mem_append_left _ h))))) zg_k188_X6_hasReading)) rfl rfl rfl (by decide +kernel) ⟨Nat.le_of_ble_eq_true rfl, Nat.le_of_ble_eq_true rfl⟩ 13 rfl rfl rfl rfl (Nat.le_of_ble_eq_true rfl) ⟨Nat.le_of_ble_eq_true rfl, Nat.le_of_ble_eq_true rfl⟩ dX6_hasWindow_40 (fun v ty' w' hp hk' => ?_)
                rcases hp with ⟨rfl, rfl⟩ | ⟨rfl, rfl⟩
                · skip
                  show GW κ 4 0 0 (wX q d I A) 43 [(3, .int x2226), (0, .ref (q 13)), (1, .int z1), (2, .int z2)] [.int 0]
                  refine g_if_ne (tgt := 48) (a := 0) hk dX6_hasWindow_43 (by decide) rfl (fun z9 => absurd z9 (show ¬ ((0 : Int) ≠ (0 : Int)) from by decide)) (fun _ => ?_)
                  refine g_iconst (v := 0) hk dX6_hasWindow_46 (by decide) ?_
                  exact g_iret hk hR rfl (Or.inl ⟨rfl, rfl⟩) dX6_hasWindow_47
                · skip
                  show GW κ 4 0 0 (wX q d I A) 43 [(3, .int x2226), (0, .ref (q 13)), (1, .int z1), (2, .int z2)] [.int 1]
                  refine g_if_ne (tgt := 48) (a := 1) hk dX6_hasWindow_43 (by decide) rfl (fun _ => ?_) (fun z9 => absurd (show (1 : Int) ≠ (0 : Int) from by decide) z9)
                  obtain ⟨y2259, ey2259⟩ : ∃ y : Int32, y = x2226 + Int32.ofInt 1 := ⟨_, rfl⟩
                  have hy2259 : y2259.toInt = x2226.toInt + 1 := i32_add ey2259 rfl (by decide) (by omega) (by omega)
                  refine g_iinc (v := y2259) (lv' := [(3, .int y2259), (0, .ref (q 13)), (1, .int z1), (2, .int z2)]) hk 0 dX6_hasWindow_48 rfl ey2259.symm (by decide) rfl ?_
                  refine g_goto (tgt := 31) hk dX6_hasWindow_51 (by decide) ?_
                  exact g_lv (List.forall_mem_cons.mpr ⟨List.mem_of_getElem? (i := 0) rfl, (List.forall_mem_cons.mpr ⟨List.mem_of_getElem? (i := 1) rfl, (List.forall_mem_cons.mpr ⟨List.mem_of_getElem? (i := 2) rfl, (List.forall_mem_cons.mpr ⟨List.mem_of_getElem? (i := 3) rfl, (fun _ h => absurd h List.not_mem_nil)⟩)⟩)⟩)⟩) (ih y2259 (by omega) (by omega) (by omega) (by omega))
          have k2261 : (0 : Int32).toInt = 0 := rfl
          obtain ⟨n2260, n2260a, n2260b⟩ : ∃ n : Nat, 161 - 0 < (n : Int) ∧ 0 < n := ⟨((161 - 0 : Int)).toNat + 1, by omega, by omega⟩
          exact lp2252 n2260 0 (by omega) (by omega) n2260a n2260b
        · skip
          refine g_iconst (v := 0) hk dX6_hasWindow_27 (by decide) ?_
          exact g_iret hk hR rfl (Or.inl ⟨rfl, rfl⟩) dX6_hasWindow_28
def wo_k208_X6_sumOf : List Cond := [Cond.methodLink RX6 37 yX6_hasReading, Cond.instanceMethod yX6_hasReading, Cond.selects RX6 yX6_hasReading yX6_hasReading, Cond.initialized RX6, Cond.methodLink RX6 33 yX6_valueAt, Cond.instanceMethod yX6_valueAt, Cond.selects RX6 yX6_valueAt yX6_valueAt]
def wz_k208_X6_sumOf : List Cond := .code yX6_sumOf cX6_sumOf 5 (some .int) :: (wo_k208_X6_sumOf ++ (wz_k188_X6_hasReading ++ (wz_k179_X6_valueAt ++ ([] : List Cond))))
theorem zg_k208_X6_sumOf : ∀ w ∈ wz_k208_X6_sumOf, goodWord w = true := zg_cons rfl (zg_app (by decide +kernel) (zg_app zg_k188_X6_hasReading (zg_app zg_k179_X6_valueAt zg_nil)))
theorem zi_k208_X6_sumOf : ∀ w ∈ wz_k208_X6_sumOf, w ∈ lw_tbl := zi_cons zw_910 (zi_app (zi_cons zw_905 (zi_cons zw_840 (zi_cons zw_841 (zi_cons zw_109 (zi_cons zw_843 (zi_cons zw_807 (zi_cons zw_808 zi_nil))))))) (zi_app zi_k188_X6_hasReading (zi_app zi_k179_X6_valueAt zi_nil)))
set_option maxHeartbeats 4000000 in
set_option maxRecDepth 100000 in
theorem k208_X6_sumOf (l : Launch) (D : va_G) (zt : Nat × Nat × Nat × (Nat → Nat) × (Nat → Nat)) (q : Nat → Nat) (d : Nat → ClassId) (I : Nat → Int32) (A : Nat → Nat → Int32) (z1 : Int32) (z2 : Int32) (hIv : IvX I A) : GM l D zt (tyX d) yX6_sumOf wz_k208_X6_sumOf ({ frames := 2, cells := 0, slots := 0, locals := 42 } : Room) [.ref (q 13), .int z1, .int z2] (wX q d I A) (fun v _ w' => ∃ y0 : Int32, v = some (.int y0) ∧ w' = wX q d I A) 0 0 := by
  refine GM.of (cc := cX6_sumOf) (maxL := 5) (ret := (some .int)) (own := RX6) (lv := [(0, .ref (q 13)), (1, .int z1), (2, .int z2)]) (by decide) rfl rfl (Nat.le_of_ble_eq_true rfl) rfl (fun κ sz hk hR hN => ?_)
  refine g_iconst (v := 0) hk dX6_sumOf_0 (by decide) ?_
  refine g_istore_n (lv' := [(3, .int 0), (0, .ref (q 13)), (1, .int z1), (2, .int z2)]) hk dX6_sumOf_1 (by decide) rfl ?_
  refine g_iconst (v := 0) hk dX6_sumOf_2 (by decide) ?_
  refine g_istore (lv' := [(4, .int 0), (3, .int 0), (0, .ref (q 13)), (1, .int z1), (2, .int z2)]) hk dX6_sumOf_3 (by decide) rfl ?_
  have lp2315 : ∀ (n2316 : Nat) (x2271 : Int32) (x2272 : Int32), (0 ≤ x2271.toInt) → (z2.toInt + 1 - x2271.toInt < (n2316 : Int)) → (0 < n2316) → GW κ 5 0 0 (wX q d I A) 5 [(4, .int x2271), (3, .int x2272), (0, .ref (q 13)), (1, .int z1), (2, .int z2)] [] := by
    intro n2316
    induction n2316 with
    | zero =>
      intro x2271 x2272 h2314 m2317 m2317z
      exact absurd m2317z (Nat.lt_irrefl 0)
    | succ n2316 ih =>
      intro x2271 x2272 h2314 m2317 m2317z
      refine g_iload hk dX6_sumOf_5 rfl ?_
      refine g_iload_n hk dX6_sumOf_7 rfl ?_
      have b2318l := Int32.le_toInt x2271
      have b2318h := Int32.toInt_lt x2271
      have b2319l := Int32.le_toInt z2
      have b2319h := Int32.toInt_lt z2
      refine g_icmp_ge (tgt := 39) (a := x2271.toInt) (b := z2.toInt) hk dX6_sumOf_8 (by decide) rfl rfl (fun c2320 => ?_) (fun c2320 => ?_)
      · skip
        refine g_iload_n hk dX6_sumOf_39 rfl ?_
        have b2321l := Int32.le_toInt x2272
        have b2321h := Int32.toInt_lt x2272
        exact g_iret hk hR rfl ⟨x2272, rfl, rfl⟩ dX6_sumOf_40
      · skip
        refine g_aload_n hk dX6_sumOf_11 rfl ?_
        refine g_iload_n hk dX6_sumOf_12 rfl ?_
        refine g_iload hk dX6_sumOf_13 rfl ?_
        have b2322l := Int32.le_toInt z1
        have b2322h := Int32.toInt_lt z1
        refine g_iadd hk dX6_sumOf_15 ?_
        refine g_topi (fun y2323 ey2323 => ?_)
        refine g_callV (n := 1) hk (k188_X6_hasReading l D zt q d I A y2323 hIv) (SP.same _) (fun _ h => h) (gi_V (List.mem_cons_of_mem _ (List.mem_append_left _ (List.mem_of_getElem? (i := 0) rfl))) (List.mem_cons_of_mem _ (List.mem_append_left _ (List.mem_of_getElem? (i := 1) rfl))) (List.mem_cons_of_mem _ (List.mem_append_left _ (List.mem_of_getElem? (i := 2) rfl))) (List.mem_cons_of_mem _ (List.mem_append_left _ (List.mem_of_getElem? (i := 3) rfl))) (gi_sub (fun w h => (List.mem_cons_of_mem _ (List.mem_append_right _ (List.mem_append_left _ h)))) zg_k188_X6_hasReading)) rfl rfl rfl (by decide +kernel) ⟨Nat.le_of_ble_eq_true rfl, Nat.le_of_ble_eq_true rfl⟩ 13 rfl rfl rfl rfl (Nat.le_of_ble_eq_true rfl) ⟨Nat.le_of_ble_eq_true rfl, Nat.le_of_ble_eq_true rfl⟩ dX6_sumOf_16 (fun v ty' w' hp hk' => ?_)
        rcases hp with ⟨rfl, rfl⟩ | ⟨rfl, rfl⟩
        · skip
          show GW κ 5 0 0 (wX q d I A) 19 [(4, .int x2271), (3, .int x2272), (0, .ref (q 13)), (1, .int z1), (2, .int z2)] [.int 0]
          refine g_if_eq (tgt := 33) (a := 0) hk dX6_sumOf_19 (by decide) rfl (fun _ => ?_) (fun z9 => absurd (show (0 : Int) = (0 : Int) from by decide) z9)
          obtain ⟨y2326, ey2326⟩ : ∃ y : Int32, y = x2271 + Int32.ofInt 1 := ⟨_, rfl⟩
          have hy2326 : y2326.toInt = x2271.toInt + 1 := i32_add ey2326 rfl (by decide) (by omega) (by omega)
          refine g_iinc (v := y2326) (lv' := [(4, .int y2326), (3, .int x2272), (0, .ref (q 13)), (1, .int z1), (2, .int z2)]) hk 0 dX6_sumOf_33 rfl ey2326.symm (by decide) rfl ?_
          refine g_goto (tgt := 5) hk dX6_sumOf_36 (by decide) ?_
          exact g_lv (List.forall_mem_cons.mpr ⟨List.mem_of_getElem? (i := 0) rfl, (List.forall_mem_cons.mpr ⟨List.mem_of_getElem? (i := 1) rfl, (List.forall_mem_cons.mpr ⟨List.mem_of_getElem? (i := 2) rfl, (List.forall_mem_cons.mpr ⟨List.mem_of_getElem? (i := 3) rfl, (List.forall_mem_cons.mpr ⟨List.mem_of_getElem? (i := 4) rfl, (fun _ h => absurd h List.not_mem_nil)⟩)⟩)⟩)⟩)⟩) (ih y2326 x2272 (by omega) (by omega) (by omega))
        · skip
          show GW κ 5 0 0 (wX q d I A) 19 [(4, .int x2271), (3, .int x2272), (0, .ref (q 13)), (1, .int z1), (2, .int z2)] [.int 1]
          refine g_if_eq (tgt := 33) (a := 1) hk dX6_sumOf_19 (by decide) rfl (fun z9 => absurd z9 (show ¬ ((1 : Int) = (0 : Int)) from by decide)) (fun _ => ?_)
          refine g_iload_n hk dX6_sumOf_22 rfl ?_
          refine g_aload_n hk dX6_sumOf_23 rfl ?_
          refine g_iload_n hk dX6_sumOf_24 rfl ?_
          refine g_iload hk dX6_sumOf_25 rfl ?_
          refine g_iadd hk dX6_sumOf_27 ?_
          refine g_topi (fun y2327 ey2327 => ?_)
          refine g_callV (n := 1) hk (k179_X6_valueAt l D zt q d I A y2327 hIv) (SP.same _) (fun _ h => h) (gi_V (List.mem_cons_of_mem _ (List.mem_append_left _ (List.mem_of_getElem? (i := 4) rfl))) (List.mem_cons_of_mem _ (List.mem_append_left _ (List.mem_of_getElem? (i := 5) rfl))) (List.mem_cons_of_mem _ (List.mem_append_left _ (List.mem_of_getElem? (i := 6) rfl))) (List.mem_cons_of_mem _ (List.mem_append_left _ (List.mem_of_getElem? (i := 3) rfl))) (gi_sub (fun w h => (List.mem_cons_of_mem _ (List.mem_append_right _ (List.mem_append_right _ (List.mem_append_left _ h))))) zg_k179_X6_valueAt)) rfl rfl rfl (by decide +kernel) ⟨Nat.le_of_ble_eq_true rfl, Nat.le_of_ble_eq_true rfl⟩ 13 rfl rfl rfl rfl (Nat.le_of_ble_eq_true rfl) ⟨Nat.le_of_ble_eq_true rfl, Nat.le_of_ble_eq_true rfl⟩ dX6_sumOf_28 (fun v ty' w' hp hk' => ?_)
          obtain ⟨y2328, rfl, rfl⟩ := hp
          show GW κ 5 0 0 (wX q d I A) 31 [(4, .int x2271), (3, .int x2272), (0, .ref (q 13)), (1, .int z1), (2, .int z2)] [.int y2328, .int x2272]
          have b2329l := Int32.le_toInt x2272
          have b2329h := Int32.toInt_lt x2272
          have b2330l := Int32.le_toInt y2328
          have b2330h := Int32.toInt_lt y2328
          refine g_iadd hk dX6_sumOf_31 ?_
          refine g_topi (fun y2331 ey2331 => ?_)
          refine g_istore_n (lv' := [(3, .int y2331), (4, .int x2271), (0, .ref (q 13)), (1, .int z1), (2, .int z2)]) hk dX6_sumOf_32 (by decide) rfl ?_
          obtain ⟨y2332, ey2332⟩ : ∃ y : Int32, y = x2271 + Int32.ofInt 1 := ⟨_, rfl⟩
          have hy2332 : y2332.toInt = x2271.toInt + 1 := i32_add ey2332 rfl (by decide) (by omega) (by omega)
          refine g_iinc (v := y2332) (lv' := [(4, .int y2332), (3, .int y2331), (0, .ref (q 13)), (1, .int z1), (2, .int z2)]) hk 1 dX6_sumOf_33 rfl ey2332.symm (by decide) rfl ?_
          refine g_goto (tgt := 5) hk dX6_sumOf_36 (by decide) ?_
          exact g_lv (List.forall_mem_cons.mpr ⟨List.mem_of_getElem? (i := 0) rfl, (List.forall_mem_cons.mpr ⟨List.mem_of_getElem? (i := 1) rfl, (List.forall_mem_cons.mpr ⟨List.mem_of_getElem? (i := 2) rfl, (List.forall_mem_cons.mpr ⟨List.mem_of_getElem? (i := 3) rfl, (List.forall_mem_cons.mpr ⟨List.mem_of_getElem? (i := 4) rfl, (fun _ h => absurd h List.not_mem_nil)⟩)⟩)⟩)⟩)⟩) (ih y2332 y2331 (by omega) (by omega) (by omega))
  have k2334 : (0 : Int32).toInt = 0 := rfl
  obtain ⟨n2333, n2333a, n2333b⟩ : ∃ n : Nat, z2.toInt + 1 - 0 < (n : Int) ∧ 0 < n := ⟨((z2.toInt + 1 - 0 : Int)).toNat + 1, by omega, by omega⟩
  exact lp2315 n2333 0 0 (by omega) n2333a n2333b
def wo_k209_X6_leastOf : List Cond := [Cond.methodLink RX6 33 yX6_valueAt, Cond.instanceMethod yX6_valueAt, Cond.selects RX6 yX6_valueAt yX6_valueAt, Cond.initialized RX6]
def wz_k209_X6_leastOf : List Cond := .code yX6_leastOf cX6_leastOf 6 (some .int) :: (wo_k209_X6_leastOf ++ (wz_k179_X6_valueAt ++ ([] : List Cond)))
theorem zg_k209_X6_leastOf : ∀ w ∈ wz_k209_X6_leastOf, goodWord w = true := zg_cons rfl (zg_app (by decide +kernel) (zg_app zg_k179_X6_valueAt zg_nil))
theorem zi_k209_X6_leastOf : ∀ w ∈ wz_k209_X6_leastOf, w ∈ lw_tbl := zi_cons zw_914 (zi_app (zi_cons zw_843 (zi_cons zw_807 (zi_cons zw_808 (zi_cons zw_109 zi_nil)))) (zi_app zi_k179_X6_valueAt zi_nil))
set_option maxHeartbeats 4000000 in
set_option maxRecDepth 100000 in
theorem k209_X6_leastOf (l : Launch) (D : va_G) (zt : Nat × Nat × Nat × (Nat → Nat) × (Nat → Nat)) (q : Nat → Nat) (d : Nat → ClassId) (I : Nat → Int32) (A : Nat → Nat → Int32) (z1 : Int32) (z2 : Int32) (hIv : IvX I A) : GM l D zt (tyX d) yX6_leastOf wz_k209_X6_leastOf ({ frames := 1, cells := 0, slots := 0, locals := 21 } : Room) [.ref (q 13), .int z1, .int z2] (wX q d I A) (fun v _ w' => ∃ y0 : Int32, v = some (.int y0) ∧ w' = wX q d I A) 0 0 := by
  refine GM.of (cc := cX6_leastOf) (maxL := 6) (ret := (some .int)) (own := RX6) (lv := [(0, .ref (q 13)), (1, .int z1), (2, .int z2)]) (by decide) rfl rfl (Nat.le_of_ble_eq_true rfl) rfl (fun κ sz hk hR hN => ?_)
  refine g_sipush (v := (-1000)) hk dX6_leastOf_0 (by decide) ?_
  refine g_istore_n (lv' := [(3, .int (-1000)), (0, .ref (q 13)), (1, .int z1), (2, .int z2)]) hk dX6_leastOf_3 (by decide) rfl ?_
  refine g_iconst (v := 0) hk dX6_leastOf_4 (by decide) ?_
  refine g_istore (lv' := [(4, .int 0), (3, .int (-1000)), (0, .ref (q 13)), (1, .int z1), (2, .int z2)]) hk dX6_leastOf_5 (by decide) rfl ?_
  have lp2381 : ∀ (n2382 : Nat) (x2338 : Int32) (x2339 : Int32), (0 ≤ x2338.toInt) → (z2.toInt + 1 - x2338.toInt < (n2382 : Int)) → (0 < n2382) → GW κ 6 0 0 (wX q d I A) 7 [(4, .int x2338), (3, .int x2339), (0, .ref (q 13)), (1, .int z1), (2, .int z2)] [] := by
    intro n2382
    induction n2382 with
    | zero =>
      intro x2338 x2339 h2380 m2383 m2383z
      exact absurd m2383z (Nat.lt_irrefl 0)
    | succ n2382 ih =>
      intro x2338 x2339 h2380 m2383 m2383z
      refine g_iload hk dX6_leastOf_7 rfl ?_
      refine g_iload_n hk dX6_leastOf_9 rfl ?_
      have b2384l := Int32.le_toInt x2338
      have b2384h := Int32.toInt_lt x2338
      have b2385l := Int32.le_toInt z2
      have b2385h := Int32.toInt_lt z2
      refine g_icmp_ge (tgt := 53) (a := x2338.toInt) (b := z2.toInt) hk dX6_leastOf_10 (by decide) rfl rfl (fun c2386 => ?_) (fun c2386 => ?_)
      · skip
        refine g_iload_n hk dX6_leastOf_53 rfl ?_
        have b2387l := Int32.le_toInt x2339
        have b2387h := Int32.toInt_lt x2339
        exact g_iret hk hR rfl ⟨x2339, rfl, rfl⟩ dX6_leastOf_54
      · skip
        refine g_aload_n hk dX6_leastOf_13 rfl ?_
        refine g_iload_n hk dX6_leastOf_14 rfl ?_
        refine g_iload hk dX6_leastOf_15 rfl ?_
        have b2388l := Int32.le_toInt z1
        have b2388h := Int32.toInt_lt z1
        refine g_iadd hk dX6_leastOf_17 ?_
        refine g_topi (fun y2389 ey2389 => ?_)
        refine g_callV (n := 1) hk (k179_X6_valueAt l D zt q d I A y2389 hIv) (SP.same _) (fun _ h => h) (gi_V (List.mem_cons_of_mem _ (List.mem_append_left _ (List.mem_of_getElem? (i := 0) rfl))) (List.mem_cons_of_mem _ (List.mem_append_left _ (List.mem_of_getElem? (i := 1) rfl))) (List.mem_cons_of_mem _ (List.mem_append_left _ (List.mem_of_getElem? (i := 2) rfl))) (List.mem_cons_of_mem _ (List.mem_append_left _ (List.mem_of_getElem? (i := 3) rfl))) (gi_sub (fun w h => (List.mem_cons_of_mem _ (List.mem_append_right _ (List.mem_append_left _ h)))) zg_k179_X6_valueAt)) rfl rfl rfl (by decide +kernel) ⟨Nat.le_of_ble_eq_true rfl, Nat.le_of_ble_eq_true rfl⟩ 13 rfl rfl rfl rfl (Nat.le_of_ble_eq_true rfl) ⟨Nat.le_of_ble_eq_true rfl, Nat.le_of_ble_eq_true rfl⟩ dX6_leastOf_18 (fun v ty' w' hp hk' => ?_)
        obtain ⟨y2390, rfl, rfl⟩ := hp
        show GW κ 6 0 0 (wX q d I A) 21 [(4, .int x2338), (3, .int x2339), (0, .ref (q 13)), (1, .int z1), (2, .int z2)] [.int y2390]
        refine g_istore (lv' := [(5, .int y2390), (4, .int x2338), (3, .int x2339), (0, .ref (q 13)), (1, .int z1), (2, .int z2)]) hk dX6_leastOf_21 (by decide) rfl ?_
        refine g_iload hk dX6_leastOf_23 rfl ?_
        refine g_sipush (v := (-1000)) hk dX6_leastOf_25 (by decide) ?_
        have b2391l := Int32.le_toInt y2390
        have b2391h := Int32.toInt_lt y2390
        refine g_icmp_eq (tgt := 47) (a := y2390.toInt) (b := (-1000)) hk dX6_leastOf_28 (by decide) rfl rfl (fun c2392 => ?_) (fun c2392 => ?_)
        · skip
          obtain ⟨y2393, ey2393⟩ : ∃ y : Int32, y = x2338 + Int32.ofInt 1 := ⟨_, rfl⟩
          have hy2393 : y2393.toInt = x2338.toInt + 1 := i32_add ey2393 rfl (by decide) (by omega) (by omega)
          refine g_iinc (v := y2393) (lv' := [(4, .int y2393), (5, .int y2390), (3, .int x2339), (0, .ref (q 13)), (1, .int z1), (2, .int z2)]) hk 1 dX6_leastOf_47 rfl ey2393.symm (by decide) rfl ?_
          refine g_goto (tgt := 7) hk dX6_leastOf_50 (by decide) ?_
          exact g_lv (List.forall_mem_cons.mpr ⟨List.mem_of_getElem? (i := 0) rfl, (List.forall_mem_cons.mpr ⟨List.mem_of_getElem? (i := 2) rfl, (List.forall_mem_cons.mpr ⟨List.mem_of_getElem? (i := 3) rfl, (List.forall_mem_cons.mpr ⟨List.mem_of_getElem? (i := 4) rfl, (List.forall_mem_cons.mpr ⟨List.mem_of_getElem? (i := 5) rfl, (fun _ h => absurd h List.not_mem_nil)⟩)⟩)⟩)⟩)⟩) (ih y2393 x2339 (by omega) (by omega) (by omega))
        · skip
          refine g_iload_n hk dX6_leastOf_31 rfl ?_
          refine g_sipush (v := (-1000)) hk dX6_leastOf_32 (by decide) ?_
          have b2394l := Int32.le_toInt x2339
          have b2394h := Int32.toInt_lt x2339
          refine g_icmp_eq (tgt := 44) (a := x2339.toInt) (b := (-1000)) hk dX6_leastOf_35 (by decide) rfl rfl (fun c2395 => ?_) (fun c2395 => ?_)
          · skip
            refine g_iload hk dX6_leastOf_44 rfl ?_
            refine g_istore_n (lv' := [(3, .int y2390), (5, .int y2390), (4, .int x2338), (0, .ref (q 13)), (1, .int z1), (2, .int z2)]) hk dX6_leastOf_46 (by decide) rfl ?_
            obtain ⟨y2396, ey2396⟩ : ∃ y : Int32, y = x2338 + Int32.ofInt 1 := ⟨_, rfl⟩
            have hy2396 : y2396.toInt = x2338.toInt + 1 := i32_add ey2396 rfl (by decide) (by omega) (by omega)
            refine g_iinc (v := y2396) (lv' := [(4, .int y2396), (3, .int y2390), (5, .int y2390), (0, .ref (q 13)), (1, .int z1), (2, .int z2)]) hk 2 dX6_leastOf_47 rfl ey2396.symm (by decide) rfl ?_
            refine g_goto (tgt := 7) hk dX6_leastOf_50 (by decide) ?_
            exact g_lv (List.forall_mem_cons.mpr ⟨List.mem_of_getElem? (i := 0) rfl, (List.forall_mem_cons.mpr ⟨List.mem_of_getElem? (i := 1) rfl, (List.forall_mem_cons.mpr ⟨List.mem_of_getElem? (i := 3) rfl, (List.forall_mem_cons.mpr ⟨List.mem_of_getElem? (i := 4) rfl, (List.forall_mem_cons.mpr ⟨List.mem_of_getElem? (i := 5) rfl, (fun _ h => absurd h List.not_mem_nil)⟩)⟩)⟩)⟩)⟩) (ih y2396 y2390 (by omega) (by omega) (by omega))
          · skip
            refine g_iload hk dX6_leastOf_38 rfl ?_
            refine g_iload_n hk dX6_leastOf_40 rfl ?_
            refine g_icmp_ge (tgt := 47) (a := y2390.toInt) (b := x2339.toInt) hk dX6_leastOf_41 (by decide) rfl rfl (fun c2397 => ?_) (fun c2397 => ?_)
            · skip
              obtain ⟨y2398, ey2398⟩ : ∃ y : Int32, y = x2338 + Int32.ofInt 1 := ⟨_, rfl⟩
              have hy2398 : y2398.toInt = x2338.toInt + 1 := i32_add ey2398 rfl (by decide) (by omega) (by omega)
              refine g_iinc (v := y2398) (lv' := [(4, .int y2398), (5, .int y2390), (3, .int x2339), (0, .ref (q 13)), (1, .int z1), (2, .int z2)]) hk 1 dX6_leastOf_47 rfl ey2398.symm (by decide) rfl ?_
              refine g_goto (tgt := 7) hk dX6_leastOf_50 (by decide) ?_
              exact g_lv (List.forall_mem_cons.mpr ⟨List.mem_of_getElem? (i := 0) rfl, (List.forall_mem_cons.mpr ⟨List.mem_of_getElem? (i := 2) rfl, (List.forall_mem_cons.mpr ⟨List.mem_of_getElem? (i := 3) rfl, (List.forall_mem_cons.mpr ⟨List.mem_of_getElem? (i := 4) rfl, (List.forall_mem_cons.mpr ⟨List.mem_of_getElem? (i := 5) rfl, (fun _ h => absurd h List.not_mem_nil)⟩)⟩)⟩)⟩)⟩) (ih y2398 x2339 (by omega) (by omega) (by omega))
            · skip
              refine g_iload hk dX6_leastOf_44 rfl ?_
              refine g_istore_n (lv' := [(3, .int y2390), (5, .int y2390), (4, .int x2338), (0, .ref (q 13)), (1, .int z1), (2, .int z2)]) hk dX6_leastOf_46 (by decide) rfl ?_
              obtain ⟨y2399, ey2399⟩ : ∃ y : Int32, y = x2338 + Int32.ofInt 1 := ⟨_, rfl⟩
              have hy2399 : y2399.toInt = x2338.toInt + 1 := i32_add ey2399 rfl (by decide) (by omega) (by omega)
              refine g_iinc (v := y2399) (lv' := [(4, .int y2399), (3, .int y2390), (5, .int y2390), (0, .ref (q 13)), (1, .int z1), (2, .int z2)]) hk 2 dX6_leastOf_47 rfl ey2399.symm (by decide) rfl ?_
              refine g_goto (tgt := 7) hk dX6_leastOf_50 (by decide) ?_
              exact g_lv (List.forall_mem_cons.mpr ⟨List.mem_of_getElem? (i := 0) rfl, (List.forall_mem_cons.mpr ⟨List.mem_of_getElem? (i := 1) rfl, (List.forall_mem_cons.mpr ⟨List.mem_of_getElem? (i := 3) rfl, (List.forall_mem_cons.mpr ⟨List.mem_of_getElem? (i := 4) rfl, (List.forall_mem_cons.mpr ⟨List.mem_of_getElem? (i := 5) rfl, (fun _ h => absurd h List.not_mem_nil)⟩)⟩)⟩)⟩)⟩) (ih y2399 y2390 (by omega) (by omega) (by omega))
  have k2401 : (0 : Int32).toInt = 0 := rfl
  have k2402 : ((-1000) : Int32).toInt = (-1000) := rfl
  obtain ⟨n2400, n2400a, n2400b⟩ : ∃ n : Nat, z2.toInt + 1 - 0 < (n : Int) ∧ 0 < n := ⟨((z2.toInt + 1 - 0 : Int)).toNat + 1, by omega, by omega⟩
  exact lp2381 n2400 0 (-1000) (by omega) n2400a n2400b
def wo_k210_X6_greatestOf : List Cond := [Cond.methodLink RX6 33 yX6_valueAt, Cond.instanceMethod yX6_valueAt, Cond.selects RX6 yX6_valueAt yX6_valueAt, Cond.initialized RX6, Cond.methodLink RX6 40 Lib.Math.max.name, Cond.static Lib.Math.max.name, Cond.initialized "java/lang/Math", Cond.code Lib.Math.max.name Lib.Math.max.code 2 (some .int)]
def wz_k210_X6_greatestOf : List Cond := .code yX6_greatestOf cX6_greatestOf 5 (some .int) :: (wo_k210_X6_greatestOf ++ (wz_k179_X6_valueAt ++ ([] : List Cond)))
theorem zg_k210_X6_greatestOf : ∀ w ∈ wz_k210_X6_greatestOf, goodWord w = true := zg_cons rfl (zg_app (by decide +kernel) (zg_app zg_k179_X6_valueAt zg_nil))
theorem zi_k210_X6_greatestOf : ∀ w ∈ wz_k210_X6_greatestOf, w ∈ lw_tbl := zi_cons zw_918 (zi_app (zi_cons zw_843 (zi_cons zw_807 (zi_cons zw_808 (zi_cons zw_109 (zi_cons zw_919 (zi_cons zw_920 (zi_cons zw_120 (zi_cons zw_921 zi_nil)))))))) (zi_app zi_k179_X6_valueAt zi_nil))
set_option maxHeartbeats 4000000 in
set_option maxRecDepth 100000 in
theorem k210_X6_greatestOf (l : Launch) (D : va_G) (zt : Nat × Nat × Nat × (Nat → Nat) × (Nat → Nat)) (q : Nat → Nat) (d : Nat → ClassId) (I : Nat → Int32) (A : Nat → Nat → Int32) (z1 : Int32) (z2 : Int32) (hIv : IvX I A) : GM l D zt (tyX d) yX6_greatestOf wz_k210_X6_greatestOf ({ frames := 1, cells := 0, slots := 0, locals := 21 } : Room) [.ref (q 13), .int z1, .int z2] (wX q d I A) (fun v _ w' => ∃ y0 : Int32, ((-1000) ≤ y0.toInt) ∧ v = some (.int y0) ∧ w' = wX q d I A) 0 0 := by
  refine GM.of (cc := cX6_greatestOf) (maxL := 5) (ret := (some .int)) (own := RX6) (lv := [(0, .ref (q 13)), (1, .int z1), (2, .int z2)]) (by decide) rfl rfl (Nat.le_of_ble_eq_true rfl) rfl (fun κ sz hk hR hN => ?_)
  refine g_sipush (v := (-1000)) hk dX6_greatestOf_0 (by decide) ?_
  refine g_istore_n (lv' := [(3, .int (-1000)), (0, .ref (q 13)), (1, .int z1), (2, .int z2)]) hk dX6_greatestOf_3 (by decide) rfl ?_
  refine g_iconst (v := 0) hk dX6_greatestOf_4 (by decide) ?_
  refine g_istore (lv' := [(4, .int 0), (3, .int (-1000)), (0, .ref (q 13)), (1, .int z1), (2, .int z2)]) hk dX6_greatestOf_5 (by decide) rfl ?_
  have lp2441 : ∀ (n2442 : Nat) (x2406 : Int32) (x2407 : Int32), (0 ≤ x2406.toInt) → ((-1000) ≤ x2407.toInt) → (z2.toInt + 1 - x2406.toInt < (n2442 : Int)) → (0 < n2442) → GW κ 5 0 0 (wX q d I A) 7 [(4, .int x2406), (3, .int x2407), (0, .ref (q 13)), (1, .int z1), (2, .int z2)] [] := by
    intro n2442
    induction n2442 with
    | zero =>
      intro x2406 x2407 h2439 h2440 m2443 m2443z
      exact absurd m2443z (Nat.lt_irrefl 0)
    | succ n2442 ih =>
      intro x2406 x2407 h2439 h2440 m2443 m2443z
      refine g_iload hk dX6_greatestOf_7 rfl ?_
      refine g_iload_n hk dX6_greatestOf_9 rfl ?_
      have b2444l := Int32.le_toInt x2406
      have b2444h := Int32.toInt_lt x2406
      have b2445l := Int32.le_toInt z2
      have b2445h := Int32.toInt_lt z2
      refine g_icmp_ge (tgt := 32) (a := x2406.toInt) (b := z2.toInt) hk dX6_greatestOf_10 (by decide) rfl rfl (fun c2446 => ?_) (fun c2446 => ?_)
      · skip
        refine g_iload_n hk dX6_greatestOf_32 rfl ?_
        have b2447l := Int32.le_toInt x2407
        have b2447h := Int32.toInt_lt x2407
        exact g_iret hk hR rfl ⟨x2407, (by omega), rfl, rfl⟩ dX6_greatestOf_33
      · skip
        refine g_iload_n hk dX6_greatestOf_13 rfl ?_
        refine g_aload_n hk dX6_greatestOf_14 rfl ?_
        refine g_iload_n hk dX6_greatestOf_15 rfl ?_
        refine g_iload hk dX6_greatestOf_16 rfl ?_
        have b2448l := Int32.le_toInt z1
        have b2448h := Int32.toInt_lt z1
        refine g_iadd hk dX6_greatestOf_18 ?_
        refine g_topi (fun y2449 ey2449 => ?_)
        refine g_callV (n := 1) hk (k179_X6_valueAt l D zt q d I A y2449 hIv) (SP.same _) (fun _ h => h) (gi_V (List.mem_cons_of_mem _ (List.mem_append_left _ (List.mem_of_getElem? (i := 0) rfl))) (List.mem_cons_of_mem _ (List.mem_append_left _ (List.mem_of_getElem? (i := 1) rfl))) (List.mem_cons_of_mem _ (List.mem_append_left _ (List.mem_of_getElem? (i := 2) rfl))) (List.mem_cons_of_mem _ (List.mem_append_left _ (List.mem_of_getElem? (i := 3) rfl))) (gi_sub (fun w h => (List.mem_cons_of_mem _ (List.mem_append_right _ (List.mem_append_left _ h)))) zg_k179_X6_valueAt)) rfl rfl rfl (by decide +kernel) ⟨Nat.le_of_ble_eq_true rfl, Nat.le_of_ble_eq_true rfl⟩ 13 rfl rfl rfl rfl (Nat.le_of_ble_eq_true rfl) ⟨Nat.le_of_ble_eq_true rfl, Nat.le_of_ble_eq_true rfl⟩ dX6_greatestOf_19 (fun v ty' w' hp hk' => ?_)
        obtain ⟨y2450, rfl, rfl⟩ := hp
        show GW κ 5 0 0 (wX q d I A) 22 [(4, .int x2406), (3, .int x2407), (0, .ref (q 13)), (1, .int z1), (2, .int z2)] [.int y2450, .int x2407]
        have b2451l := Int32.le_toInt y2450
        have b2451h := Int32.toInt_lt y2450
        have b2452l := Int32.le_toInt x2407
        have b2452h := Int32.toInt_lt x2407
        refine g_mmax hk (List.mem_cons_of_mem _ (List.mem_append_left _ (List.mem_of_getElem? (i := 4) rfl))) (List.mem_cons_of_mem _ (List.mem_append_left _ (List.mem_of_getElem? (i := 5) rfl))) (List.mem_cons_of_mem _ (List.mem_append_left _ (List.mem_of_getElem? (i := 6) rfl))) (List.mem_cons_of_mem _ (List.mem_append_left _ (List.mem_of_getElem? (i := 7) rfl))) (Nat.le_of_ble_eq_true rfl) (Nat.le_of_ble_eq_true rfl) (Nat.le_of_ble_eq_true rfl) (Nat.le_of_ble_eq_true rfl) dX6_greatestOf_22 ?_
        refine g_topi (fun y2453 ey2453 => ?_)
        have hy2453 := i32_max ey2453
        refine g_istore_n (lv' := [(3, .int y2453), (4, .int x2406), (0, .ref (q 13)), (1, .int z1), (2, .int z2)]) hk dX6_greatestOf_25 (by decide) rfl ?_
        obtain ⟨y2454, ey2454⟩ : ∃ y : Int32, y = x2406 + Int32.ofInt 1 := ⟨_, rfl⟩
        have hy2454 : y2454.toInt = x2406.toInt + 1 := i32_add ey2454 rfl (by decide) (by omega) (by omega)
        refine g_iinc (v := y2454) (lv' := [(4, .int y2454), (3, .int y2453), (0, .ref (q 13)), (1, .int z1), (2, .int z2)]) hk 1 dX6_greatestOf_26 rfl ey2454.symm (by decide) rfl ?_
        refine g_goto (tgt := 7) hk dX6_greatestOf_29 (by decide) ?_
        exact g_lv (List.forall_mem_cons.mpr ⟨List.mem_of_getElem? (i := 0) rfl, (List.forall_mem_cons.mpr ⟨List.mem_of_getElem? (i := 1) rfl, (List.forall_mem_cons.mpr ⟨List.mem_of_getElem? (i := 2) rfl, (List.forall_mem_cons.mpr ⟨List.mem_of_getElem? (i := 3) rfl, (List.forall_mem_cons.mpr ⟨List.mem_of_getElem? (i := 4) rfl, (fun _ h => absurd h List.not_mem_nil)⟩)⟩)⟩)⟩)⟩) (ih y2454 y2453 (by omega) (by omega) (by omega) (by omega))
  have k2456 : (0 : Int32).toInt = 0 := rfl
  have k2457 : ((-1000) : Int32).toInt = (-1000) := rfl
  obtain ⟨n2455, n2455a, n2455b⟩ : ∃ n : Nat, z2.toInt + 1 - 0 < (n : Int) ∧ 0 < n := ⟨((z2.toInt + 1 - 0 : Int)).toNat + 1, by omega, by omega⟩
  exact lp2441 n2455 0 (-1000) (by omega) (by omega) n2455a n2455b
def wo_k206_X11_window : List Cond := [Cond.constant RX11 186 (-1000000), Cond.fieldLink RX11 28 "WarpDesk" "series" "LWarpDesk$Series;", Cond.methodLink RX11 183 yX6_hasWindow, Cond.instanceMethod yX6_hasWindow, Cond.selects RX6 yX6_hasWindow yX6_hasWindow, Cond.initialized RX6, Cond.methodLink RX11 187 yX6_sumOf, Cond.instanceMethod yX6_sumOf, Cond.selects RX6 yX6_sumOf yX6_sumOf, Cond.methodLink RX11 190 yX6_leastOf, Cond.instanceMethod yX6_leastOf, Cond.selects RX6 yX6_leastOf yX6_leastOf, Cond.methodLink RX11 193 yX6_greatestOf, Cond.instanceMethod yX6_greatestOf, Cond.selects RX6 yX6_greatestOf yX6_greatestOf, Cond.methodLink RX11 142 yJ9_floorDiv_7cf53, Cond.static yJ9_floorDiv_7cf53, Cond.initialized RJ9]
def wz_k206_X11_window : List Cond := .code yX11_window cX11_window 4 (some .int) :: (wo_k206_X11_window ++ (wsX110 ++ (wz_k207_X6_hasWindow ++ (wz_k208_X6_sumOf ++ (wz_k209_X6_leastOf ++ (wz_k210_X6_greatestOf ++ (wz_k189_J9_floorDiv_7cf53 ++ ([] : List Cond))))))))
theorem zg_k206_X11_window : ∀ w ∈ wz_k206_X11_window, goodWord w = true := zg_cons rfl (zg_app (by decide +kernel) (zg_app zgU_wsX110 (zg_app zg_k207_X6_hasWindow (zg_app zg_k208_X6_sumOf (zg_app zg_k209_X6_leastOf (zg_app zg_k210_X6_greatestOf (zg_app zg_k189_J9_floorDiv_7cf53 zg_nil)))))))
theorem zi_k206_X11_window : ∀ w ∈ wz_k206_X11_window, w ∈ lw_tbl := zi_cons zw_900 (zi_app (zi_cons zw_906 (zi_cons zw_489 (zi_cons zw_901 (zi_cons zw_902 (zi_cons zw_903 (zi_cons zw_109 (zi_cons zw_907 (zi_cons zw_908 (zi_cons zw_909 (zi_cons zw_911 (zi_cons zw_912 (zi_cons zw_913 (zi_cons zw_915 (zi_cons zw_916 (zi_cons zw_917 (zi_cons zw_844 (zi_cons zw_845 (zi_cons zw_120 zi_nil)))))))))))))))))) (zi_app inX11 (zi_app zi_k207_X6_hasWindow (zi_app zi_k208_X6_sumOf (zi_app zi_k209_X6_leastOf (zi_app zi_k210_X6_greatestOf (zi_app zi_k189_J9_floorDiv_7cf53 zi_nil)))))))
set_option maxHeartbeats 4000000 in
set_option maxRecDepth 100000 in
theorem k206_X11_window (l : Launch) (D : va_G) (zt : Nat × Nat × Nat × (Nat → Nat) × (Nat → Nat)) (q : Nat → Nat) (d : Nat → ClassId) (I : Nat → Int32) (A : Nat → Nat → Int32) (z1 : Int32) (z2 : Int32) (z3 : Int32) (hIv : IvX I A) : GM l D zt (tyX d) yX11_window wz_k206_X11_window ({ frames := 3, cells := 0, slots := 0, locals := 66 } : Room) [.ref (q 0), .int z1, .int z2, .int z3] (wX q d I A) (fun v _ w' => ∃ y0 : Int32, v = some (.int y0) ∧ w' = wX q d I A) 0 0 := by
  refine GM.of (cc := cX11_window) (maxL := 4) (ret := (some .int)) (own := RX11) (lv := [(0, .ref (q 0)), (1, .int z1), (2, .int z2), (3, .int z3)]) (by decide) rfl rfl (Nat.le_of_ble_eq_true rfl) rfl (fun κ sz hk hR hN => ?_)
  have hin11 : ∀ w ∈ u_ws RX11 TX11 10, w ∈ wz_k206_X11_window := fun w h => (List.mem_cons_of_mem _ (List.mem_append_right _ (List.mem_append_left _ h)))
  refine g_iload_n hk dX11_window_0 rfl ?_
  refine g_iconst (v := 1) hk dX11_window_1 (by decide) ?_
  have b2216l := Int32.le_toInt z2
  have b2216h := Int32.toInt_lt z2
  refine g_icmp_lt (tgt := 17) (a := z2.toInt) (b := 1) hk dX11_window_2 (by decide) rfl rfl (fun c2217 => ?_) (fun c2217 => ?_)
  · skip
    refine g_ldc (v := (-1000000)) hk (List.mem_cons_of_mem _ (List.mem_append_left _ (List.mem_of_getElem? (i := 0) rfl))) dX11_window_17 ?_
    exact g_iret hk hR rfl ⟨(-1000000), rfl, rfl⟩ dX11_window_19
  · skip
    refine g_aload_n hk dX11_window_5 rfl ?_
    refine gX_r0_2 hk hin11 (List.mem_cons_of_mem _ (List.mem_append_left _ (List.mem_of_getElem? (i := 1) rfl))) dX11_window_6 ?_
    refine g_iload_n hk dX11_window_9 rfl ?_
    refine g_iload_n hk dX11_window_10 rfl ?_
    refine g_callV (n := 2) hk (k207_X6_hasWindow l D zt q d I A z1 z2 hIv) (SP.same _) (fun _ h => h) (gi_V (List.mem_cons_of_mem _ (List.mem_append_left _ (List.mem_of_getElem? (i := 2) rfl))) (List.mem_cons_of_mem _ (List.mem_append_left _ (List.mem_of_getElem? (i := 3) rfl))) (List.mem_cons_of_mem _ (List.mem_append_left _ (List.mem_of_getElem? (i := 4) rfl))) (List.mem_cons_of_mem _ (List.mem_append_left _ (List.mem_of_getElem? (i := 5) rfl))) (gi_sub (fun w h => (List.mem_cons_of_mem _ (List.mem_append_right _ (List.mem_append_right _ (List.mem_append_left _ h))))) zg_k207_X6_hasWindow)) rfl rfl rfl (by decide +kernel) ⟨Nat.le_of_ble_eq_true rfl, Nat.le_of_ble_eq_true rfl⟩ 13 rfl rfl rfl rfl (Nat.le_of_ble_eq_true rfl) ⟨Nat.le_of_ble_eq_true rfl, Nat.le_of_ble_eq_true rfl⟩ dX11_window_11 (fun v ty' w' hp hk' => ?_)
    rcases hp with ⟨rfl, rfl⟩ | ⟨c2263, c2264, c2265, c2266, c2267, c2268, rfl, rfl⟩
    · skip
      show GW κ 4 0 0 (wX q d I A) 14 [(0, .ref (q 0)), (1, .int z1), (2, .int z2), (3, .int z3)] [.int 0]
      refine g_if_ne (tgt := 20) (a := 0) hk dX11_window_14 (by decide) rfl (fun z9 => absurd z9 (show ¬ ((0 : Int) ≠ (0 : Int)) from by decide)) (fun _ => ?_)
      refine g_ldc (v := (-1000000)) hk (List.mem_cons_of_mem _ (List.mem_append_left _ (List.mem_of_getElem? (i := 0) rfl))) dX11_window_17 ?_
      exact g_iret hk hR rfl ⟨(-1000000), rfl, rfl⟩ dX11_window_19
    · skip
      show GW κ 4 0 0 (wX q d I A) 14 [(0, .ref (q 0)), (1, .int z1), (2, .int z2), (3, .int z3)] [.int 1]
      refine g_if_ne (tgt := 20) (a := 1) hk dX11_window_14 (by decide) rfl (fun _ => ?_) (fun z9 => absurd (show (1 : Int) ≠ (0 : Int) from by decide) z9)
      refine g_iload_n hk dX11_window_20 rfl ?_
      by_cases c2270 : z3.toInt = 0
      · refine g_tabIn (tgt := 52) (a := 0) hk dX11_window_21 c2270 (by decide) (by decide) rfl (by decide) ?_
        refine g_aload_n hk dX11_window_52 rfl ?_
        refine gX_r0_2 hk hin11 (List.mem_cons_of_mem _ (List.mem_append_left _ (List.mem_of_getElem? (i := 1) rfl))) dX11_window_53 ?_
        refine g_iload_n hk dX11_window_56 rfl ?_
        refine g_iload_n hk dX11_window_57 rfl ?_
        refine g_callV (n := 2) hk (k208_X6_sumOf l D zt q d I A z1 z2 hIv) (SP.same _) (fun _ h => h) (gi_V (List.mem_cons_of_mem _ (List.mem_append_left _ (List.mem_of_getElem? (i := 6) rfl))) (List.mem_cons_of_mem _ (List.mem_append_left _ (List.mem_of_getElem? (i := 7) rfl))) (List.mem_cons_of_mem _ (List.mem_append_left _ (List.mem_of_getElem? (i := 8) rfl))) (List.mem_cons_of_mem _ (List.mem_append_left _ (List.mem_of_getElem? (i := 5) rfl))) (gi_sub (fun w h => (List.mem_cons_of_mem _ (List.mem_append_right _ (List.mem_append_right _ (List.mem_append_right _ (List.mem_append_left _ h)))))) zg_k208_X6_sumOf)) rfl rfl rfl (by decide +kernel) ⟨Nat.le_of_ble_eq_true rfl, Nat.le_of_ble_eq_true rfl⟩ 13 rfl rfl rfl rfl (Nat.le_of_ble_eq_true rfl) ⟨Nat.le_of_ble_eq_true rfl, Nat.le_of_ble_eq_true rfl⟩ dX11_window_58 (fun v ty' w' hp hk' => ?_)
        obtain ⟨y2335, rfl, rfl⟩ := hp
        show GW κ 4 0 0 (wX q d I A) 61 [(0, .ref (q 0)), (1, .int z1), (2, .int z2), (3, .int z3)] [.int y2335]
        have b2336l := Int32.le_toInt y2335
        have b2336h := Int32.toInt_lt y2335
        exact g_iret hk hR rfl ⟨y2335, rfl, rfl⟩ dX11_window_61
      by_cases c2337 : z3.toInt = 1
      · refine g_tabIn (tgt := 62) (a := 1) hk dX11_window_21 c2337 (by decide) (by decide) rfl (by decide) ?_
        refine g_aload_n hk dX11_window_62 rfl ?_
        refine gX_r0_2 hk hin11 (List.mem_cons_of_mem _ (List.mem_append_left _ (List.mem_of_getElem? (i := 1) rfl))) dX11_window_63 ?_
        refine g_iload_n hk dX11_window_66 rfl ?_
        refine g_iload_n hk dX11_window_67 rfl ?_
        refine g_callV (n := 2) hk (k209_X6_leastOf l D zt q d I A z1 z2 hIv) (SP.same _) (fun _ h => h) (gi_V (List.mem_cons_of_mem _ (List.mem_append_left _ (List.mem_of_getElem? (i := 9) rfl))) (List.mem_cons_of_mem _ (List.mem_append_left _ (List.mem_of_getElem? (i := 10) rfl))) (List.mem_cons_of_mem _ (List.mem_append_left _ (List.mem_of_getElem? (i := 11) rfl))) (List.mem_cons_of_mem _ (List.mem_append_left _ (List.mem_of_getElem? (i := 5) rfl))) (gi_sub (fun w h => (List.mem_cons_of_mem _ (List.mem_append_right _ (List.mem_append_right _ (List.mem_append_right _ (List.mem_append_right _ (List.mem_append_left _ h))))))) zg_k209_X6_leastOf)) rfl rfl rfl (by decide +kernel) ⟨Nat.le_of_ble_eq_true rfl, Nat.le_of_ble_eq_true rfl⟩ 13 rfl rfl rfl rfl (Nat.le_of_ble_eq_true rfl) ⟨Nat.le_of_ble_eq_true rfl, Nat.le_of_ble_eq_true rfl⟩ dX11_window_68 (fun v ty' w' hp hk' => ?_)
        obtain ⟨y2403, rfl, rfl⟩ := hp
        show GW κ 4 0 0 (wX q d I A) 71 [(0, .ref (q 0)), (1, .int z1), (2, .int z2), (3, .int z3)] [.int y2403]
        have b2404l := Int32.le_toInt y2403
        have b2404h := Int32.toInt_lt y2403
        exact g_iret hk hR rfl ⟨y2403, rfl, rfl⟩ dX11_window_71
      by_cases c2405 : z3.toInt = 2
      · refine g_tabIn (tgt := 72) (a := 2) hk dX11_window_21 c2405 (by decide) (by decide) rfl (by decide) ?_
        refine g_aload_n hk dX11_window_72 rfl ?_
        refine gX_r0_2 hk hin11 (List.mem_cons_of_mem _ (List.mem_append_left _ (List.mem_of_getElem? (i := 1) rfl))) dX11_window_73 ?_
        refine g_iload_n hk dX11_window_76 rfl ?_
        refine g_iload_n hk dX11_window_77 rfl ?_
        refine g_callV (n := 2) hk (k210_X6_greatestOf l D zt q d I A z1 z2 hIv) (SP.same _) (fun _ h => h) (gi_V (List.mem_cons_of_mem _ (List.mem_append_left _ (List.mem_of_getElem? (i := 12) rfl))) (List.mem_cons_of_mem _ (List.mem_append_left _ (List.mem_of_getElem? (i := 13) rfl))) (List.mem_cons_of_mem _ (List.mem_append_left _ (List.mem_of_getElem? (i := 14) rfl))) (List.mem_cons_of_mem _ (List.mem_append_left _ (List.mem_of_getElem? (i := 5) rfl))) (gi_sub (fun w h => (List.mem_cons_of_mem _ (List.mem_append_right _ (List.mem_append_right _ (List.mem_append_right _ (List.mem_append_right _ (List.mem_append_right _ (List.mem_append_left _ h)))))))) zg_k210_X6_greatestOf)) rfl rfl rfl (by decide +kernel) ⟨Nat.le_of_ble_eq_true rfl, Nat.le_of_ble_eq_true rfl⟩ 13 rfl rfl rfl rfl (Nat.le_of_ble_eq_true rfl) ⟨Nat.le_of_ble_eq_true rfl, Nat.le_of_ble_eq_true rfl⟩ dX11_window_78 (fun v ty' w' hp hk' => ?_)
        obtain ⟨y2458, c2459, rfl, rfl⟩ := hp
        show GW κ 4 0 0 (wX q d I A) 81 [(0, .ref (q 0)), (1, .int z1), (2, .int z2), (3, .int z3)] [.int y2458]
        have b2460l := Int32.le_toInt y2458
        have b2460h := Int32.toInt_lt y2458
        exact g_iret hk hR rfl ⟨y2458, rfl, rfl⟩ dX11_window_81
      by_cases c2461 : z3.toInt = 3
      · refine g_tabIn (tgt := 82) (a := 3) hk dX11_window_21 c2461 (by decide) (by decide) rfl (by decide) ?_
        refine g_aload_n hk dX11_window_82 rfl ?_
        refine gX_r0_2 hk hin11 (List.mem_cons_of_mem _ (List.mem_append_left _ (List.mem_of_getElem? (i := 1) rfl))) dX11_window_83 ?_
        refine g_iload_n hk dX11_window_86 rfl ?_
        refine g_iload_n hk dX11_window_87 rfl ?_
        refine g_callV (n := 2) hk (k208_X6_sumOf l D zt q d I A z1 z2 hIv) (SP.same _) (fun _ h => h) (gi_V (List.mem_cons_of_mem _ (List.mem_append_left _ (List.mem_of_getElem? (i := 6) rfl))) (List.mem_cons_of_mem _ (List.mem_append_left _ (List.mem_of_getElem? (i := 7) rfl))) (List.mem_cons_of_mem _ (List.mem_append_left _ (List.mem_of_getElem? (i := 8) rfl))) (List.mem_cons_of_mem _ (List.mem_append_left _ (List.mem_of_getElem? (i := 5) rfl))) (gi_sub (fun w h => (List.mem_cons_of_mem _ (List.mem_append_right _ (List.mem_append_right _ (List.mem_append_right _ (List.mem_append_left _ h)))))) zg_k208_X6_sumOf)) rfl rfl rfl (by decide +kernel) ⟨Nat.le_of_ble_eq_true rfl, Nat.le_of_ble_eq_true rfl⟩ 13 rfl rfl rfl rfl (Nat.le_of_ble_eq_true rfl) ⟨Nat.le_of_ble_eq_true rfl, Nat.le_of_ble_eq_true rfl⟩ dX11_window_88 (fun v ty' w' hp hk' => ?_)
        obtain ⟨y2462, rfl, rfl⟩ := hp
        show GW κ 4 0 0 (wX q d I A) 91 [(0, .ref (q 0)), (1, .int z1), (2, .int z2), (3, .int z3)] [.int y2462]
        refine g_iload_n hk dX11_window_91 rfl ?_
        refine g_callS (n := 2) hk (k189_J9_floorDiv_7cf53 l D zt q d I A y2462 z2 hIv (by omega)) (SP.same _) (fun _ h => h) (gi_S (List.mem_cons_of_mem _ (List.mem_append_left _ (List.mem_of_getElem? (i := 15) rfl))) (List.mem_cons_of_mem _ (List.mem_append_left _ (List.mem_of_getElem? (i := 16) rfl))) (List.mem_cons_of_mem _ (List.mem_append_left _ (List.mem_of_getElem? (i := 17) rfl))) (gi_sub (fun w h => (List.mem_cons_of_mem _ (List.mem_append_right _ (List.mem_append_right _ (List.mem_append_right _ (List.mem_append_right _ (List.mem_append_right _ (List.mem_append_right _ (List.mem_append_left _ h))))))))) zg_k189_J9_floorDiv_7cf53)) rfl rfl rfl (by decide +kernel) ⟨Nat.le_of_ble_eq_true rfl, Nat.le_of_ble_eq_true rfl⟩ rfl rfl (Nat.le_of_ble_eq_true rfl) ⟨Nat.le_of_ble_eq_true rfl, Nat.le_of_ble_eq_true rfl⟩ dX11_window_92 (fun v ty' w' hp hk' => ?_)
        obtain ⟨y2463, rfl, rfl⟩ := hp
        show GW κ 4 0 0 (wX q d I A) 95 [(0, .ref (q 0)), (1, .int z1), (2, .int z2), (3, .int z3)] [.int y2463]
        have b2464l := Int32.le_toInt y2463
        have b2464h := Int32.toInt_lt y2463
        exact g_iret hk hR rfl ⟨y2463, rfl, rfl⟩ dX11_window_95
      refine g_tabOut (tgt := 96) (a := z3.toInt) hk dX11_window_21 rfl (by omega) (by decide) ?_
      refine g_ldc (v := (-1000000)) hk (List.mem_cons_of_mem _ (List.mem_append_left _ (List.mem_of_getElem? (i := 0) rfl))) dX11_window_96 ?_
      exact g_iret hk hR rfl ⟨(-1000000), rfl, rfl⟩ dX11_window_98
def wo_k212_X11_isStretch : List Cond := []
def wz_k212_X11_isStretch : List Cond := .code yX11_isStretch cX11_isStretch 1 (some .boolean) :: (wo_k212_X11_isStretch ++ ([] : List Cond))
theorem zg_k212_X11_isStretch : ∀ w ∈ wz_k212_X11_isStretch, goodWord w = true := zg_cons rfl (zg_app (by decide +kernel) zg_nil)
theorem zi_k212_X11_isStretch : ∀ w ∈ wz_k212_X11_isStretch, w ∈ lw_tbl := zi_cons zw_928 (zi_app zi_nil zi_nil)
set_option maxHeartbeats 4000000 in
set_option maxRecDepth 100000 in
theorem k212_X11_isStretch (l : Launch) (D : va_G) (zt : Nat × Nat × Nat × (Nat → Nat) × (Nat → Nat)) (q : Nat → Nat) (d : Nat → ClassId) (I : Nat → Int32) (A : Nat → Nat → Int32) (z0 : Int32) (hIv : IvX I A) : GM l D zt (tyX d) yX11_isStretch wz_k212_X11_isStretch ({ frames := 0, cells := 0, slots := 0, locals := 0 } : Room) [.int z0] (wX q d I A) (fun v _ w' => (v = some (.int 0) ∧ w' = wX q d I A) ∨ ((¬ (z0.toInt < 2)) ∧ (¬ (16 < z0.toInt)) ∧ (2 ≤ z0.toInt) ∧ (z0.toInt ≤ 16) ∧ v = some (.int 1) ∧ w' = wX q d I A)) 0 0 := by
  refine GM.of (cc := cX11_isStretch) (maxL := 1) (ret := (some .boolean)) (own := RX11) (lv := [(0, .int z0)]) (by decide) rfl rfl (Nat.le_of_ble_eq_true rfl) rfl (fun κ sz hk hR hN => ?_)
  refine g_iload_n hk dX11_isStretch_0 rfl ?_
  refine g_iconst (v := 2) hk dX11_isStretch_1 (by decide) ?_
  have b2465l := Int32.le_toInt z0
  have b2465h := Int32.toInt_lt z0
  refine g_icmp_lt (tgt := 15) (a := z0.toInt) (b := 2) hk dX11_isStretch_2 (by decide) rfl rfl (fun c2466 => ?_) (fun c2466 => ?_)
  · skip
    refine g_iconst (v := 0) hk dX11_isStretch_15 (by decide) ?_
    exact g_iret hk hR rfl (Or.inl ⟨rfl, rfl⟩) dX11_isStretch_16
  · skip
    refine g_iload_n hk dX11_isStretch_5 rfl ?_
    refine g_bipush (v := 16) hk dX11_isStretch_6 (by decide) ?_
    refine g_icmp_gt (tgt := 15) (a := z0.toInt) (b := 16) hk dX11_isStretch_8 (by decide) rfl rfl (fun c2467 => ?_) (fun c2467 => ?_)
    · skip
      refine g_iconst (v := 0) hk dX11_isStretch_15 (by decide) ?_
      exact g_iret hk hR rfl (Or.inl ⟨rfl, rfl⟩) dX11_isStretch_16
    · skip
      refine g_iconst (v := 1) hk dX11_isStretch_11 (by decide) ?_
      refine g_goto (tgt := 16) hk dX11_isStretch_12 (by decide) ?_
      exact g_iret hk hR rfl (Or.inr (⟨c2466, c2467, (by omega), (by omega), rfl, rfl⟩)) dX11_isStretch_16
def wo_k215_X2_begin : List Cond := [Cond.methodLink RX2 28 Lib.Math.min.name, Cond.static Lib.Math.min.name, Cond.initialized "java/lang/Math", Cond.code Lib.Math.min.name Lib.Math.min.code 2 (some .int), Cond.methodLink RX2 34 Lib.Math.max.name, Cond.static Lib.Math.max.name, Cond.code Lib.Math.max.name Lib.Math.max.code 2 (some .int), Cond.fieldLink RX2 24 "WarpDesk$Fit" "length" "I", Cond.fieldLink RX2 37 "WarpDesk$Fit" "band" "I", Cond.fieldLink RX2 42 "WarpDesk$Fit" "isSquare" "Z"]
def wz_k215_X2_begin : List Cond := .code yX2_begin cX2_begin 4 none :: (wo_k215_X2_begin ++ (wsX20 ++ ([] : List Cond)))
theorem zg_k215_X2_begin : ∀ w ∈ wz_k215_X2_begin, goodWord w = true := zg_cons rfl (zg_app (by decide +kernel) (zg_app zgU_wsX20 zg_nil))
theorem zi_k215_X2_begin : ∀ w ∈ wz_k215_X2_begin, w ∈ lw_tbl := zi_cons zw_941 (zi_app (zi_cons zw_942 (zi_cons zw_829 (zi_cons zw_120 (zi_cons zw_830 (zi_cons zw_943 (zi_cons zw_920 (zi_cons zw_921 (zi_cons zw_343 (zi_cons zw_344 (zi_cons zw_345 zi_nil)))))))))) (zi_app inX2 zi_nil))
set_option maxHeartbeats 4000000 in
set_option maxRecDepth 100000 in
theorem k215_X2_begin (l : Launch) (D : va_G) (zt : Nat × Nat × Nat × (Nat → Nat) × (Nat → Nat)) (q : Nat → Nat) (d : Nat → ClassId) (I : Nat → Int32) (A : Nat → Nat → Int32) (z1 : Int32) (z2 : Int32) (z3 : Int32) (hIv : IvX I A) : GM l D zt (tyX d) yX2_begin wz_k215_X2_begin ({ frames := 1, cells := 0, slots := 0, locals := 15 } : Room) [.ref (q 38), .int z1, .int z2, .int z3] (wX q d I A) (fun v _ w' => ∃ (I' : Nat → Int32) (A' : Nat → Nat → Int32), Md [30, 31, 32] I I' ∧ Md [] A A' ∧ IvX I' A' ∧ v = none ∧ w' = wX q d I' A') 0 0 := by
  refine GM.of (cc := cX2_begin) (maxL := 4) (ret := none) (own := RX2) (lv := [(0, .ref (q 38)), (1, .int z1), (2, .int z2), (3, .int z3)]) (by decide) rfl rfl (Nat.le_of_ble_eq_true rfl) rfl (fun κ sz hk hR hN => ?_)
  have hin2 : ∀ w ∈ u_ws RX2 TX2 10, w ∈ wz_k215_X2_begin := fun w h => (List.mem_cons_of_mem _ (List.mem_append_right _ (List.mem_append_left _ h)))
  refine g_aload_n hk dX2_begin_0 rfl ?_
  refine g_iconst (v := 1) hk dX2_begin_1 (by decide) ?_
  refine g_iload_n hk dX2_begin_2 rfl ?_
  refine g_bipush (v := 16) hk dX2_begin_3 (by decide) ?_
  have b2489l := Int32.le_toInt z1
  have b2489h := Int32.toInt_lt z1
  refine g_mmin hk (List.mem_cons_of_mem _ (List.mem_append_left _ (List.mem_of_getElem? (i := 0) rfl))) (List.mem_cons_of_mem _ (List.mem_append_left _ (List.mem_of_getElem? (i := 1) rfl))) (List.mem_cons_of_mem _ (List.mem_append_left _ (List.mem_of_getElem? (i := 2) rfl))) (List.mem_cons_of_mem _ (List.mem_append_left _ (List.mem_of_getElem? (i := 3) rfl))) (Nat.le_of_ble_eq_true rfl) (Nat.le_of_ble_eq_true rfl) (Nat.le_of_ble_eq_true rfl) (Nat.le_of_ble_eq_true rfl) dX2_begin_5 ?_
  refine g_topi (fun y2490 ey2490 => ?_)
  have k2491 : (16 : Int32).toInt = 16 := rfl
  have hy2490 := i32_min ey2490
  have b2492l := Int32.le_toInt y2490
  have b2492h := Int32.toInt_lt y2490
  refine g_mmax hk (List.mem_cons_of_mem _ (List.mem_append_left _ (List.mem_of_getElem? (i := 4) rfl))) (List.mem_cons_of_mem _ (List.mem_append_left _ (List.mem_of_getElem? (i := 5) rfl))) (List.mem_cons_of_mem _ (List.mem_append_left _ (List.mem_of_getElem? (i := 2) rfl))) (List.mem_cons_of_mem _ (List.mem_append_left _ (List.mem_of_getElem? (i := 6) rfl))) (Nat.le_of_ble_eq_true rfl) (Nat.le_of_ble_eq_true rfl) (Nat.le_of_ble_eq_true rfl) (Nat.le_of_ble_eq_true rfl) dX2_begin_8 ?_
  refine g_topi (fun y2493 ey2493 => ?_)
  have k2494 : (1 : Int32).toInt = 1 := rfl
  have hy2493 := i32_max ey2493
  refine pX_i30 hk hin2 (List.mem_cons_of_mem _ (List.mem_append_left _ (List.mem_of_getElem? (i := 7) rfl))) dX2_begin_11 ?_
  refine g_aload_n hk dX2_begin_14 rfl ?_
  refine g_iconst (v := 0) hk dX2_begin_15 (by decide) ?_
  refine g_iload_n hk dX2_begin_16 rfl ?_
  have b2495l := Int32.le_toInt z2
  have b2495h := Int32.toInt_lt z2
  refine g_mmax hk (List.mem_cons_of_mem _ (List.mem_append_left _ (List.mem_of_getElem? (i := 4) rfl))) (List.mem_cons_of_mem _ (List.mem_append_left _ (List.mem_of_getElem? (i := 5) rfl))) (List.mem_cons_of_mem _ (List.mem_append_left _ (List.mem_of_getElem? (i := 2) rfl))) (List.mem_cons_of_mem _ (List.mem_append_left _ (List.mem_of_getElem? (i := 6) rfl))) (Nat.le_of_ble_eq_true rfl) (Nat.le_of_ble_eq_true rfl) (Nat.le_of_ble_eq_true rfl) (Nat.le_of_ble_eq_true rfl) dX2_begin_17 ?_
  refine g_topi (fun y2496 ey2496 => ?_)
  have k2497 : (0 : Int32).toInt = 0 := rfl
  have hy2496 := i32_max ey2496
  refine pX_i31 hk hin2 (List.mem_cons_of_mem _ (List.mem_append_left _ (List.mem_of_getElem? (i := 8) rfl))) dX2_begin_20 ?_
  refine g_aload_n hk dX2_begin_23 rfl ?_
  refine g_iload_n hk dX2_begin_24 rfl ?_
  refine g_iconst (v := 1) hk dX2_begin_25 (by decide) ?_
  have b2498l := Int32.le_toInt z3
  have b2498h := Int32.toInt_lt z3
  refine g_icmp_ne (tgt := 33) (a := z3.toInt) (b := 1) hk dX2_begin_26 (by decide) rfl rfl (fun c2499 => ?_) (fun c2499 => ?_)
  · skip
    refine g_iconst (v := 0) hk dX2_begin_33 (by decide) ?_
    refine pX_i32 hk hin2 (List.mem_cons_of_mem _ (List.mem_append_left _ (List.mem_of_getElem? (i := 9) rfl))) ⟨rfl, rfl⟩ dX2_begin_34 ?_
    have b2500l := Int32.le_toInt y2496
    have b2500h := Int32.toInt_lt y2496
    exact g_vret hk hR ⟨(upd (upd (upd I 30 y2493) 31 y2496) 32 0), A, (show Md [30, 31, 32] I (upd (upd (upd I 30 y2493) 31 y2496) 32 0) from (Md.up (Md.up (Md.up Md.rf rfl) rfl) rfl)), (show Md [] A A from Md.rf), ⟨(IvX_f0 (I := I) (A := A) hIv), (IvX_f18 (I := I) (A := A) hIv), (show 1 ≤ y2493.toInt ∧ y2493.toInt ≤ 16 from ⟨by omega, by omega⟩), (show 0 ≤ y2496.toInt ∧ y2496.toInt ≤ 2147483647 from ⟨by omega, by omega⟩), (IvX_a4 (I := I) (A := A) hIv), (IvX_a9 (I := I) (A := A) hIv), trivial⟩, rfl, rfl⟩ dX2_begin_37
  · skip
    refine g_iconst (v := 1) hk dX2_begin_29 (by decide) ?_
    refine g_goto (tgt := 34) hk dX2_begin_30 (by decide) ?_
    refine pX_i32 hk hin2 (List.mem_cons_of_mem _ (List.mem_append_left _ (List.mem_of_getElem? (i := 9) rfl))) ⟨rfl, rfl⟩ dX2_begin_34 ?_
    have b2501l := Int32.le_toInt y2496
    have b2501h := Int32.toInt_lt y2496
    exact g_vret hk hR ⟨(upd (upd (upd I 30 y2493) 31 y2496) 32 1), A, (show Md [30, 31, 32] I (upd (upd (upd I 30 y2493) 31 y2496) 32 1) from (Md.up (Md.up (Md.up Md.rf rfl) rfl) rfl)), (show Md [] A A from Md.rf), ⟨(IvX_f0 (I := I) (A := A) hIv), (IvX_f18 (I := I) (A := A) hIv), (show 1 ≤ y2493.toInt ∧ y2493.toInt ≤ 16 from ⟨by omega, by omega⟩), (show 0 ≤ y2496.toInt ∧ y2496.toInt ≤ 2147483647 from ⟨by omega, by omega⟩), (IvX_a4 (I := I) (A := A) hIv), (IvX_a9 (I := I) (A := A) hIv), trivial⟩, rfl, rfl⟩ dX2_begin_37
def wo_k214_X0_begin : List Cond := [Cond.fieldLink RX0 77 "WarpDesk$Bench" "length" "I", Cond.fieldLink RX0 12 "WarpDesk$Bench" "fit" "LWarpDesk$Fit;", Cond.fieldLink RX0 26 "WarpDesk$Bench" "settings" "LWarpDesk$Settings;", Cond.methodLink RX0 49 yX7_valueOf, Cond.instanceMethod yX7_valueOf, Cond.selects RX7 yX7_valueOf yX7_valueOf, Cond.initialized RX7, Cond.methodLink RX0 85 yX2_begin, Cond.instanceMethod yX2_begin, Cond.selects RX2 yX2_begin yX2_begin, Cond.initialized RX2]
def wz_k214_X0_begin : List Cond := .code yX0_begin cX0_begin 3 none :: (wo_k214_X0_begin ++ (wsX00 ++ (wz_k194_X7_valueOf ++ (wz_k215_X2_begin ++ ([] : List Cond)))))
theorem zg_k214_X0_begin : ∀ w ∈ wz_k214_X0_begin, goodWord w = true := zg_cons rfl (zg_app (by decide +kernel) (zg_app zgU_wsX00 (zg_app zg_k194_X7_valueOf (zg_app zg_k215_X2_begin zg_nil))))
theorem zi_k214_X0_begin : ∀ w ∈ wz_k214_X0_begin, w ∈ lw_tbl := zi_cons zw_937 (zi_app (zi_cons zw_384 (zi_cons zw_380 (zi_cons zw_378 (zi_cons zw_933 (zi_cons zw_786 (zi_cons zw_787 (zi_cons zw_107 (zi_cons zw_938 (zi_cons zw_939 (zi_cons zw_940 (zi_cons zw_112 zi_nil))))))))))) (zi_app inX0 (zi_app zi_k194_X7_valueOf (zi_app zi_k215_X2_begin zi_nil))))
set_option maxHeartbeats 4000000 in
set_option maxRecDepth 100000 in
theorem k214_X0_begin (l : Launch) (D : va_G) (zt : Nat × Nat × Nat × (Nat → Nat) × (Nat → Nat)) (q : Nat → Nat) (d : Nat → ClassId) (I : Nat → Int32) (A : Nat → Nat → Int32) (z1 : Int32) (z2 : Int32) (hIv : IvX I A) : GM l D zt (tyX d) yX0_begin wz_k214_X0_begin ({ frames := 2, cells := 0, slots := 0, locals := 38 } : Room) [.ref (q 37), .int z1, .int z2] (wX q d I A) (fun v _ w' => ∃ (I' : Nat → Int32) (A' : Nat → Nat → Int32), Md [28, 30, 31, 32] I I' ∧ Md [] A A' ∧ IvX I' A' ∧ v = none ∧ w' = wX q d I' A') 0 0 := by
  refine GM.of (cc := cX0_begin) (maxL := 3) (ret := none) (own := RX0) (lv := [(0, .ref (q 37)), (1, .int z1), (2, .int z2)]) (by decide) rfl rfl (Nat.le_of_ble_eq_true rfl) rfl (fun κ sz hk hR hN => ?_)
  have hin0 : ∀ w ∈ u_ws RX0 TX0 5, w ∈ wz_k214_X0_begin := fun w h => (List.mem_cons_of_mem _ (List.mem_append_right _ (List.mem_append_left _ h)))
  refine g_aload_n hk dX0_begin_0 rfl ?_
  refine g_iload_n hk dX0_begin_1 rfl ?_
  refine pX_i28 hk hin0 (List.mem_cons_of_mem _ (List.mem_append_left _ (List.mem_of_getElem? (i := 0) rfl))) dX0_begin_2 ?_
  refine g_aload_n hk dX0_begin_5 rfl ?_
  refine gX_r37_3 hk hin0 (List.mem_cons_of_mem _ (List.mem_append_left _ (List.mem_of_getElem? (i := 1) rfl))) dX0_begin_6 ?_
  refine g_iload_n hk dX0_begin_9 rfl ?_
  refine g_iload_n hk dX0_begin_10 rfl ?_
  refine g_aload_n hk dX0_begin_11 rfl ?_
  refine gX_r37_2 hk hin0 (List.mem_cons_of_mem _ (List.mem_append_left _ (List.mem_of_getElem? (i := 2) rfl))) dX0_begin_12 ?_
  refine g_iconst (v := 2) hk dX0_begin_15 (by decide) ?_
  have k2487 : (2 : Int32).toInt = 2 := rfl
  refine g_callV (n := 1) hk (k194_X7_valueOf l D zt q d (upd I 28 z1) A 2 ⟨(IvX_f0 (I := I) (A := A) hIv), (IvX_f18 (I := I) (A := A) hIv), (IvX_f30 (I := I) (A := A) hIv), (IvX_f31 (I := I) (A := A) hIv), (IvX_a4 (I := I) (A := A) hIv), (IvX_a9 (I := I) (A := A) hIv), trivial⟩) (SP.same _) (fun _ h => h) (gi_V (List.mem_cons_of_mem _ (List.mem_append_left _ (List.mem_of_getElem? (i := 3) rfl))) (List.mem_cons_of_mem _ (List.mem_append_left _ (List.mem_of_getElem? (i := 4) rfl))) (List.mem_cons_of_mem _ (List.mem_append_left _ (List.mem_of_getElem? (i := 5) rfl))) (List.mem_cons_of_mem _ (List.mem_append_left _ (List.mem_of_getElem? (i := 6) rfl))) (gi_sub (fun w h => (List.mem_cons_of_mem _ (List.mem_append_right _ (List.mem_append_right _ (List.mem_append_left _ h))))) zg_k194_X7_valueOf)) rfl rfl rfl (by decide +kernel) ⟨Nat.le_of_ble_eq_true rfl, Nat.le_of_ble_eq_true rfl⟩ 18 rfl rfl rfl rfl (Nat.le_of_ble_eq_true rfl) ⟨Nat.le_of_ble_eq_true rfl, Nat.le_of_ble_eq_true rfl⟩ dX0_begin_16 (fun v ty' w' hp hk' => ?_)
  obtain ⟨y2488, rfl, rfl⟩ := hp
  show GW κ 3 0 0 (wX q d (upd I 28 z1) A) 19 [(0, .ref (q 37)), (1, .int z1), (2, .int z2)] [.int y2488, .int z2, .int z1, .ref (q 38)]
  refine g_callV (n := 3) hk (k215_X2_begin l D zt q d (upd I 28 z1) A z1 z2 y2488 ⟨(IvX_f0 (I := I) (A := A) hIv), (IvX_f18 (I := I) (A := A) hIv), (IvX_f30 (I := I) (A := A) hIv), (IvX_f31 (I := I) (A := A) hIv), (IvX_a4 (I := I) (A := A) hIv), (IvX_a9 (I := I) (A := A) hIv), trivial⟩) (SP.same _) (fun _ h => h) (gi_V (List.mem_cons_of_mem _ (List.mem_append_left _ (List.mem_of_getElem? (i := 7) rfl))) (List.mem_cons_of_mem _ (List.mem_append_left _ (List.mem_of_getElem? (i := 8) rfl))) (List.mem_cons_of_mem _ (List.mem_append_left _ (List.mem_of_getElem? (i := 9) rfl))) (List.mem_cons_of_mem _ (List.mem_append_left _ (List.mem_of_getElem? (i := 10) rfl))) (gi_sub (fun w h => (List.mem_cons_of_mem _ (List.mem_append_right _ (List.mem_append_right _ (List.mem_append_right _ (List.mem_append_left _ h)))))) zg_k215_X2_begin)) rfl rfl rfl (by decide +kernel) ⟨Nat.le_of_ble_eq_true rfl, Nat.le_of_ble_eq_true rfl⟩ 38 rfl rfl rfl rfl (Nat.le_of_ble_eq_true rfl) ⟨Nat.le_of_ble_eq_true rfl, Nat.le_of_ble_eq_true rfl⟩ dX0_begin_19 (fun v ty' w' hp hk' => ?_)
  obtain ⟨I2503, A2503, hI2503, hA2503, hV2503, rfl, rfl⟩ := hp
  show GW κ 3 0 0 (wX q d I2503 A2503) 22 [(0, .ref (q 37)), (1, .int z1), (2, .int z2)] []
  exact g_vret hk hR ⟨I2503, A2503, (show Md [28, 30, 31, 32] I I2503 from (Md.tr (Md.up Md.rf rfl) hI2503 rfl)), (show Md [] A A2503 from (Md.tr Md.rf hA2503 rfl)), hV2503, rfl, rfl⟩ dX0_begin_22
def wo_k216_X6_copyWindow : List Cond := [Cond.methodLink RX6 33 yX6_valueAt, Cond.instanceMethod yX6_valueAt, Cond.selects RX6 yX6_valueAt yX6_valueAt, Cond.initialized RX6]
def wz_k216_X6_copyWindow : List Cond := .code yX6_copyWindow cX6_copyWindow 5 none :: (wo_k216_X6_copyWindow ++ (wz_k179_X6_valueAt ++ ([] : List Cond)))
theorem zg_k216_X6_copyWindow : ∀ w ∈ wz_k216_X6_copyWindow, goodWord w = true := zg_cons rfl (zg_app (by decide +kernel) (zg_app zg_k179_X6_valueAt zg_nil))
theorem zi_k216_X6_copyWindow : ∀ w ∈ wz_k216_X6_copyWindow, w ∈ lw_tbl := zi_cons zw_947 (zi_app (zi_cons zw_843 (zi_cons zw_807 (zi_cons zw_808 (zi_cons zw_109 zi_nil)))) (zi_app zi_k179_X6_valueAt zi_nil))
set_option maxHeartbeats 4000000 in
set_option maxRecDepth 100000 in
theorem k216_X6_copyWindow (l : Launch) (D : va_G) (zt : Nat × Nat × Nat × (Nat → Nat) × (Nat → Nat)) (q : Nat → Nat) (d : Nat → ClassId) (I : Nat → Int32) (A : Nat → Nat → Int32) (z1 : Int32) (z2 : Int32) (hIv : IvX I A) : GM l D zt (tyX d) yX6_copyWindow wz_k216_X6_copyWindow ({ frames := 1, cells := 0, slots := 0, locals := 21 } : Room) [.ref (q 13), .int z1, .int z2, .ref (q 39)] (wX q d I A) (fun v _ w' => ∃ (I' : Nat → Int32) (A' : Nat → Nat → Int32), Md [] I I' ∧ Md [21] A A' ∧ IvX I' A' ∧ v = none ∧ w' = wX q d I' A') 0 0 := by
  refine GM.of (cc := cX6_copyWindow) (maxL := 5) (ret := none) (own := RX6) (lv := [(0, .ref (q 13)), (1, .int z1), (2, .int z2), (3, .ref (q 39))]) (by decide) rfl rfl (Nat.le_of_ble_eq_true rfl) rfl (fun κ sz hk hR hN => ?_)
  refine g_iconst (v := 0) hk dX6_copyWindow_0 (by decide) ?_
  refine g_istore (lv' := [(4, .int 0), (0, .ref (q 13)), (1, .int z1), (2, .int z2), (3, .ref (q 39))]) hk dX6_copyWindow_1 (by decide) rfl ?_
  have lp2540 : ∀ (n2541 : Nat) (x2506 : Int32) (I2511 : Nat → Int32) (A2511 : Nat → Nat → Int32), (Md [] I I2511) → (Md [21] A A2511) → (IvX I2511 A2511) → (0 ≤ x2506.toInt) → (x2506.toInt ≤ 16) → (z2.toInt + 1 - x2506.toInt < (n2541 : Int)) → (0 < n2541) → GW κ 5 0 0 (wX q d I2511 A2511) 3 [(4, .int x2506), (0, .ref (q 13)), (1, .int z1), (2, .int z2), (3, .ref (q 39))] [] := by
    intro n2541
    induction n2541 with
    | zero =>
      intro x2506 I2511 A2511 hI2511 hA2511 hV2511 h2538 h2539 m2542 m2542z
      exact absurd m2542z (Nat.lt_irrefl 0)
    | succ n2541 ih =>
      intro x2506 I2511 A2511 hI2511 hA2511 hV2511 h2538 h2539 m2542 m2542z
      refine g_iload hk dX6_copyWindow_3 rfl ?_
      refine g_iload_n hk dX6_copyWindow_5 rfl ?_
      have b2543l := Int32.le_toInt z2
      have b2543h := Int32.toInt_lt z2
      refine g_icmp_ge (tgt := 34) (a := x2506.toInt) (b := z2.toInt) hk dX6_copyWindow_6 (by decide) rfl rfl (fun c2544 => ?_) (fun c2544 => ?_)
      · skip
        exact g_vret hk hR ⟨I2511, A2511, (show Md [] I I2511 from (Md.tr Md.rf hI2511 rfl)), (show Md [21] A A2511 from (Md.tr Md.rf hA2511 rfl)), hV2511, rfl, rfl⟩ dX6_copyWindow_34
      · skip
        refine g_iload hk dX6_copyWindow_9 rfl ?_
        refine g_aload_n hk dX6_copyWindow_11 rfl ?_
        refine nX_21 hk dX6_copyWindow_12 ?_
        refine g_icmp_ge (tgt := 34) (a := x2506.toInt) (b := 16) hk dX6_copyWindow_13 (by decide) rfl rfl (fun c2545 => ?_) (fun c2545 => ?_)
        · skip
          exact g_vret hk hR ⟨I2511, A2511, (show Md [] I I2511 from (Md.tr Md.rf hI2511 rfl)), (show Md [21] A A2511 from (Md.tr Md.rf hA2511 rfl)), hV2511, rfl, rfl⟩ dX6_copyWindow_34
        · skip
          refine g_aload_n hk dX6_copyWindow_16 rfl ?_
          refine g_iload hk dX6_copyWindow_17 rfl ?_
          refine g_aload_n hk dX6_copyWindow_19 rfl ?_
          refine g_iload_n hk dX6_copyWindow_20 rfl ?_
          refine g_iload hk dX6_copyWindow_21 rfl ?_
          have b2546l := Int32.le_toInt z1
          have b2546h := Int32.toInt_lt z1
          refine g_iadd hk dX6_copyWindow_23 ?_
          refine g_topi (fun y2547 ey2547 => ?_)
          refine g_callV (n := 1) hk (k179_X6_valueAt l D zt q d I2511 A2511 y2547 hV2511) (SP.same _) (fun _ h => h) (gi_V (List.mem_cons_of_mem _ (List.mem_append_left _ (List.mem_of_getElem? (i := 0) rfl))) (List.mem_cons_of_mem _ (List.mem_append_left _ (List.mem_of_getElem? (i := 1) rfl))) (List.mem_cons_of_mem _ (List.mem_append_left _ (List.mem_of_getElem? (i := 2) rfl))) (List.mem_cons_of_mem _ (List.mem_append_left _ (List.mem_of_getElem? (i := 3) rfl))) (gi_sub (fun w h => (List.mem_cons_of_mem _ (List.mem_append_right _ (List.mem_append_left _ h)))) zg_k179_X6_valueAt)) rfl rfl rfl (by decide +kernel) ⟨Nat.le_of_ble_eq_true rfl, Nat.le_of_ble_eq_true rfl⟩ 13 rfl rfl rfl rfl (Nat.le_of_ble_eq_true rfl) ⟨Nat.le_of_ble_eq_true rfl, Nat.le_of_ble_eq_true rfl⟩ dX6_copyWindow_24 (fun v ty' w' hp hk' => ?_)
          obtain ⟨y2548, rfl, rfl⟩ := hp
          show GW κ 5 0 0 (wX q d I2511 A2511) 27 [(4, .int x2506), (0, .ref (q 13)), (1, .int z1), (2, .int z2), (3, .ref (q 39))] [.int y2548, .int x2506, .ref (q 39)]
          refine sX_21 (j := x2506.toNatClampNeg) hk (vp_in_iff.mpr ⟨by omega, by omega⟩) rfl dX6_copyWindow_27 ?_
          obtain ⟨y2549, ey2549⟩ : ∃ y : Int32, y = x2506 + Int32.ofInt 1 := ⟨_, rfl⟩
          have hy2549 : y2549.toInt = x2506.toInt + 1 := i32_add ey2549 rfl (by decide) (by omega) (by omega)
          refine g_iinc (v := y2549) (lv' := [(4, .int y2549), (0, .ref (q 13)), (1, .int z1), (2, .int z2), (3, .ref (q 39))]) hk 0 dX6_copyWindow_28 rfl ey2549.symm (by decide) rfl ?_
          refine g_goto (tgt := 3) hk dX6_copyWindow_31 (by decide) ?_
          exact g_lv (List.forall_mem_cons.mpr ⟨List.mem_of_getElem? (i := 0) rfl, (List.forall_mem_cons.mpr ⟨List.mem_of_getElem? (i := 1) rfl, (List.forall_mem_cons.mpr ⟨List.mem_of_getElem? (i := 2) rfl, (List.forall_mem_cons.mpr ⟨List.mem_of_getElem? (i := 3) rfl, (List.forall_mem_cons.mpr ⟨List.mem_of_getElem? (i := 4) rfl, (fun _ h => absurd h List.not_mem_nil)⟩)⟩)⟩)⟩)⟩) (ih y2549 I2511 (up3 A2511 21 (x2506.toNatClampNeg) y2548) (show Md [] I I2511 from Md.tr hI2511 (show Md [] I2511 I2511 from Md.rf) rfl) (show Md [21] A (up3 A2511 21 (x2506.toNatClampNeg) y2548) from Md.tr hA2511 (show Md [21] A2511 (up3 A2511 21 (x2506.toNatClampNeg) y2548) from (Md.up3 Md.rf rfl)) rfl) ⟨(IvX_f0 (I := I2511) (A := A2511) hV2511), (IvX_f18 (I := I2511) (A := A2511) hV2511), (IvX_f30 (I := I2511) (A := A2511) hV2511), (IvX_f31 (I := I2511) (A := A2511) hV2511), (IvX_a4 (I := I2511) (A := A2511) hV2511), (IvX_a9 (I := I2511) (A := A2511) hV2511), trivial⟩ (by omega) (by omega) (by omega) (by omega))
  have k2551 : (0 : Int32).toInt = 0 := rfl
  obtain ⟨n2550, n2550a, n2550b⟩ : ∃ n : Nat, z2.toInt + 1 - 0 < (n : Int) ∧ 0 < n := ⟨((z2.toInt + 1 - 0 : Int)).toNat + 1, by omega, by omega⟩
  exact lp2540 n2550 0 I A Md.rf Md.rf hIv (by omega) (by omega) n2550a n2550b
def wo_k218_X2_spreadAll : List Cond := [Cond.fieldLink RX2 24 "WarpDesk$Fit" "length" "I", Cond.methodLink RX2 28 Lib.Math.min.name, Cond.static Lib.Math.min.name, Cond.initialized "java/lang/Math", Cond.code Lib.Math.min.name Lib.Math.min.code 2 (some .int), Cond.methodLink RX2 34 Lib.Math.max.name, Cond.static Lib.Math.max.name, Cond.code Lib.Math.max.name Lib.Math.max.code 2 (some .int)]
def wz_k218_X2_spreadAll : List Cond := .code yX2_spreadAll cX2_spreadAll 6 none :: (wo_k218_X2_spreadAll ++ (wsX20 ++ ([] : List Cond)))
theorem zg_k218_X2_spreadAll : ∀ w ∈ wz_k218_X2_spreadAll, goodWord w = true := zg_cons rfl (zg_app (by decide +kernel) (zg_app zgU_wsX20 zg_nil))
theorem zi_k218_X2_spreadAll : ∀ w ∈ wz_k218_X2_spreadAll, w ∈ lw_tbl := zi_cons zw_964 (zi_app (zi_cons zw_343 (zi_cons zw_942 (zi_cons zw_829 (zi_cons zw_120 (zi_cons zw_830 (zi_cons zw_943 (zi_cons zw_920 (zi_cons zw_921 zi_nil)))))))) (zi_app inX2 zi_nil))
set_option maxHeartbeats 4000000 in
set_option maxRecDepth 100000 in
theorem k218_X2_spreadAll (l : Launch) (D : va_G) (zt : Nat × Nat × Nat × (Nat → Nat) × (Nat → Nat)) (q : Nat → Nat) (d : Nat → ClassId) (I : Nat → Int32) (A : Nat → Nat → Int32) (hIv : IvX I A) : GM l D zt (tyX d) yX2_spreadAll wz_k218_X2_spreadAll ({ frames := 1, cells := 0, slots := 0, locals := 13 } : Room) [.ref (q 38), .ref (q 39)] (wX q d I A) (fun v _ w' => ∃ (I' : Nat → Int32) (A' : Nat → Nat → Int32), Md [] I I' ∧ Md [21] A A' ∧ IvX I' A' ∧ v = none ∧ w' = wX q d I' A') 0 0 := by
  refine GM.of (cc := cX2_spreadAll) (maxL := 6) (ret := none) (own := RX2) (lv := [(0, .ref (q 38)), (1, .ref (q 39))]) (by decide) rfl rfl (Nat.le_of_ble_eq_true rfl) rfl (fun κ sz hk hR hN => ?_)
  have hin2 : ∀ w ∈ u_ws RX2 TX2 10, w ∈ wz_k218_X2_spreadAll := fun w h => (List.mem_cons_of_mem _ (List.mem_append_right _ (List.mem_append_left _ h)))
  refine g_aload_n hk dX2_spreadAll_0 rfl ?_
  refine g_iconst (v := 0) hk dX2_spreadAll_1 (by decide) ?_
  refine lX_21 (v := (A 21 0)) hk (vp_in_iff.mpr ⟨by decide, by decide⟩) rfl dX2_spreadAll_2 ?_
  refine g_istore_n (lv' := [(2, .int (A 21 0)), (0, .ref (q 38)), (1, .ref (q 39))]) hk dX2_spreadAll_3 (by decide) rfl ?_
  refine g_aload_n hk dX2_spreadAll_4 rfl ?_
  refine g_iconst (v := 0) hk dX2_spreadAll_5 (by decide) ?_
  refine lX_21 (v := (A 21 0)) hk (vp_in_iff.mpr ⟨by decide, by decide⟩) rfl dX2_spreadAll_6 ?_
  refine g_istore_n (lv' := [(3, .int (A 21 0)), (2, .int (A 21 0)), (0, .ref (q 38)), (1, .ref (q 39))]) hk dX2_spreadAll_7 (by decide) rfl ?_
  refine g_iconst (v := 1) hk dX2_spreadAll_8 (by decide) ?_
  refine g_istore (lv' := [(4, .int 1), (3, .int (A 21 0)), (2, .int (A 21 0)), (0, .ref (q 38)), (1, .ref (q 39))]) hk dX2_spreadAll_9 (by decide) rfl ?_
  have lp2855 : ∀ (n2856 : Nat) (x2561 : Int32) (x2562 : Int32) (x2563 : Int32), (1 ≤ x2561.toInt) → (x2561.toInt ≤ 16) → (17 - x2561.toInt < (n2856 : Int)) → (0 < n2856) → GW κ 6 0 0 (wX q d I A) 11 [(4, .int x2561), (3, .int x2562), (2, .int x2563), (0, .ref (q 38)), (1, .ref (q 39))] [] := by
    intro n2856
    induction n2856 with
    | zero =>
      intro x2561 x2562 x2563 h2853 h2854 m2857 m2857z
      exact absurd m2857z (Nat.lt_irrefl 0)
    | succ n2856 ih =>
      intro x2561 x2562 x2563 h2853 h2854 m2857 m2857z
      refine g_iload hk dX2_spreadAll_11 rfl ?_
      refine g_aload_n hk dX2_spreadAll_13 rfl ?_
      refine gX_i30 (v := (I 30)) hk hin2 (List.mem_cons_of_mem _ (List.mem_append_left _ (List.mem_of_getElem? (i := 0) rfl))) dX2_spreadAll_14 rfl ?_
      have f2858 := IvX_f30 hIv
      refine g_icmp_ge (tgt := 44) (a := x2561.toInt) (b := (I 30).toInt) hk dX2_spreadAll_17 (by decide) rfl rfl (fun c2859 => ?_) (fun c2859 => ?_)
      · skip
        refine g_iload_n hk dX2_spreadAll_44 rfl ?_
        refine g_iload_n hk dX2_spreadAll_45 rfl ?_
        have b2860l := Int32.le_toInt x2562
        have b2860h := Int32.toInt_lt x2562
        have b2861l := Int32.le_toInt x2563
        have b2861h := Int32.toInt_lt x2563
        refine g_isub hk dX2_spreadAll_46 ?_
        refine g_topi (fun y2862 ey2862 => ?_)
        have hy2862 := i32_sub0 ey2862
        refine g_istore (lv' := [(4, .int y2862), (3, .int x2562), (2, .int x2563), (0, .ref (q 38)), (1, .ref (q 39))]) hk dX2_spreadAll_47 (by decide) rfl ?_
        refine g_iconst (v := 0) hk dX2_spreadAll_49 (by decide) ?_
        refine g_istore (lv' := [(5, .int 0), (4, .int y2862), (3, .int x2562), (2, .int x2563), (0, .ref (q 38)), (1, .ref (q 39))]) hk dX2_spreadAll_50 (by decide) rfl ?_
        have lp2914 : ∀ (n2915 : Nat) (x2863 : Int32) (I2869 : Nat → Int32) (A2869 : Nat → Nat → Int32), (Md [] I I2869) → (Md [21] A A2869) → (IvX I2869 A2869) → (0 ≤ x2863.toInt) → (x2863.toInt ≤ 16) → (17 - x2863.toInt < (n2915 : Int)) → (0 < n2915) → GW κ 6 0 0 (wX q d I2869 A2869) 52 [(5, .int x2863), (4, .int y2862), (3, .int x2562), (2, .int x2563), (0, .ref (q 38)), (1, .ref (q 39))] [] := by
          intro n2915
          induction n2915 with
          | zero =>
            intro x2863 I2869 A2869 hI2869 hA2869 hV2869 h2912 h2913 m2916 m2916z
            exact absurd m2916z (Nat.lt_irrefl 0)
          | succ n2915 ih =>
            intro x2863 I2869 A2869 hI2869 hA2869 hV2869 h2912 h2913 m2916 m2916z
            refine g_iload hk dX2_spreadAll_52 rfl ?_
            refine g_aload_n hk dX2_spreadAll_54 rfl ?_
            refine gX_i30 (v := (I 30)) hk hin2 (List.mem_cons_of_mem _ (List.mem_append_left _ (List.mem_of_getElem? (i := 0) rfl))) dX2_spreadAll_55 (hI2869 30 rfl) ?_
            refine g_icmp_ge (tgt := 93) (a := x2863.toInt) (b := (I 30).toInt) hk dX2_spreadAll_58 (by decide) rfl rfl (fun c2917 => ?_) (fun c2917 => ?_)
            · skip
              exact g_vret hk hR ⟨I2869, A2869, (show Md [] I I2869 from (Md.tr Md.rf hI2869 rfl)), (show Md [21] A A2869 from (Md.tr Md.rf hA2869 rfl)), hV2869, rfl, rfl⟩ dX2_spreadAll_93
            · skip
              refine g_aload_n hk dX2_spreadAll_61 rfl ?_
              refine g_iload hk dX2_spreadAll_62 rfl ?_
              refine g_iload hk dX2_spreadAll_64 rfl ?_
              have b2918l := Int32.le_toInt y2862
              have b2918h := Int32.toInt_lt y2862
              refine g_if_ne (tgt := 73) (a := y2862.toInt) hk dX2_spreadAll_66 (by decide) rfl (fun c2919 => ?_) (fun c2919 => ?_)
              · skip
                refine g_sipush (v := 1000) hk dX2_spreadAll_73 (by decide) ?_
                refine g_aload_n hk dX2_spreadAll_76 rfl ?_
                refine g_iload hk dX2_spreadAll_77 rfl ?_
                refine lX_21 (v := (A2869 21 x2863.toNatClampNeg)) hk (vp_in_iff.mpr ⟨by omega, by omega⟩) rfl dX2_spreadAll_79 ?_
                refine g_iload_n hk dX2_spreadAll_80 rfl ?_
                have b2920l := Int32.le_toInt (A2869 21 x2863.toNatClampNeg)
                have b2920h := Int32.toInt_lt (A2869 21 x2863.toNatClampNeg)
                refine g_isub hk dX2_spreadAll_81 ?_
                refine g_topi (fun y2921 ey2921 => ?_)
                have hy2921 := i32_sub0 ey2921
                have b2922l := Int32.le_toInt y2921
                have b2922h := Int32.toInt_lt y2921
                refine g_imul hk dX2_spreadAll_82 ?_
                refine g_topi (fun y2923 ey2923 => ?_)
                refine g_iload hk dX2_spreadAll_83 rfl ?_
                refine g_idiv hk dX2_spreadAll_85 (i32_ne0 (by omega)) ?_
                refine g_topi (fun y2924 ey2924 => ?_)
                refine sX_21 (j := x2863.toNatClampNeg) hk (vp_in_iff.mpr ⟨by omega, by omega⟩) rfl dX2_spreadAll_86 ?_
                obtain ⟨y2925, ey2925⟩ : ∃ y : Int32, y = x2863 + Int32.ofInt 1 := ⟨_, rfl⟩
                have hy2925 : y2925.toInt = x2863.toInt + 1 := i32_add ey2925 rfl (by decide) (by omega) (by omega)
                refine g_iinc (v := y2925) (lv' := [(5, .int y2925), (4, .int y2862), (3, .int x2562), (2, .int x2563), (0, .ref (q 38)), (1, .ref (q 39))]) hk 0 dX2_spreadAll_87 rfl ey2925.symm (by decide) rfl ?_
                refine g_goto (tgt := 52) hk dX2_spreadAll_90 (by decide) ?_
                exact g_lv (List.forall_mem_cons.mpr ⟨List.mem_of_getElem? (i := 0) rfl, (List.forall_mem_cons.mpr ⟨List.mem_of_getElem? (i := 1) rfl, (List.forall_mem_cons.mpr ⟨List.mem_of_getElem? (i := 2) rfl, (List.forall_mem_cons.mpr ⟨List.mem_of_getElem? (i := 3) rfl, (List.forall_mem_cons.mpr ⟨List.mem_of_getElem? (i := 4) rfl, (List.forall_mem_cons.mpr ⟨List.mem_of_getElem? (i := 5) rfl, (fun _ h => absurd h List.not_mem_nil)⟩)⟩)⟩)⟩)⟩)⟩) (ih y2925 I2869 (up3 A2869 21 (x2863.toNatClampNeg) y2924) (show Md [] I I2869 from Md.tr hI2869 (show Md [] I2869 I2869 from Md.rf) rfl) (show Md [21] A (up3 A2869 21 (x2863.toNatClampNeg) y2924) from Md.tr hA2869 (show Md [21] A2869 (up3 A2869 21 (x2863.toNatClampNeg) y2924) from (Md.up3 Md.rf rfl)) rfl) ⟨(IvX_f0 (I := I2869) (A := A2869) hV2869), (IvX_f18 (I := I2869) (A := A2869) hV2869), (IvX_f30 (I := I2869) (A := A2869) hV2869), (IvX_f31 (I := I2869) (A := A2869) hV2869), (IvX_a4 (I := I2869) (A := A2869) hV2869), (IvX_a9 (I := I2869) (A := A2869) hV2869), trivial⟩ (by omega) (by omega) (by omega) (by omega))
              · skip
                refine g_iconst (v := 0) hk dX2_spreadAll_69 (by decide) ?_
                refine g_goto (tgt := 86) hk dX2_spreadAll_70 (by decide) ?_
                have k2926 : (0 : Int32).toInt = 0 := rfl
                refine sX_21 (j := x2863.toNatClampNeg) hk (vp_in_iff.mpr ⟨by omega, by omega⟩) rfl dX2_spreadAll_86 ?_
                obtain ⟨y2927, ey2927⟩ : ∃ y : Int32, y = x2863 + Int32.ofInt 1 := ⟨_, rfl⟩
                have hy2927 : y2927.toInt = x2863.toInt + 1 := i32_add ey2927 rfl (by decide) (by omega) (by omega)
                refine g_iinc (v := y2927) (lv' := [(5, .int y2927), (4, .int y2862), (3, .int x2562), (2, .int x2563), (0, .ref (q 38)), (1, .ref (q 39))]) hk 0 dX2_spreadAll_87 rfl ey2927.symm (by decide) rfl ?_
                refine g_goto (tgt := 52) hk dX2_spreadAll_90 (by decide) ?_
                exact g_lv (List.forall_mem_cons.mpr ⟨List.mem_of_getElem? (i := 0) rfl, (List.forall_mem_cons.mpr ⟨List.mem_of_getElem? (i := 1) rfl, (List.forall_mem_cons.mpr ⟨List.mem_of_getElem? (i := 2) rfl, (List.forall_mem_cons.mpr ⟨List.mem_of_getElem? (i := 3) rfl, (List.forall_mem_cons.mpr ⟨List.mem_of_getElem? (i := 4) rfl, (List.forall_mem_cons.mpr ⟨List.mem_of_getElem? (i := 5) rfl, (fun _ h => absurd h List.not_mem_nil)⟩)⟩)⟩)⟩)⟩)⟩) (ih y2927 I2869 (up3 A2869 21 (x2863.toNatClampNeg) 0) (show Md [] I I2869 from Md.tr hI2869 (show Md [] I2869 I2869 from Md.rf) rfl) (show Md [21] A (up3 A2869 21 (x2863.toNatClampNeg) 0) from Md.tr hA2869 (show Md [21] A2869 (up3 A2869 21 (x2863.toNatClampNeg) 0) from (Md.up3 Md.rf rfl)) rfl) ⟨(IvX_f0 (I := I2869) (A := A2869) hV2869), (IvX_f18 (I := I2869) (A := A2869) hV2869), (IvX_f30 (I := I2869) (A := A2869) hV2869), (IvX_f31 (I := I2869) (A := A2869) hV2869), (IvX_a4 (I := I2869) (A := A2869) hV2869), (IvX_a9 (I := I2869) (A := A2869) hV2869), trivial⟩ (by omega) (by omega) (by omega) (by omega))
        have k2929 : (0 : Int32).toInt = 0 := rfl
        obtain ⟨n2928, n2928a, n2928b⟩ : ∃ n : Nat, 17 - 0 < (n : Int) ∧ 0 < n := ⟨((17 - 0 : Int)).toNat + 1, by omega, by omega⟩
        exact lp2914 n2928 0 I A Md.rf Md.rf hIv (by omega) (by omega) n2928a n2928b
      · skip
        refine g_iload_n hk dX2_spreadAll_20 rfl ?_
        refine g_aload_n hk dX2_spreadAll_21 rfl ?_
        refine g_iload hk dX2_spreadAll_22 rfl ?_
        refine lX_21 (v := (A 21 x2561.toNatClampNeg)) hk (vp_in_iff.mpr ⟨by omega, by omega⟩) rfl dX2_spreadAll_24 ?_
        have b2930l := Int32.le_toInt (A 21 x2561.toNatClampNeg)
        have b2930h := Int32.toInt_lt (A 21 x2561.toNatClampNeg)
        have b2931l := Int32.le_toInt x2563
        have b2931h := Int32.toInt_lt x2563
        refine g_mmin hk (List.mem_cons_of_mem _ (List.mem_append_left _ (List.mem_of_getElem? (i := 1) rfl))) (List.mem_cons_of_mem _ (List.mem_append_left _ (List.mem_of_getElem? (i := 2) rfl))) (List.mem_cons_of_mem _ (List.mem_append_left _ (List.mem_of_getElem? (i := 3) rfl))) (List.mem_cons_of_mem _ (List.mem_append_left _ (List.mem_of_getElem? (i := 4) rfl))) (Nat.le_of_ble_eq_true rfl) (Nat.le_of_ble_eq_true rfl) (Nat.le_of_ble_eq_true rfl) (Nat.le_of_ble_eq_true rfl) dX2_spreadAll_25 ?_
        refine g_topi (fun y2932 ey2932 => ?_)
        have hy2932 := i32_min ey2932
        refine g_istore_n (lv' := [(2, .int y2932), (4, .int x2561), (3, .int x2562), (0, .ref (q 38)), (1, .ref (q 39))]) hk dX2_spreadAll_28 (by decide) rfl ?_
        refine g_iload_n hk dX2_spreadAll_29 rfl ?_
        refine g_aload_n hk dX2_spreadAll_30 rfl ?_
        refine g_iload hk dX2_spreadAll_31 rfl ?_
        refine lX_21 (v := (A 21 x2561.toNatClampNeg)) hk (vp_in_iff.mpr ⟨by omega, by omega⟩) rfl dX2_spreadAll_33 ?_
        have b2933l := Int32.le_toInt x2562
        have b2933h := Int32.toInt_lt x2562
        refine g_mmax hk (List.mem_cons_of_mem _ (List.mem_append_left _ (List.mem_of_getElem? (i := 5) rfl))) (List.mem_cons_of_mem _ (List.mem_append_left _ (List.mem_of_getElem? (i := 6) rfl))) (List.mem_cons_of_mem _ (List.mem_append_left _ (List.mem_of_getElem? (i := 3) rfl))) (List.mem_cons_of_mem _ (List.mem_append_left _ (List.mem_of_getElem? (i := 7) rfl))) (Nat.le_of_ble_eq_true rfl) (Nat.le_of_ble_eq_true rfl) (Nat.le_of_ble_eq_true rfl) (Nat.le_of_ble_eq_true rfl) dX2_spreadAll_34 ?_
        refine g_topi (fun y2934 ey2934 => ?_)
        have hy2934 := i32_max ey2934
        refine g_istore_n (lv' := [(3, .int y2934), (2, .int y2932), (4, .int x2561), (0, .ref (q 38)), (1, .ref (q 39))]) hk dX2_spreadAll_37 (by decide) rfl ?_
        obtain ⟨y2935, ey2935⟩ : ∃ y : Int32, y = x2561 + Int32.ofInt 1 := ⟨_, rfl⟩
        have hy2935 : y2935.toInt = x2561.toInt + 1 := i32_add ey2935 rfl (by decide) (by omega) (by omega)
        refine g_iinc (v := y2935) (lv' := [(4, .int y2935), (3, .int y2934), (2, .int y2932), (0, .ref (q 38)), (1, .ref (q 39))]) hk 2 dX2_spreadAll_38 rfl ey2935.symm (by decide) rfl ?_
        refine g_goto (tgt := 11) hk dX2_spreadAll_41 (by decide) ?_
        exact g_lv (List.forall_mem_cons.mpr ⟨List.mem_of_getElem? (i := 0) rfl, (List.forall_mem_cons.mpr ⟨List.mem_of_getElem? (i := 1) rfl, (List.forall_mem_cons.mpr ⟨List.mem_of_getElem? (i := 2) rfl, (List.forall_mem_cons.mpr ⟨List.mem_of_getElem? (i := 3) rfl, (List.forall_mem_cons.mpr ⟨List.mem_of_getElem? (i := 4) rfl, (fun _ h => absurd h List.not_mem_nil)⟩)⟩)⟩)⟩)⟩) (ih y2935 y2934 y2932 (by omega) (by omega) (by omega) (by omega))
  have k2937 : (1 : Int32).toInt = 1 := rfl
  have b2938l := Int32.le_toInt (A 21 0)
  have b2938h := Int32.toInt_lt (A 21 0)
  obtain ⟨n2936, n2936a, n2936b⟩ : ∃ n : Nat, 17 - 1 < (n : Int) ∧ 0 < n := ⟨((17 - 1 : Int)).toNat + 1, by omega, by omega⟩
  exact lp2855 n2936 1 (A 21 0) (A 21 0) (by omega) (by omega) n2936a n2936b
def wo_k219_X2_lessenAll : List Cond := [Cond.fieldLink RX2 24 "WarpDesk$Fit" "length" "I"]
def wz_k219_X2_lessenAll : List Cond := .code yX2_lessenAll cX2_lessenAll 4 none :: (wo_k219_X2_lessenAll ++ (wsX20 ++ ([] : List Cond)))
theorem zg_k219_X2_lessenAll : ∀ w ∈ wz_k219_X2_lessenAll, goodWord w = true := zg_cons rfl (zg_app (by decide +kernel) (zg_app zgU_wsX20 zg_nil))
theorem zi_k219_X2_lessenAll : ∀ w ∈ wz_k219_X2_lessenAll, w ∈ lw_tbl := zi_cons zw_960 (zi_app (zi_cons zw_343 zi_nil) (zi_app inX2 zi_nil))
set_option maxHeartbeats 4000000 in
set_option maxRecDepth 100000 in
theorem k219_X2_lessenAll (l : Launch) (D : va_G) (zt : Nat × Nat × Nat × (Nat → Nat) × (Nat → Nat)) (q : Nat → Nat) (d : Nat → ClassId) (I : Nat → Int32) (A : Nat → Nat → Int32) (z2 : Int32) (hIv : IvX I A) : GM l D zt (tyX d) yX2_lessenAll wz_k219_X2_lessenAll ({ frames := 0, cells := 0, slots := 0, locals := 0 } : Room) [.ref (q 38), .ref (q 39), .int z2] (wX q d I A) (fun v _ w' => ∃ (I' : Nat → Int32) (A' : Nat → Nat → Int32), Md [] I I' ∧ Md [21] A A' ∧ IvX I' A' ∧ v = none ∧ w' = wX q d I' A') 0 0 := by
  refine GM.of (cc := cX2_lessenAll) (maxL := 4) (ret := none) (own := RX2) (lv := [(0, .ref (q 38)), (1, .ref (q 39)), (2, .int z2)]) (by decide) rfl rfl (Nat.le_of_ble_eq_true rfl) rfl (fun κ sz hk hR hN => ?_)
  have hin2 : ∀ w ∈ u_ws RX2 TX2 10, w ∈ wz_k219_X2_lessenAll := fun w h => (List.mem_cons_of_mem _ (List.mem_append_right _ (List.mem_append_left _ h)))
  refine g_iconst (v := 0) hk dX2_lessenAll_0 (by decide) ?_
  refine g_istore_n (lv' := [(3, .int 0), (0, .ref (q 38)), (1, .ref (q 39)), (2, .int z2)]) hk dX2_lessenAll_1 (by decide) rfl ?_
  have lp2971 : ∀ (n2972 : Nat) (x2941 : Int32) (I2945 : Nat → Int32) (A2945 : Nat → Nat → Int32), (Md [] I I2945) → (Md [21] A A2945) → (IvX I2945 A2945) → (0 ≤ x2941.toInt) → (x2941.toInt ≤ 16) → (17 - x2941.toInt < (n2972 : Int)) → (0 < n2972) → GW κ 4 0 0 (wX q d I2945 A2945) 2 [(3, .int x2941), (0, .ref (q 38)), (1, .ref (q 39)), (2, .int z2)] [] := by
    intro n2972
    induction n2972 with
    | zero =>
      intro x2941 I2945 A2945 hI2945 hA2945 hV2945 h2969 h2970 m2973 m2973z
      exact absurd m2973z (Nat.lt_irrefl 0)
    | succ n2972 ih =>
      intro x2941 I2945 A2945 hI2945 hA2945 hV2945 h2969 h2970 m2973 m2973z
      refine g_iload_n hk dX2_lessenAll_2 rfl ?_
      refine g_aload_n hk dX2_lessenAll_3 rfl ?_
      refine gX_i30 (v := (I 30)) hk hin2 (List.mem_cons_of_mem _ (List.mem_append_left _ (List.mem_of_getElem? (i := 0) rfl))) dX2_lessenAll_4 (hI2945 30 rfl) ?_
      have f2974 := IvX_f30 hIv
      refine g_icmp_ge (tgt := 29) (a := x2941.toInt) (b := (I 30).toInt) hk dX2_lessenAll_7 (by decide) rfl rfl (fun c2975 => ?_) (fun c2975 => ?_)
      · skip
        exact g_vret hk hR ⟨I2945, A2945, (show Md [] I I2945 from (Md.tr Md.rf hI2945 rfl)), (show Md [21] A A2945 from (Md.tr Md.rf hA2945 rfl)), hV2945, rfl, rfl⟩ dX2_lessenAll_29
      · skip
        refine g_iload_n hk dX2_lessenAll_10 rfl ?_
        refine g_aload_n hk dX2_lessenAll_11 rfl ?_
        refine nX_21 hk dX2_lessenAll_12 ?_
        refine g_icmp_ge (tgt := 29) (a := x2941.toInt) (b := 16) hk dX2_lessenAll_13 (by decide) rfl rfl (fun z9 => absurd z9 (show ¬ (16 ≤ x2941.toInt) from by omega)) (fun _ => ?_)
        refine g_aload_n hk dX2_lessenAll_16 rfl ?_
        refine g_iload_n hk dX2_lessenAll_17 rfl ?_
        refine g_dup2 hk dX2_lessenAll_18 rfl rfl ?_
        refine lX_21 (v := (A2945 21 x2941.toNatClampNeg)) hk (vp_in_iff.mpr ⟨by omega, by omega⟩) rfl dX2_lessenAll_19 ?_
        refine g_iload_n hk dX2_lessenAll_20 rfl ?_
        have b2976l := Int32.le_toInt (A2945 21 x2941.toNatClampNeg)
        have b2976h := Int32.toInt_lt (A2945 21 x2941.toNatClampNeg)
        have b2977l := Int32.le_toInt z2
        have b2977h := Int32.toInt_lt z2
        refine g_isub hk dX2_lessenAll_21 ?_
        refine g_topi (fun y2978 ey2978 => ?_)
        have hy2978 := i32_sub0 ey2978
        refine sX_21 (j := x2941.toNatClampNeg) hk (vp_in_iff.mpr ⟨by omega, by omega⟩) rfl dX2_lessenAll_22 ?_
        obtain ⟨y2979, ey2979⟩ : ∃ y : Int32, y = x2941 + Int32.ofInt 1 := ⟨_, rfl⟩
        have hy2979 : y2979.toInt = x2941.toInt + 1 := i32_add ey2979 rfl (by decide) (by omega) (by omega)
        refine g_iinc (v := y2979) (lv' := [(3, .int y2979), (0, .ref (q 38)), (1, .ref (q 39)), (2, .int z2)]) hk 0 dX2_lessenAll_23 rfl ey2979.symm (by decide) rfl ?_
        refine g_goto (tgt := 2) hk dX2_lessenAll_26 (by decide) ?_
        exact g_lv (List.forall_mem_cons.mpr ⟨List.mem_of_getElem? (i := 0) rfl, (List.forall_mem_cons.mpr ⟨List.mem_of_getElem? (i := 1) rfl, (List.forall_mem_cons.mpr ⟨List.mem_of_getElem? (i := 2) rfl, (List.forall_mem_cons.mpr ⟨List.mem_of_getElem? (i := 3) rfl, (fun _ h => absurd h List.not_mem_nil)⟩)⟩)⟩)⟩) (ih y2979 I2945 (up3 A2945 21 (x2941.toNatClampNeg) y2978) (show Md [] I I2945 from Md.tr hI2945 (show Md [] I2945 I2945 from Md.rf) rfl) (show Md [21] A (up3 A2945 21 (x2941.toNatClampNeg) y2978) from Md.tr hA2945 (show Md [21] A2945 (up3 A2945 21 (x2941.toNatClampNeg) y2978) from (Md.up3 Md.rf rfl)) rfl) ⟨(IvX_f0 (I := I2945) (A := A2945) hV2945), (IvX_f18 (I := I2945) (A := A2945) hV2945), (IvX_f30 (I := I2945) (A := A2945) hV2945), (IvX_f31 (I := I2945) (A := A2945) hV2945), (IvX_a4 (I := I2945) (A := A2945) hV2945), (IvX_a9 (I := I2945) (A := A2945) hV2945), trivial⟩ (by omega) (by omega) (by omega) (by omega))
  have k2981 : (0 : Int32).toInt = 0 := rfl
  obtain ⟨n2980, n2980a, n2980b⟩ : ∃ n : Nat, 17 - 0 < (n : Int) ∧ 0 < n := ⟨((17 - 0 : Int)).toNat + 1, by omega, by omega⟩
  exact lp2971 n2980 0 I A Md.rf Md.rf hIv (by omega) (by omega) n2980a n2980b
def wo_k220_X2_sumOf : List Cond := [Cond.fieldLink RX2 24 "WarpDesk$Fit" "length" "I"]
def wz_k220_X2_sumOf : List Cond := .code yX2_sumOf cX2_sumOf 4 (some .int) :: (wo_k220_X2_sumOf ++ (wsX20 ++ ([] : List Cond)))
theorem zg_k220_X2_sumOf : ∀ w ∈ wz_k220_X2_sumOf, goodWord w = true := zg_cons rfl (zg_app (by decide +kernel) (zg_app zgU_wsX20 zg_nil))
theorem zi_k220_X2_sumOf : ∀ w ∈ wz_k220_X2_sumOf, w ∈ lw_tbl := zi_cons zw_955 (zi_app (zi_cons zw_343 zi_nil) (zi_app inX2 zi_nil))
set_option maxHeartbeats 4000000 in
set_option maxRecDepth 100000 in
theorem k220_X2_sumOf (l : Launch) (D : va_G) (zt : Nat × Nat × Nat × (Nat → Nat) × (Nat → Nat)) (q : Nat → Nat) (d : Nat → ClassId) (I : Nat → Int32) (A : Nat → Nat → Int32) (hIv : IvX I A) : GM l D zt (tyX d) yX2_sumOf wz_k220_X2_sumOf ({ frames := 0, cells := 0, slots := 0, locals := 0 } : Room) [.ref (q 38), .ref (q 39)] (wX q d I A) (fun v _ w' => ∃ y0 : Int32, v = some (.int y0) ∧ w' = wX q d I A) 0 0 := by
  refine GM.of (cc := cX2_sumOf) (maxL := 4) (ret := (some .int)) (own := RX2) (lv := [(0, .ref (q 38)), (1, .ref (q 39))]) (by decide) rfl rfl (Nat.le_of_ble_eq_true rfl) rfl (fun κ sz hk hR hN => ?_)
  have hin2 : ∀ w ∈ u_ws RX2 TX2 10, w ∈ wz_k220_X2_sumOf := fun w h => (List.mem_cons_of_mem _ (List.mem_append_right _ (List.mem_append_left _ h)))
  refine g_iconst (v := 0) hk dX2_sumOf_0 (by decide) ?_
  refine g_istore_n (lv' := [(2, .int 0), (0, .ref (q 38)), (1, .ref (q 39))]) hk dX2_sumOf_1 (by decide) rfl ?_
  refine g_iconst (v := 0) hk dX2_sumOf_2 (by decide) ?_
  refine g_istore_n (lv' := [(3, .int 0), (2, .int 0), (0, .ref (q 38)), (1, .ref (q 39))]) hk dX2_sumOf_3 (by decide) rfl ?_
  have lp3013 : ∀ (n3014 : Nat) (x2984 : Int32) (x2985 : Int32), (0 ≤ x2984.toInt) → (x2984.toInt ≤ 16) → (17 - x2984.toInt < (n3014 : Int)) → (0 < n3014) → GW κ 4 0 0 (wX q d I A) 4 [(3, .int x2984), (2, .int x2985), (0, .ref (q 38)), (1, .ref (q 39))] [] := by
    intro n3014
    induction n3014 with
    | zero =>
      intro x2984 x2985 h3011 h3012 m3015 m3015z
      exact absurd m3015z (Nat.lt_irrefl 0)
    | succ n3014 ih =>
      intro x2984 x2985 h3011 h3012 m3015 m3015z
      refine g_iload_n hk dX2_sumOf_4 rfl ?_
      refine g_aload_n hk dX2_sumOf_5 rfl ?_
      refine gX_i30 (v := (I 30)) hk hin2 (List.mem_cons_of_mem _ (List.mem_append_left _ (List.mem_of_getElem? (i := 0) rfl))) dX2_sumOf_6 rfl ?_
      have f3016 := IvX_f30 hIv
      refine g_icmp_ge (tgt := 30) (a := x2984.toInt) (b := (I 30).toInt) hk dX2_sumOf_9 (by decide) rfl rfl (fun c3017 => ?_) (fun c3017 => ?_)
      · skip
        refine g_iload_n hk dX2_sumOf_30 rfl ?_
        have b3018l := Int32.le_toInt x2985
        have b3018h := Int32.toInt_lt x2985
        exact g_iret hk hR rfl ⟨x2985, rfl, rfl⟩ dX2_sumOf_31
      · skip
        refine g_iload_n hk dX2_sumOf_12 rfl ?_
        refine g_aload_n hk dX2_sumOf_13 rfl ?_
        refine nX_21 hk dX2_sumOf_14 ?_
        refine g_icmp_ge (tgt := 30) (a := x2984.toInt) (b := 16) hk dX2_sumOf_15 (by decide) rfl rfl (fun z9 => absurd z9 (show ¬ (16 ≤ x2984.toInt) from by omega)) (fun _ => ?_)
        refine g_iload_n hk dX2_sumOf_18 rfl ?_
        refine g_aload_n hk dX2_sumOf_19 rfl ?_
        refine g_iload_n hk dX2_sumOf_20 rfl ?_
        refine lX_21 (v := (A 21 x2984.toNatClampNeg)) hk (vp_in_iff.mpr ⟨by omega, by omega⟩) rfl dX2_sumOf_21 ?_
        have b3019l := Int32.le_toInt x2985
        have b3019h := Int32.toInt_lt x2985
        have b3020l := Int32.le_toInt (A 21 x2984.toNatClampNeg)
        have b3020h := Int32.toInt_lt (A 21 x2984.toNatClampNeg)
        refine g_iadd hk dX2_sumOf_22 ?_
        refine g_topi (fun y3021 ey3021 => ?_)
        refine g_istore_n (lv' := [(2, .int y3021), (3, .int x2984), (0, .ref (q 38)), (1, .ref (q 39))]) hk dX2_sumOf_23 (by decide) rfl ?_
        obtain ⟨y3022, ey3022⟩ : ∃ y : Int32, y = x2984 + Int32.ofInt 1 := ⟨_, rfl⟩
        have hy3022 : y3022.toInt = x2984.toInt + 1 := i32_add ey3022 rfl (by decide) (by omega) (by omega)
        refine g_iinc (v := y3022) (lv' := [(3, .int y3022), (2, .int y3021), (0, .ref (q 38)), (1, .ref (q 39))]) hk 1 dX2_sumOf_24 rfl ey3022.symm (by decide) rfl ?_
        refine g_goto (tgt := 4) hk dX2_sumOf_27 (by decide) ?_
        exact g_lv (List.forall_mem_cons.mpr ⟨List.mem_of_getElem? (i := 0) rfl, (List.forall_mem_cons.mpr ⟨List.mem_of_getElem? (i := 1) rfl, (List.forall_mem_cons.mpr ⟨List.mem_of_getElem? (i := 2) rfl, (List.forall_mem_cons.mpr ⟨List.mem_of_getElem? (i := 3) rfl, (fun _ h => absurd h List.not_mem_nil)⟩)⟩)⟩)⟩) (ih y3022 y3021 (by omega) (by omega) (by omega) (by omega))
  have k3024 : (0 : Int32).toInt = 0 := rfl
  obtain ⟨n3023, n3023a, n3023b⟩ : ∃ n : Nat, 17 - 0 < (n : Int) ∧ 0 < n := ⟨((17 - 0 : Int)).toNat + 1, by omega, by omega⟩
  exact lp3013 n3023 0 0 (by omega) (by omega) n3023a n3023b
def wo_k217_X2_bringToLevel : List Cond := [Cond.fieldLink RX2 24 "WarpDesk$Fit" "length" "I", Cond.methodLink RX2 61 yX2_spreadAll, Cond.instanceMethod yX2_spreadAll, Cond.selects RX2 yX2_spreadAll yX2_spreadAll, Cond.initialized RX2, Cond.methodLink RX2 57 yX2_lessenAll, Cond.instanceMethod yX2_lessenAll, Cond.selects RX2 yX2_lessenAll yX2_lessenAll, Cond.methodLink RX2 50 yX2_sumOf, Cond.instanceMethod yX2_sumOf, Cond.selects RX2 yX2_sumOf yX2_sumOf, Cond.methodLink RX2 54 yJ9_floorDiv_7cf53, Cond.static yJ9_floorDiv_7cf53, Cond.initialized RJ9]
def wz_k217_X2_bringToLevel : List Cond := .code yX2_bringToLevel cX2_bringToLevel 3 none :: (wo_k217_X2_bringToLevel ++ (wsX20 ++ (wz_k218_X2_spreadAll ++ (wz_k219_X2_lessenAll ++ (wz_k220_X2_sumOf ++ (wz_k189_J9_floorDiv_7cf53 ++ ([] : List Cond)))))))
theorem zg_k217_X2_bringToLevel : ∀ w ∈ wz_k217_X2_bringToLevel, goodWord w = true := zg_cons rfl (zg_app (by decide +kernel) (zg_app zgU_wsX20 (zg_app zg_k218_X2_spreadAll (zg_app zg_k219_X2_lessenAll (zg_app zg_k220_X2_sumOf (zg_app zg_k189_J9_floorDiv_7cf53 zg_nil))))))
theorem zi_k217_X2_bringToLevel : ∀ w ∈ wz_k217_X2_bringToLevel, w ∈ lw_tbl := zi_cons zw_951 (zi_app (zi_cons zw_343 (zi_cons zw_961 (zi_cons zw_963 (zi_cons zw_27 (zi_cons zw_112 (zi_cons zw_957 (zi_cons zw_959 (zi_cons zw_26 (zi_cons zw_952 (zi_cons zw_954 (zi_cons zw_25 (zi_cons zw_956 (zi_cons zw_845 (zi_cons zw_120 zi_nil)))))))))))))) (zi_app inX2 (zi_app zi_k218_X2_spreadAll (zi_app zi_k219_X2_lessenAll (zi_app zi_k220_X2_sumOf (zi_app zi_k189_J9_floorDiv_7cf53 zi_nil))))))
set_option maxHeartbeats 4000000 in
set_option maxRecDepth 100000 in
theorem k217_X2_bringToLevel (l : Launch) (D : va_G) (zt : Nat × Nat × Nat × (Nat → Nat) × (Nat → Nat)) (q : Nat → Nat) (d : Nat → ClassId) (I : Nat → Int32) (A : Nat → Nat → Int32) (z2 : Int32) (hIv : IvX I A) : GM l D zt (tyX d) yX2_bringToLevel wz_k217_X2_bringToLevel ({ frames := 2, cells := 0, slots := 0, locals := 38 } : Room) [.ref (q 38), .ref (q 39), .int z2] (wX q d I A) (fun v _ w' => ∃ (I' : Nat → Int32) (A' : Nat → Nat → Int32), Md [] I I' ∧ Md [21] A A' ∧ IvX I' A' ∧ v = none ∧ w' = wX q d I' A') 0 0 := by
  refine GM.of (cc := cX2_bringToLevel) (maxL := 3) (ret := none) (own := RX2) (lv := [(0, .ref (q 38)), (1, .ref (q 39)), (2, .int z2)]) (by decide) rfl rfl (Nat.le_of_ble_eq_true rfl) rfl (fun κ sz hk hR hN => ?_)
  have hin2 : ∀ w ∈ u_ws RX2 TX2 10, w ∈ wz_k217_X2_bringToLevel := fun w h => (List.mem_cons_of_mem _ (List.mem_append_right _ (List.mem_append_left _ h)))
  refine g_aload_n hk dX2_bringToLevel_0 rfl ?_
  refine gX_i30 (v := (I 30)) hk hin2 (List.mem_cons_of_mem _ (List.mem_append_left _ (List.mem_of_getElem? (i := 0) rfl))) dX2_bringToLevel_1 rfl ?_
  have f2556 := IvX_f30 hIv
  refine g_iconst (v := 1) hk dX2_bringToLevel_4 (by decide) ?_
  refine g_icmp_lt (tgt := 17) (a := (I 30).toInt) (b := 1) hk dX2_bringToLevel_5 (by decide) rfl rfl (fun z9 => absurd z9 (show ¬ ((I 30).toInt < 1) from by omega)) (fun _ => ?_)
  refine g_aload_n hk dX2_bringToLevel_8 rfl ?_
  refine gX_i30 (v := (I 30)) hk hin2 (List.mem_cons_of_mem _ (List.mem_append_left _ (List.mem_of_getElem? (i := 0) rfl))) dX2_bringToLevel_9 rfl ?_
  refine g_aload_n hk dX2_bringToLevel_12 rfl ?_
  refine nX_21 hk dX2_bringToLevel_13 ?_
  refine g_icmp_le (tgt := 18) (a := (I 30).toInt) (b := 16) hk dX2_bringToLevel_14 (by decide) rfl rfl (fun _ => ?_) (fun z9 => absurd (show (I 30).toInt ≤ 16 from by omega) z9)
  refine g_iload_n hk dX2_bringToLevel_18 rfl ?_
  refine g_iconst (v := 1) hk dX2_bringToLevel_19 (by decide) ?_
  have b2557l := Int32.le_toInt z2
  have b2557h := Int32.toInt_lt z2
  refine g_icmp_ne (tgt := 43) (a := z2.toInt) (b := 1) hk dX2_bringToLevel_20 (by decide) rfl rfl (fun c2558 => ?_) (fun c2558 => ?_)
  · skip
    refine g_iload_n hk dX2_bringToLevel_43 rfl ?_
    refine g_iconst (v := 2) hk dX2_bringToLevel_44 (by decide) ?_
    refine g_icmp_ne (tgt := 59) (a := z2.toInt) (b := 2) hk dX2_bringToLevel_45 (by decide) rfl rfl (fun c2559 => ?_) (fun c2559 => ?_)
    · skip
      refine g_iload_n hk dX2_bringToLevel_59 rfl ?_
      refine g_iconst (v := 3) hk dX2_bringToLevel_60 (by decide) ?_
      refine g_icmp_ne (tgt := 69) (a := z2.toInt) (b := 3) hk dX2_bringToLevel_61 (by decide) rfl rfl (fun c2560 => ?_) (fun c2560 => ?_)
      · skip
        exact g_vret hk hR ⟨I, A, (show Md [] I I from Md.rf), (show Md [21] A A from Md.rf), hIv, rfl, rfl⟩ dX2_bringToLevel_69
      · skip
        refine g_aload_n hk dX2_bringToLevel_64 rfl ?_
        refine g_aload_n hk dX2_bringToLevel_65 rfl ?_
        refine g_callV (n := 1) hk (k218_X2_spreadAll l D zt q d I A  hIv) (SP.same _) (fun _ h => h) (gi_V (List.mem_cons_of_mem _ (List.mem_append_left _ (List.mem_of_getElem? (i := 1) rfl))) (List.mem_cons_of_mem _ (List.mem_append_left _ (List.mem_of_getElem? (i := 2) rfl))) (List.mem_cons_of_mem _ (List.mem_append_left _ (List.mem_of_getElem? (i := 3) rfl))) (List.mem_cons_of_mem _ (List.mem_append_left _ (List.mem_of_getElem? (i := 4) rfl))) (gi_sub (fun w h => (List.mem_cons_of_mem _ (List.mem_append_right _ (List.mem_append_right _ (List.mem_append_left _ h))))) zg_k218_X2_spreadAll)) rfl rfl rfl (by decide +kernel) ⟨Nat.le_of_ble_eq_true rfl, Nat.le_of_ble_eq_true rfl⟩ 38 rfl rfl rfl rfl (Nat.le_of_ble_eq_true rfl) ⟨Nat.le_of_ble_eq_true rfl, Nat.le_of_ble_eq_true rfl⟩ dX2_bringToLevel_66 (fun v ty' w' hp hk' => ?_)
        obtain ⟨I2940, A2940, hI2940, hA2940, hV2940, rfl, rfl⟩ := hp
        show GW κ 3 0 0 (wX q d I2940 A2940) 69 [(0, .ref (q 38)), (1, .ref (q 39)), (2, .int z2)] []
        exact g_vret hk hR ⟨I2940, A2940, (show Md [] I I2940 from (Md.tr Md.rf hI2940 rfl)), (show Md [21] A A2940 from (Md.tr Md.rf hA2940 rfl)), hV2940, rfl, rfl⟩ dX2_bringToLevel_69
    · skip
      refine g_aload_n hk dX2_bringToLevel_48 rfl ?_
      refine g_aload_n hk dX2_bringToLevel_49 rfl ?_
      refine g_aload_n hk dX2_bringToLevel_50 rfl ?_
      refine g_iconst (v := 0) hk dX2_bringToLevel_51 (by decide) ?_
      refine lX_21 (v := (A 21 0)) hk (vp_in_iff.mpr ⟨by decide, by decide⟩) rfl dX2_bringToLevel_52 ?_
      refine g_callV (n := 2) hk (k219_X2_lessenAll l D zt q d I A (A 21 0) hIv) (SP.same _) (fun _ h => h) (gi_V (List.mem_cons_of_mem _ (List.mem_append_left _ (List.mem_of_getElem? (i := 5) rfl))) (List.mem_cons_of_mem _ (List.mem_append_left _ (List.mem_of_getElem? (i := 6) rfl))) (List.mem_cons_of_mem _ (List.mem_append_left _ (List.mem_of_getElem? (i := 7) rfl))) (List.mem_cons_of_mem _ (List.mem_append_left _ (List.mem_of_getElem? (i := 4) rfl))) (gi_sub (fun w h => (List.mem_cons_of_mem _ (List.mem_append_right _ (List.mem_append_right _ (List.mem_append_right _ (List.mem_append_left _ h)))))) zg_k219_X2_lessenAll)) rfl rfl rfl (by decide +kernel) ⟨Nat.le_of_ble_eq_true rfl, Nat.le_of_ble_eq_true rfl⟩ 38 rfl rfl rfl rfl (Nat.le_of_ble_eq_true rfl) ⟨Nat.le_of_ble_eq_true rfl, Nat.le_of_ble_eq_true rfl⟩ dX2_bringToLevel_53 (fun v ty' w' hp hk' => ?_)
      obtain ⟨I2983, A2983, hI2983, hA2983, hV2983, rfl, rfl⟩ := hp
      show GW κ 3 0 0 (wX q d I2983 A2983) 56 [(0, .ref (q 38)), (1, .ref (q 39)), (2, .int z2)] []
      refine g_goto (tgt := 69) hk dX2_bringToLevel_56 (by decide) ?_
      exact g_vret hk hR ⟨I2983, A2983, (show Md [] I I2983 from (Md.tr Md.rf hI2983 rfl)), (show Md [21] A A2983 from (Md.tr Md.rf hA2983 rfl)), hV2983, rfl, rfl⟩ dX2_bringToLevel_69
  · skip
    refine g_aload_n hk dX2_bringToLevel_23 rfl ?_
    refine g_aload_n hk dX2_bringToLevel_24 rfl ?_
    refine g_aload_n hk dX2_bringToLevel_25 rfl ?_
    refine g_aload_n hk dX2_bringToLevel_26 rfl ?_
    refine g_callV (n := 1) hk (k220_X2_sumOf l D zt q d I A  hIv) (SP.same _) (fun _ h => h) (gi_V (List.mem_cons_of_mem _ (List.mem_append_left _ (List.mem_of_getElem? (i := 8) rfl))) (List.mem_cons_of_mem _ (List.mem_append_left _ (List.mem_of_getElem? (i := 9) rfl))) (List.mem_cons_of_mem _ (List.mem_append_left _ (List.mem_of_getElem? (i := 10) rfl))) (List.mem_cons_of_mem _ (List.mem_append_left _ (List.mem_of_getElem? (i := 4) rfl))) (gi_sub (fun w h => (List.mem_cons_of_mem _ (List.mem_append_right _ (List.mem_append_right _ (List.mem_append_right _ (List.mem_append_right _ (List.mem_append_left _ h))))))) zg_k220_X2_sumOf)) rfl rfl rfl (by decide +kernel) ⟨Nat.le_of_ble_eq_true rfl, Nat.le_of_ble_eq_true rfl⟩ 38 rfl rfl rfl rfl (Nat.le_of_ble_eq_true rfl) ⟨Nat.le_of_ble_eq_true rfl, Nat.le_of_ble_eq_true rfl⟩ dX2_bringToLevel_27 (fun v ty' w' hp hk' => ?_)
    obtain ⟨y3025, rfl, rfl⟩ := hp
    show GW κ 3 0 0 (wX q d I A) 30 [(0, .ref (q 38)), (1, .ref (q 39)), (2, .int z2)] [.int y3025, .ref (q 39), .ref (q 38)]
    refine g_aload_n hk dX2_bringToLevel_30 rfl ?_
    refine gX_i30 (v := (I 30)) hk hin2 (List.mem_cons_of_mem _ (List.mem_append_left _ (List.mem_of_getElem? (i := 0) rfl))) dX2_bringToLevel_31 rfl ?_
    refine g_callS (n := 2) hk (k189_J9_floorDiv_7cf53 l D zt q d I A y3025 (I 30) hIv (by omega)) (SP.same _) (fun _ h => h) (gi_S (List.mem_cons_of_mem _ (List.mem_append_left _ (List.mem_of_getElem? (i := 11) rfl))) (List.mem_cons_of_mem _ (List.mem_append_left _ (List.mem_of_getElem? (i := 12) rfl))) (List.mem_cons_of_mem _ (List.mem_append_left _ (List.mem_of_getElem? (i := 13) rfl))) (gi_sub (fun w h => (List.mem_cons_of_mem _ (List.mem_append_right _ (List.mem_append_right _ (List.mem_append_right _ (List.mem_append_right _ (List.mem_append_right _ (List.mem_append_left _ h)))))))) zg_k189_J9_floorDiv_7cf53)) rfl rfl rfl (by decide +kernel) ⟨Nat.le_of_ble_eq_true rfl, Nat.le_of_ble_eq_true rfl⟩ rfl rfl (Nat.le_of_ble_eq_true rfl) ⟨Nat.le_of_ble_eq_true rfl, Nat.le_of_ble_eq_true rfl⟩ dX2_bringToLevel_34 (fun v ty' w' hp hk' => ?_)
    obtain ⟨y3026, rfl, rfl⟩ := hp
    show GW κ 3 0 0 (wX q d I A) 37 [(0, .ref (q 38)), (1, .ref (q 39)), (2, .int z2)] [.int y3026, .ref (q 39), .ref (q 38)]
    refine g_callV (n := 2) hk (k219_X2_lessenAll l D zt q d I A y3026 hIv) (SP.same _) (fun _ h => h) (gi_V (List.mem_cons_of_mem _ (List.mem_append_left _ (List.mem_of_getElem? (i := 5) rfl))) (List.mem_cons_of_mem _ (List.mem_append_left _ (List.mem_of_getElem? (i := 6) rfl))) (List.mem_cons_of_mem _ (List.mem_append_left _ (List.mem_of_getElem? (i := 7) rfl))) (List.mem_cons_of_mem _ (List.mem_append_left _ (List.mem_of_getElem? (i := 4) rfl))) (gi_sub (fun w h => (List.mem_cons_of_mem _ (List.mem_append_right _ (List.mem_append_right _ (List.mem_append_right _ (List.mem_append_left _ h)))))) zg_k219_X2_lessenAll)) rfl rfl rfl (by decide +kernel) ⟨Nat.le_of_ble_eq_true rfl, Nat.le_of_ble_eq_true rfl⟩ 38 rfl rfl rfl rfl (Nat.le_of_ble_eq_true rfl) ⟨Nat.le_of_ble_eq_true rfl, Nat.le_of_ble_eq_true rfl⟩ dX2_bringToLevel_37 (fun v ty' w' hp hk' => ?_)
    obtain ⟨I3028, A3028, hI3028, hA3028, hV3028, rfl, rfl⟩ := hp
    show GW κ 3 0 0 (wX q d I3028 A3028) 40 [(0, .ref (q 38)), (1, .ref (q 39)), (2, .int z2)] []
    refine g_goto (tgt := 69) hk dX2_bringToLevel_40 (by decide) ?_
    exact g_vret hk hR ⟨I3028, A3028, (show Md [] I I3028 from (Md.tr Md.rf hI3028 rfl)), (show Md [21] A A3028 from (Md.tr Md.rf hA3028 rfl)), hV3028, rfl, rfl⟩ dX2_bringToLevel_69
def wo_k213_X0_openWindow : List Cond := [Cond.fieldLink RX0 26 "WarpDesk$Bench" "settings" "LWarpDesk$Settings;", Cond.methodLink RX0 49 yX7_valueOf, Cond.instanceMethod yX7_valueOf, Cond.selects RX7 yX7_valueOf yX7_valueOf, Cond.initialized RX7, Cond.methodLink RX0 62 yX0_begin, Cond.instanceMethod yX0_begin, Cond.selects RX0 yX0_begin yX0_begin, Cond.initialized RX0, Cond.fieldLink RX0 18 "WarpDesk$Bench" "series" "LWarpDesk$Series;", Cond.fieldLink RX0 77 "WarpDesk$Bench" "length" "I", Cond.fieldLink RX0 12 "WarpDesk$Bench" "fit" "LWarpDesk$Fit;", Cond.fieldLink RX0 65 "WarpDesk$Fit" "left" "[I", Cond.methodLink RX0 81 yX6_copyWindow, Cond.instanceMethod yX6_copyWindow, Cond.selects RX6 yX6_copyWindow yX6_copyWindow, Cond.initialized RX6, Cond.methodLink RX0 73 yX2_bringToLevel, Cond.instanceMethod yX2_bringToLevel, Cond.selects RX2 yX2_bringToLevel yX2_bringToLevel, Cond.initialized RX2]
def wz_k213_X0_openWindow : List Cond := .code yX0_openWindow cX0_openWindow 3 none :: (wo_k213_X0_openWindow ++ (wsX00 ++ (wsX20 ++ (wz_k194_X7_valueOf ++ (wz_k214_X0_begin ++ (wz_k216_X6_copyWindow ++ (wz_k217_X2_bringToLevel ++ ([] : List Cond))))))))
theorem zg_k213_X0_openWindow : ∀ w ∈ wz_k213_X0_openWindow, goodWord w = true := zg_cons rfl (zg_app (by decide +kernel) (zg_app zgU_wsX00 (zg_app zgU_wsX20 (zg_app zg_k194_X7_valueOf (zg_app zg_k214_X0_begin (zg_app zg_k216_X6_copyWindow (zg_app zg_k217_X2_bringToLevel zg_nil)))))))
theorem zi_k213_X0_openWindow : ∀ w ∈ wz_k213_X0_openWindow, w ∈ lw_tbl := zi_cons zw_932 (zi_app (zi_cons zw_378 (zi_cons zw_933 (zi_cons zw_786 (zi_cons zw_787 (zi_cons zw_107 (zi_cons zw_934 (zi_cons zw_936 (zi_cons zw_24 (zi_cons zw_111 (zi_cons zw_373 (zi_cons zw_384 (zi_cons zw_380 (zi_cons zw_335 (zi_cons zw_944 (zi_cons zw_945 (zi_cons zw_946 (zi_cons zw_109 (zi_cons zw_948 (zi_cons zw_949 (zi_cons zw_950 (zi_cons zw_112 zi_nil))))))))))))))))))))) (zi_app inX0 (zi_app inX2 (zi_app zi_k194_X7_valueOf (zi_app zi_k214_X0_begin (zi_app zi_k216_X6_copyWindow (zi_app zi_k217_X2_bringToLevel zi_nil)))))))
set_option maxHeartbeats 4000000 in
set_option maxRecDepth 100000 in
theorem k213_X0_openWindow (l : Launch) (D : va_G) (zt : Nat × Nat × Nat × (Nat → Nat) × (Nat → Nat)) (q : Nat → Nat) (d : Nat → ClassId) (I : Nat → Int32) (A : Nat → Nat → Int32) (z1 : Int32) (z2 : Int32) (hIv : IvX I A) : GM l D zt (tyX d) yX0_openWindow wz_k213_X0_openWindow ({ frames := 3, cells := 0, slots := 0, locals := 60 } : Room) [.ref (q 37), .int z1, .int z2] (wX q d I A) (fun v _ w' => ∃ (I' : Nat → Int32) (A' : Nat → Nat → Int32), Md [28, 30, 31, 32] I I' ∧ Md [21] A A' ∧ IvX I' A' ∧ v = none ∧ w' = wX q d I' A') 0 0 := by
  refine GM.of (cc := cX0_openWindow) (maxL := 3) (ret := none) (own := RX0) (lv := [(0, .ref (q 37)), (1, .int z1), (2, .int z2)]) (by decide) rfl rfl (Nat.le_of_ble_eq_true rfl) rfl (fun κ sz hk hR hN => ?_)
  have hin0 : ∀ w ∈ u_ws RX0 TX0 5, w ∈ wz_k213_X0_openWindow := fun w h => (List.mem_cons_of_mem _ (List.mem_append_right _ (List.mem_append_left _ h)))
  have hin2 : ∀ w ∈ u_ws RX2 TX2 10, w ∈ wz_k213_X0_openWindow := fun w h => (List.mem_cons_of_mem _ (List.mem_append_right _ (List.mem_append_right _ (List.mem_append_left _ h))))
  refine g_aload_n hk dX0_openWindow_0 rfl ?_
  refine g_iload_n hk dX0_openWindow_1 rfl ?_
  refine g_aload_n hk dX0_openWindow_2 rfl ?_
  refine gX_r37_2 hk hin0 (List.mem_cons_of_mem _ (List.mem_append_left _ (List.mem_of_getElem? (i := 0) rfl))) dX0_openWindow_3 ?_
  refine g_iconst (v := 0) hk dX0_openWindow_6 (by decide) ?_
  have k2485 : (0 : Int32).toInt = 0 := rfl
  refine g_callV (n := 1) hk (k194_X7_valueOf l D zt q d I A 0 hIv) (SP.same _) (fun _ h => h) (gi_V (List.mem_cons_of_mem _ (List.mem_append_left _ (List.mem_of_getElem? (i := 1) rfl))) (List.mem_cons_of_mem _ (List.mem_append_left _ (List.mem_of_getElem? (i := 2) rfl))) (List.mem_cons_of_mem _ (List.mem_append_left _ (List.mem_of_getElem? (i := 3) rfl))) (List.mem_cons_of_mem _ (List.mem_append_left _ (List.mem_of_getElem? (i := 4) rfl))) (gi_sub (fun w h => (List.mem_cons_of_mem _ (List.mem_append_right _ (List.mem_append_right _ (List.mem_append_right _ (List.mem_append_left _ h)))))) zg_k194_X7_valueOf)) rfl rfl rfl (by decide +kernel) ⟨Nat.le_of_ble_eq_true rfl, Nat.le_of_ble_eq_true rfl⟩ 18 rfl rfl rfl rfl (Nat.le_of_ble_eq_true rfl) ⟨Nat.le_of_ble_eq_true rfl, Nat.le_of_ble_eq_true rfl⟩ dX0_openWindow_7 (fun v ty' w' hp hk' => ?_)
  obtain ⟨y2486, rfl, rfl⟩ := hp
  show GW κ 3 0 0 (wX q d I A) 10 [(0, .ref (q 37)), (1, .int z1), (2, .int z2)] [.int y2486, .int z2, .ref (q 37)]
  refine g_callV (n := 2) hk (k214_X0_begin l D zt q d I A z2 y2486 hIv) (SP.same _) (fun _ h => h) (gi_V (List.mem_cons_of_mem _ (List.mem_append_left _ (List.mem_of_getElem? (i := 5) rfl))) (List.mem_cons_of_mem _ (List.mem_append_left _ (List.mem_of_getElem? (i := 6) rfl))) (List.mem_cons_of_mem _ (List.mem_append_left _ (List.mem_of_getElem? (i := 7) rfl))) (List.mem_cons_of_mem _ (List.mem_append_left _ (List.mem_of_getElem? (i := 8) rfl))) (gi_sub (fun w h => (List.mem_cons_of_mem _ (List.mem_append_right _ (List.mem_append_right _ (List.mem_append_right _ (List.mem_append_right _ (List.mem_append_left _ h))))))) zg_k214_X0_begin)) rfl rfl rfl (by decide +kernel) ⟨Nat.le_of_ble_eq_true rfl, Nat.le_of_ble_eq_true rfl⟩ 37 rfl rfl rfl rfl (Nat.le_of_ble_eq_true rfl) ⟨Nat.le_of_ble_eq_true rfl, Nat.le_of_ble_eq_true rfl⟩ dX0_openWindow_10 (fun v ty' w' hp hk' => ?_)
  obtain ⟨I2505, A2505, hI2505, hA2505, hV2505, rfl, rfl⟩ := hp
  show GW κ 3 0 0 (wX q d I2505 A2505) 13 [(0, .ref (q 37)), (1, .int z1), (2, .int z2)] []
  refine g_aload_n hk dX0_openWindow_13 rfl ?_
  refine gX_r37_0 hk hin0 (List.mem_cons_of_mem _ (List.mem_append_left _ (List.mem_of_getElem? (i := 9) rfl))) dX0_openWindow_14 ?_
  refine g_iload_n hk dX0_openWindow_17 rfl ?_
  refine g_aload_n hk dX0_openWindow_18 rfl ?_
  refine gX_i28 (v := (I2505 28)) hk hin0 (List.mem_cons_of_mem _ (List.mem_append_left _ (List.mem_of_getElem? (i := 10) rfl))) dX0_openWindow_19 rfl ?_
  refine g_aload_n hk dX0_openWindow_22 rfl ?_
  refine gX_r37_3 hk hin0 (List.mem_cons_of_mem _ (List.mem_append_left _ (List.mem_of_getElem? (i := 11) rfl))) dX0_openWindow_23 ?_
  refine gX_r38_0 hk hin2 (List.mem_cons_of_mem _ (List.mem_append_left _ (List.mem_of_getElem? (i := 12) rfl))) dX0_openWindow_26 ?_
  refine g_callV (n := 3) hk (k216_X6_copyWindow l D zt q d I2505 A2505 z1 (I2505 28) hV2505) (SP.same _) (fun _ h => h) (gi_V (List.mem_cons_of_mem _ (List.mem_append_left _ (List.mem_of_getElem? (i := 13) rfl))) (List.mem_cons_of_mem _ (List.mem_append_left _ (List.mem_of_getElem? (i := 14) rfl))) (List.mem_cons_of_mem _ (List.mem_append_left _ (List.mem_of_getElem? (i := 15) rfl))) (List.mem_cons_of_mem _ (List.mem_append_left _ (List.mem_of_getElem? (i := 16) rfl))) (gi_sub (fun w h => (List.mem_cons_of_mem _ (List.mem_append_right _ (List.mem_append_right _ (List.mem_append_right _ (List.mem_append_right _ (List.mem_append_right _ (List.mem_append_left _ h)))))))) zg_k216_X6_copyWindow)) rfl rfl rfl (by decide +kernel) ⟨Nat.le_of_ble_eq_true rfl, Nat.le_of_ble_eq_true rfl⟩ 13 rfl rfl rfl rfl (Nat.le_of_ble_eq_true rfl) ⟨Nat.le_of_ble_eq_true rfl, Nat.le_of_ble_eq_true rfl⟩ dX0_openWindow_29 (fun v ty' w' hp hk' => ?_)
  obtain ⟨I2553, A2553, hI2553, hA2553, hV2553, rfl, rfl⟩ := hp
  show GW κ 3 0 0 (wX q d I2553 A2553) 32 [(0, .ref (q 37)), (1, .int z1), (2, .int z2)] []
  refine g_aload_n hk dX0_openWindow_32 rfl ?_
  refine gX_r37_3 hk hin0 (List.mem_cons_of_mem _ (List.mem_append_left _ (List.mem_of_getElem? (i := 11) rfl))) dX0_openWindow_33 ?_
  refine g_aload_n hk dX0_openWindow_36 rfl ?_
  refine gX_r37_3 hk hin0 (List.mem_cons_of_mem _ (List.mem_append_left _ (List.mem_of_getElem? (i := 11) rfl))) dX0_openWindow_37 ?_
  refine gX_r38_0 hk hin2 (List.mem_cons_of_mem _ (List.mem_append_left _ (List.mem_of_getElem? (i := 12) rfl))) dX0_openWindow_40 ?_
  refine g_aload_n hk dX0_openWindow_43 rfl ?_
  refine gX_r37_2 hk hin0 (List.mem_cons_of_mem _ (List.mem_append_left _ (List.mem_of_getElem? (i := 0) rfl))) dX0_openWindow_44 ?_
  refine g_iconst (v := 1) hk dX0_openWindow_47 (by decide) ?_
  have k2554 : (1 : Int32).toInt = 1 := rfl
  refine g_callV (n := 1) hk (k194_X7_valueOf l D zt q d I2553 A2553 1 hV2553) (SP.same _) (fun _ h => h) (gi_V (List.mem_cons_of_mem _ (List.mem_append_left _ (List.mem_of_getElem? (i := 1) rfl))) (List.mem_cons_of_mem _ (List.mem_append_left _ (List.mem_of_getElem? (i := 2) rfl))) (List.mem_cons_of_mem _ (List.mem_append_left _ (List.mem_of_getElem? (i := 3) rfl))) (List.mem_cons_of_mem _ (List.mem_append_left _ (List.mem_of_getElem? (i := 4) rfl))) (gi_sub (fun w h => (List.mem_cons_of_mem _ (List.mem_append_right _ (List.mem_append_right _ (List.mem_append_right _ (List.mem_append_left _ h)))))) zg_k194_X7_valueOf)) rfl rfl rfl (by decide +kernel) ⟨Nat.le_of_ble_eq_true rfl, Nat.le_of_ble_eq_true rfl⟩ 18 rfl rfl rfl rfl (Nat.le_of_ble_eq_true rfl) ⟨Nat.le_of_ble_eq_true rfl, Nat.le_of_ble_eq_true rfl⟩ dX0_openWindow_48 (fun v ty' w' hp hk' => ?_)
  obtain ⟨y2555, rfl, rfl⟩ := hp
  show GW κ 3 0 0 (wX q d I2553 A2553) 51 [(0, .ref (q 37)), (1, .int z1), (2, .int z2)] [.int y2555, .ref (q 39), .ref (q 38)]
  refine g_callV (n := 2) hk (k217_X2_bringToLevel l D zt q d I2553 A2553 y2555 hV2553) (SP.same _) (fun _ h => h) (gi_V (List.mem_cons_of_mem _ (List.mem_append_left _ (List.mem_of_getElem? (i := 17) rfl))) (List.mem_cons_of_mem _ (List.mem_append_left _ (List.mem_of_getElem? (i := 18) rfl))) (List.mem_cons_of_mem _ (List.mem_append_left _ (List.mem_of_getElem? (i := 19) rfl))) (List.mem_cons_of_mem _ (List.mem_append_left _ (List.mem_of_getElem? (i := 20) rfl))) (gi_sub (fun w h => (List.mem_cons_of_mem _ (List.mem_append_right _ (List.mem_append_right _ (List.mem_append_right _ (List.mem_append_right _ (List.mem_append_right _ (List.mem_append_right _ (List.mem_append_left _ h))))))))) zg_k217_X2_bringToLevel)) rfl rfl rfl (by decide +kernel) ⟨Nat.le_of_ble_eq_true rfl, Nat.le_of_ble_eq_true rfl⟩ 38 rfl rfl rfl rfl (Nat.le_of_ble_eq_true rfl) ⟨Nat.le_of_ble_eq_true rfl, Nat.le_of_ble_eq_true rfl⟩ dX0_openWindow_51 (fun v ty' w' hp hk' => ?_)
  obtain ⟨I3030, A3030, hI3030, hA3030, hV3030, rfl, rfl⟩ := hp
  show GW κ 3 0 0 (wX q d I3030 A3030) 54 [(0, .ref (q 37)), (1, .int z1), (2, .int z2)] []
  exact g_vret hk hR ⟨I3030, A3030, (show Md [28, 30, 31, 32] I I3030 from (Md.tr (Md.tr (Md.tr Md.rf hI2505 rfl) hI2553 rfl) hI3030 rfl)), (show Md [21] A A3030 from (Md.tr (Md.tr (Md.tr Md.rf hA2505 rfl) hA2553 rfl) hA3030 rfl)), hV3030, rfl, rfl⟩ dX0_openWindow_54
def wo_k211_X11_level : List Cond := [Cond.methodLink RX11 196 yX11_isStretch, Cond.static yX11_isStretch, Cond.initialized RX11, Cond.constant RX11 186 (-1000000), Cond.fieldLink RX11 28 "WarpDesk" "series" "LWarpDesk$Series;", Cond.methodLink RX11 183 yX6_hasWindow, Cond.instanceMethod yX6_hasWindow, Cond.selects RX6 yX6_hasWindow yX6_hasWindow, Cond.initialized RX6, Cond.fieldLink RX11 65 "WarpDesk" "bench" "LWarpDesk$Bench;", Cond.methodLink RX11 199 yX0_openWindow, Cond.instanceMethod yX0_openWindow, Cond.selects RX0 yX0_openWindow yX0_openWindow, Cond.initialized RX0, Cond.fieldLink RX11 202 "WarpDesk$Bench" "fit" "LWarpDesk$Fit;", Cond.fieldLink RX11 206 "WarpDesk$Fit" "left" "[I"]
def wz_k211_X11_level : List Cond := .code yX11_level cX11_level 4 (some .int) :: (wo_k211_X11_level ++ (wsX00 ++ (wsX20 ++ (wsX110 ++ (wz_k212_X11_isStretch ++ (wz_k207_X6_hasWindow ++ (wz_k213_X0_openWindow ++ ([] : List Cond))))))))
theorem zg_k211_X11_level : ∀ w ∈ wz_k211_X11_level, goodWord w = true := zg_cons rfl (zg_app (by decide +kernel) (zg_app zgU_wsX00 (zg_app zgU_wsX20 (zg_app zgU_wsX110 (zg_app zg_k212_X11_isStretch (zg_app zg_k207_X6_hasWindow (zg_app zg_k213_X0_openWindow zg_nil)))))))
theorem zi_k211_X11_level : ∀ w ∈ wz_k211_X11_level, w ∈ lw_tbl := zi_cons zw_925 (zi_app (zi_cons zw_926 (zi_cons zw_927 (zi_cons zw_103 (zi_cons zw_906 (zi_cons zw_489 (zi_cons zw_901 (zi_cons zw_902 (zi_cons zw_903 (zi_cons zw_109 (zi_cons zw_494 (zi_cons zw_929 (zi_cons zw_930 (zi_cons zw_931 (zi_cons zw_111 (zi_cons zw_383 (zi_cons zw_336 zi_nil)))))))))))))))) (zi_app inX0 (zi_app inX2 (zi_app inX11 (zi_app zi_k212_X11_isStretch (zi_app zi_k207_X6_hasWindow (zi_app zi_k213_X0_openWindow zi_nil)))))))
set_option maxHeartbeats 4000000 in
set_option maxRecDepth 100000 in
theorem k211_X11_level (l : Launch) (D : va_G) (zt : Nat × Nat × Nat × (Nat → Nat) × (Nat → Nat)) (q : Nat → Nat) (d : Nat → ClassId) (I : Nat → Int32) (A : Nat → Nat → Int32) (z1 : Int32) (z2 : Int32) (z3 : Int32) (hIv : IvX I A) : GM l D zt (tyX d) yX11_level wz_k211_X11_level ({ frames := 4, cells := 0, slots := 0, locals := 82 } : Room) [.ref (q 0), .int z1, .int z2, .int z3] (wX q d I A) (fun v _ w' => ∃ (I' : Nat → Int32) (A' : Nat → Nat → Int32), Md [28, 30, 31, 32] I I' ∧ Md [21] A A' ∧ IvX I' A' ∧ ∃ y0 : Int32, v = some (.int y0) ∧ w' = wX q d I' A') 0 0 := by
  refine GM.of (cc := cX11_level) (maxL := 4) (ret := (some .int)) (own := RX11) (lv := [(0, .ref (q 0)), (1, .int z1), (2, .int z2), (3, .int z3)]) (by decide) rfl rfl (Nat.le_of_ble_eq_true rfl) rfl (fun κ sz hk hR hN => ?_)
  have hin0 : ∀ w ∈ u_ws RX0 TX0 5, w ∈ wz_k211_X11_level := fun w h => (List.mem_cons_of_mem _ (List.mem_append_right _ (List.mem_append_left _ h)))
  have hin2 : ∀ w ∈ u_ws RX2 TX2 10, w ∈ wz_k211_X11_level := fun w h => (List.mem_cons_of_mem _ (List.mem_append_right _ (List.mem_append_right _ (List.mem_append_left _ h))))
  have hin11 : ∀ w ∈ u_ws RX11 TX11 10, w ∈ wz_k211_X11_level := fun w h => (List.mem_cons_of_mem _ (List.mem_append_right _ (List.mem_append_right _ (List.mem_append_right _ (List.mem_append_left _ h)))))
  refine g_iload_n hk dX11_level_0 rfl ?_
  refine g_callS (n := 1) hk (k212_X11_isStretch l D zt q d I A z2 hIv) (SP.same _) (fun _ h => h) (gi_S (List.mem_cons_of_mem _ (List.mem_append_left _ (List.mem_of_getElem? (i := 0) rfl))) (List.mem_cons_of_mem _ (List.mem_append_left _ (List.mem_of_getElem? (i := 1) rfl))) (List.mem_cons_of_mem _ (List.mem_append_left _ (List.mem_of_getElem? (i := 2) rfl))) (gi_sub (fun w h => (List.mem_cons_of_mem _ (List.mem_append_right _ (List.mem_append_right _ (List.mem_append_right _ (List.mem_append_right _ (List.mem_append_left _ h))))))) zg_k212_X11_isStretch)) rfl rfl rfl (by decide +kernel) ⟨Nat.le_of_ble_eq_true rfl, Nat.le_of_ble_eq_true rfl⟩ rfl rfl (Nat.le_of_ble_eq_true rfl) ⟨Nat.le_of_ble_eq_true rfl, Nat.le_of_ble_eq_true rfl⟩ dX11_level_1 (fun v ty' w' hp hk' => ?_)
  rcases hp with ⟨rfl, rfl⟩ | ⟨c2469, c2470, c2471, c2472, rfl, rfl⟩
  · skip
    show GW κ 4 0 0 (wX q d I A) 4 [(0, .ref (q 0)), (1, .int z1), (2, .int z2), (3, .int z3)] [.int 0]
    refine g_if_eq (tgt := 28) (a := 0) hk dX11_level_4 (by decide) rfl (fun _ => ?_) (fun z9 => absurd (show (0 : Int) = (0 : Int) from by decide) z9)
    refine g_ldc (v := (-1000000)) hk (List.mem_cons_of_mem _ (List.mem_append_left _ (List.mem_of_getElem? (i := 3) rfl))) dX11_level_28 ?_
    exact g_iret hk hR rfl ⟨I, A, (show Md [28, 30, 31, 32] I I from Md.rf), (show Md [21] A A from Md.rf), hIv, (-1000000), rfl, rfl⟩ dX11_level_30
  · skip
    show GW κ 4 0 0 (wX q d I A) 4 [(0, .ref (q 0)), (1, .int z1), (2, .int z2), (3, .int z3)] [.int 1]
    refine g_if_eq (tgt := 28) (a := 1) hk dX11_level_4 (by decide) rfl (fun z9 => absurd z9 (show ¬ ((1 : Int) = (0 : Int)) from by decide)) (fun _ => ?_)
    refine g_iload_n hk dX11_level_7 rfl ?_
    have b2474l := Int32.le_toInt z3
    have b2474h := Int32.toInt_lt z3
    refine g_if_lt (tgt := 28) (a := z3.toInt) hk dX11_level_8 (by decide) rfl (fun c2475 => ?_) (fun c2475 => ?_)
    · skip
      refine g_ldc (v := (-1000000)) hk (List.mem_cons_of_mem _ (List.mem_append_left _ (List.mem_of_getElem? (i := 3) rfl))) dX11_level_28 ?_
      exact g_iret hk hR rfl ⟨I, A, (show Md [28, 30, 31, 32] I I from Md.rf), (show Md [21] A A from Md.rf), hIv, (-1000000), rfl, rfl⟩ dX11_level_30
    · skip
      refine g_iload_n hk dX11_level_11 rfl ?_
      refine g_iload_n hk dX11_level_12 rfl ?_
      refine g_icmp_ge (tgt := 28) (a := z3.toInt) (b := z2.toInt) hk dX11_level_13 (by decide) rfl rfl (fun c2476 => ?_) (fun c2476 => ?_)
      · skip
        refine g_ldc (v := (-1000000)) hk (List.mem_cons_of_mem _ (List.mem_append_left _ (List.mem_of_getElem? (i := 3) rfl))) dX11_level_28 ?_
        exact g_iret hk hR rfl ⟨I, A, (show Md [28, 30, 31, 32] I I from Md.rf), (show Md [21] A A from Md.rf), hIv, (-1000000), rfl, rfl⟩ dX11_level_30
      · skip
        refine g_aload_n hk dX11_level_16 rfl ?_
        refine gX_r0_2 hk hin11 (List.mem_cons_of_mem _ (List.mem_append_left _ (List.mem_of_getElem? (i := 4) rfl))) dX11_level_17 ?_
        refine g_iload_n hk dX11_level_20 rfl ?_
        refine g_iload_n hk dX11_level_21 rfl ?_
        refine g_callV (n := 2) hk (k207_X6_hasWindow l D zt q d I A z1 z2 hIv) (SP.same _) (fun _ h => h) (gi_V (List.mem_cons_of_mem _ (List.mem_append_left _ (List.mem_of_getElem? (i := 5) rfl))) (List.mem_cons_of_mem _ (List.mem_append_left _ (List.mem_of_getElem? (i := 6) rfl))) (List.mem_cons_of_mem _ (List.mem_append_left _ (List.mem_of_getElem? (i := 7) rfl))) (List.mem_cons_of_mem _ (List.mem_append_left _ (List.mem_of_getElem? (i := 8) rfl))) (gi_sub (fun w h => (List.mem_cons_of_mem _ (List.mem_append_right _ (List.mem_append_right _ (List.mem_append_right _ (List.mem_append_right _ (List.mem_append_right _ (List.mem_append_left _ h)))))))) zg_k207_X6_hasWindow)) rfl rfl rfl (by decide +kernel) ⟨Nat.le_of_ble_eq_true rfl, Nat.le_of_ble_eq_true rfl⟩ 13 rfl rfl rfl rfl (Nat.le_of_ble_eq_true rfl) ⟨Nat.le_of_ble_eq_true rfl, Nat.le_of_ble_eq_true rfl⟩ dX11_level_22 (fun v ty' w' hp hk' => ?_)
        rcases hp with ⟨rfl, rfl⟩ | ⟨c2478, c2479, c2480, c2481, c2482, c2483, rfl, rfl⟩
        · skip
          show GW κ 4 0 0 (wX q d I A) 25 [(0, .ref (q 0)), (1, .int z1), (2, .int z2), (3, .int z3)] [.int 0]
          refine g_if_ne (tgt := 31) (a := 0) hk dX11_level_25 (by decide) rfl (fun z9 => absurd z9 (show ¬ ((0 : Int) ≠ (0 : Int)) from by decide)) (fun _ => ?_)
          refine g_ldc (v := (-1000000)) hk (List.mem_cons_of_mem _ (List.mem_append_left _ (List.mem_of_getElem? (i := 3) rfl))) dX11_level_28 ?_
          exact g_iret hk hR rfl ⟨I, A, (show Md [28, 30, 31, 32] I I from Md.rf), (show Md [21] A A from Md.rf), hIv, (-1000000), rfl, rfl⟩ dX11_level_30
        · skip
          show GW κ 4 0 0 (wX q d I A) 25 [(0, .ref (q 0)), (1, .int z1), (2, .int z2), (3, .int z3)] [.int 1]
          refine g_if_ne (tgt := 31) (a := 1) hk dX11_level_25 (by decide) rfl (fun _ => ?_) (fun z9 => absurd (show (1 : Int) ≠ (0 : Int) from by decide) z9)
          refine g_aload_n hk dX11_level_31 rfl ?_
          refine gX_r0_7 hk hin11 (List.mem_cons_of_mem _ (List.mem_append_left _ (List.mem_of_getElem? (i := 9) rfl))) dX11_level_32 ?_
          refine g_iload_n hk dX11_level_35 rfl ?_
          refine g_iload_n hk dX11_level_36 rfl ?_
          refine g_callV (n := 2) hk (k213_X0_openWindow l D zt q d I A z1 z2 hIv) (SP.same _) (fun _ h => h) (gi_V (List.mem_cons_of_mem _ (List.mem_append_left _ (List.mem_of_getElem? (i := 10) rfl))) (List.mem_cons_of_mem _ (List.mem_append_left _ (List.mem_of_getElem? (i := 11) rfl))) (List.mem_cons_of_mem _ (List.mem_append_left _ (List.mem_of_getElem? (i := 12) rfl))) (List.mem_cons_of_mem _ (List.mem_append_left _ (List.mem_of_getElem? (i := 13) rfl))) (gi_sub (fun w h => (List.mem_cons_of_mem _ (List.mem_append_right _ (List.mem_append_right _ (List.mem_append_right _ (List.mem_append_right _ (List.mem_append_right _ (List.mem_append_right _ (List.mem_append_left _ h))))))))) zg_k213_X0_openWindow)) rfl rfl rfl (by decide +kernel) ⟨Nat.le_of_ble_eq_true rfl, Nat.le_of_ble_eq_true rfl⟩ 37 rfl rfl rfl rfl (Nat.le_of_ble_eq_true rfl) ⟨Nat.le_of_ble_eq_true rfl, Nat.le_of_ble_eq_true rfl⟩ dX11_level_37 (fun v ty' w' hp hk' => ?_)
          obtain ⟨I3032, A3032, hI3032, hA3032, hV3032, rfl, rfl⟩ := hp
          show GW κ 4 0 0 (wX q d I3032 A3032) 40 [(0, .ref (q 0)), (1, .int z1), (2, .int z2), (3, .int z3)] []
          refine g_aload_n hk dX11_level_40 rfl ?_
          refine gX_r0_7 hk hin11 (List.mem_cons_of_mem _ (List.mem_append_left _ (List.mem_of_getElem? (i := 9) rfl))) dX11_level_41 ?_
          refine gX_r37_3 hk hin0 (List.mem_cons_of_mem _ (List.mem_append_left _ (List.mem_of_getElem? (i := 14) rfl))) dX11_level_44 ?_
          refine gX_r38_0 hk hin2 (List.mem_cons_of_mem _ (List.mem_append_left _ (List.mem_of_getElem? (i := 15) rfl))) dX11_level_47 ?_
          refine g_iload_n hk dX11_level_50 rfl ?_
          refine lX_21 (v := (A3032 21 z3.toNatClampNeg)) hk (vp_in_iff.mpr ⟨by omega, by omega⟩) rfl dX11_level_51 ?_
          have b3033l := Int32.le_toInt (A3032 21 z3.toNatClampNeg)
          have b3033h := Int32.toInt_lt (A3032 21 z3.toNatClampNeg)
          exact g_iret hk hR rfl ⟨I3032, A3032, (show Md [28, 30, 31, 32] I I3032 from (Md.tr Md.rf hI3032 rfl)), (show Md [21] A A3032 from (Md.tr Md.rf hA3032 rfl)), hV3032, (A3032 21 z3.toNatClampNeg), rfl, rfl⟩ dX11_level_52
