def wo_k247_X2_lookAt : List Cond := [Cond.fieldLink RX2 76 "WarpDesk$Fit" "cells" "I", Cond.fieldLink RX2 79 "WarpDesk$Fit" "brokenRow" "I", Cond.methodLink RX2 82 yX2_endsBound, Cond.instanceMethod yX2_endsBound, Cond.selects RX2 yX2_endsBound yX2_endsBound, Cond.initialized RX2, Cond.fieldLink RX2 15 "WarpDesk$Fit" "right" "[I", Cond.fieldLink RX2 9 "WarpDesk$Fit" "left" "[I", Cond.methodLink RX2 68 yX2_envelopeBound, Cond.instanceMethod yX2_envelopeBound, Cond.selects RX2 yX2_envelopeBound yX2_envelopeBound, Cond.methodLink RX2 86 yX2_layTable, Cond.instanceMethod yX2_layTable, Cond.selects RX2 yX2_layTable yX2_layTable, Cond.methodLink RX2 90 yX2_laidDistance, Cond.instanceMethod yX2_laidDistance, Cond.selects RX2 yX2_laidDistance yX2_laidDistance]
def wz_k247_X2_lookAt : List Cond := .code yX2_lookAt cX2_lookAt 2 (some .int) :: (wo_k247_X2_lookAt ++ (wsX20 ++ (wz_k239_X2_endsBound ++ (wz_k241_X2_envelopeBound ++ (wz_k244_X2_envelopeBound ++ (wz_k233_X2_layTable ++ (wz_k237_X2_laidDistance ++ ([] : List Cond))))))))
theorem zg_k247_X2_lookAt : ∀ w ∈ wz_k247_X2_lookAt, goodWord w = true := zg_cons rfl (zg_app (by decide +kernel) (zg_app zgU_wsX20 (zg_app zg_k239_X2_endsBound (zg_app zg_k241_X2_envelopeBound (zg_app zg_k244_X2_envelopeBound (zg_app zg_k233_X2_layTable (zg_app zg_k237_X2_laidDistance zg_nil)))))))
theorem zi_k247_X2_lookAt : ∀ w ∈ wz_k247_X2_lookAt, w ∈ lw_tbl := zi_cons zw_1048 (zi_app (zi_cons zw_347 (zi_cons zw_350 (zi_cons zw_1049 (zi_cons zw_1022 (zi_cons zw_1023 (zi_cons zw_112 (zi_cons zw_337 (zi_cons zw_334 (zi_cons zw_1029 (zi_cons zw_1031 (zi_cons zw_32 (zi_cons zw_997 (zi_cons zw_999 (zi_cons zw_28 (zi_cons zw_1013 (zi_cons zw_1014 (zi_cons zw_1015 zi_nil))))))))))))))))) (zi_app inX2 (zi_app zi_k239_X2_endsBound (zi_app zi_k241_X2_envelopeBound (zi_app zi_k244_X2_envelopeBound (zi_app zi_k233_X2_layTable (zi_app zi_k237_X2_laidDistance zi_nil)))))))
set_option maxHeartbeats 4000000 in
set_option maxRecDepth 100000 in
theorem k247_X2_lookAt (l : Launch) (D : va_G) (zt : Nat × Nat × Nat × (Nat → Nat) × (Nat → Nat)) (q : Nat → Nat) (d : Nat → ClassId) (I : Nat → Int32) (A : Nat → Nat → Int32) (z1 : Int32) (hIv : IvX I A) : GM l D zt (tyX d) yX2_lookAt wz_k247_X2_lookAt ({ frames := 3, cells := 0, slots := 0, locals := 76 } : Room) [.ref (q 38), .int z1] (wX q d I A) (fun v _ w' => ∃ (I' : Nat → Int32) (A' : Nat → Nat → Int32), Md [33, 34] I I' ∧ Md [23] A A' ∧ IvX I' A' ∧ ∃ y0 : Int32, (0 ≤ y0.toInt) ∧ (y0.toInt ≤ 5) ∧ v = some (.int y0) ∧ w' = wX q d I' A') 0 0 := by
  refine GM.of (cc := cX2_lookAt) (maxL := 2) (ret := (some .int)) (own := RX2) (lv := [(0, .ref (q 38)), (1, .int z1)]) (by decide) rfl rfl (Nat.le_of_ble_eq_true rfl) rfl (fun κ sz hk hR hN => ?_)
  have hin2 : ∀ w ∈ u_ws RX2 TX2 10, w ∈ wz_k247_X2_lookAt := fun w h => (List.mem_cons_of_mem _ (List.mem_append_right _ (List.mem_append_left _ h)))
  refine g_aload_n hk dX2_lookAt_0 rfl ?_
  refine g_iconst (v := 0) hk dX2_lookAt_1 (by decide) ?_
  refine pX_i33 hk hin2 (List.mem_cons_of_mem _ (List.mem_append_left _ (List.mem_of_getElem? (i := 0) rfl))) dX2_lookAt_2 ?_
  refine g_aload_n hk dX2_lookAt_5 rfl ?_
  refine g_bipush (v := (-2)) hk dX2_lookAt_6 (by decide) ?_
  refine pX_i34 hk hin2 (List.mem_cons_of_mem _ (List.mem_append_left _ (List.mem_of_getElem? (i := 1) rfl))) dX2_lookAt_8 ?_
  refine g_aload_n hk dX2_lookAt_11 rfl ?_
  refine g_callV (n := 0) hk (k239_X2_endsBound l D zt q d (upd (upd I 33 0) 34 (-2)) A  ⟨(IvX_f0 (I := I) (A := A) hIv), (IvX_f18 (I := I) (A := A) hIv), (IvX_f30 (I := I) (A := A) hIv), (IvX_f31 (I := I) (A := A) hIv), (IvX_a4 (I := I) (A := A) hIv), (IvX_a9 (I := I) (A := A) hIv), trivial⟩) (SP.same _) (fun _ h => h) (gi_V (List.mem_cons_of_mem _ (List.mem_append_left _ (List.mem_of_getElem? (i := 2) rfl))) (List.mem_cons_of_mem _ (List.mem_append_left _ (List.mem_of_getElem? (i := 3) rfl))) (List.mem_cons_of_mem _ (List.mem_append_left _ (List.mem_of_getElem? (i := 4) rfl))) (List.mem_cons_of_mem _ (List.mem_append_left _ (List.mem_of_getElem? (i := 5) rfl))) (gi_sub (fun w h => (List.mem_cons_of_mem _ (List.mem_append_right _ (List.mem_append_right _ (List.mem_append_left _ h))))) zg_k239_X2_endsBound)) rfl rfl rfl (by decide +kernel) ⟨Nat.le_of_ble_eq_true rfl, Nat.le_of_ble_eq_true rfl⟩ 38 rfl rfl rfl rfl (Nat.le_of_ble_eq_true rfl) ⟨Nat.le_of_ble_eq_true rfl, Nat.le_of_ble_eq_true rfl⟩ dX2_lookAt_12 (fun v ty' w' hp hk' => ?_)
  obtain ⟨y4285, rfl, rfl⟩ := hp
  show GW κ 2 0 0 (wX q d (upd (upd I 33 0) 34 (-2)) A) 15 [(0, .ref (q 38)), (1, .int z1)] [.int y4285]
  refine g_iload_n hk dX2_lookAt_15 rfl ?_
  have b4286l := Int32.le_toInt y4285
  have b4286h := Int32.toInt_lt y4285
  have b4287l := Int32.le_toInt z1
  have b4287h := Int32.toInt_lt z1
  refine g_icmp_lt (tgt := 21) (a := y4285.toInt) (b := z1.toInt) hk dX2_lookAt_16 (by decide) rfl rfl (fun c4288 => ?_) (fun c4288 => ?_)
  · skip
    refine g_aload_n hk dX2_lookAt_21 rfl ?_
    refine g_aload_n hk dX2_lookAt_22 rfl ?_
    refine gX_r38_1 hk hin2 (List.mem_cons_of_mem _ (List.mem_append_left _ (List.mem_of_getElem? (i := 6) rfl))) dX2_lookAt_23 ?_
    refine g_aload_n hk dX2_lookAt_26 rfl ?_
    refine gX_r38_0 hk hin2 (List.mem_cons_of_mem _ (List.mem_append_left _ (List.mem_of_getElem? (i := 7) rfl))) dX2_lookAt_27 ?_
    refine g_callV (n := 2) hk (k241_X2_envelopeBound l D zt q d (upd (upd I 33 0) 34 (-2)) A  ⟨(IvX_f0 (I := I) (A := A) hIv), (IvX_f18 (I := I) (A := A) hIv), (IvX_f30 (I := I) (A := A) hIv), (IvX_f31 (I := I) (A := A) hIv), (IvX_a4 (I := I) (A := A) hIv), (IvX_a9 (I := I) (A := A) hIv), trivial⟩) (SP.same _) (fun _ h => h) (gi_V (List.mem_cons_of_mem _ (List.mem_append_left _ (List.mem_of_getElem? (i := 8) rfl))) (List.mem_cons_of_mem _ (List.mem_append_left _ (List.mem_of_getElem? (i := 9) rfl))) (List.mem_cons_of_mem _ (List.mem_append_left _ (List.mem_of_getElem? (i := 10) rfl))) (List.mem_cons_of_mem _ (List.mem_append_left _ (List.mem_of_getElem? (i := 5) rfl))) (gi_sub (fun w h => (List.mem_cons_of_mem _ (List.mem_append_right _ (List.mem_append_right _ (List.mem_append_right _ (List.mem_append_left _ h)))))) zg_k241_X2_envelopeBound)) rfl rfl rfl (by decide +kernel) ⟨Nat.le_of_ble_eq_true rfl, Nat.le_of_ble_eq_true rfl⟩ 38 rfl rfl rfl rfl (Nat.le_of_ble_eq_true rfl) ⟨Nat.le_of_ble_eq_true rfl, Nat.le_of_ble_eq_true rfl⟩ dX2_lookAt_30 (fun v ty' w' hp hk' => ?_)
    obtain ⟨y4289, rfl, rfl⟩ := hp
    show GW κ 2 0 0 (wX q d (upd (upd I 33 0) 34 (-2)) A) 33 [(0, .ref (q 38)), (1, .int z1)] [.int y4289]
    refine g_iload_n hk dX2_lookAt_33 rfl ?_
    have b4290l := Int32.le_toInt y4289
    have b4290h := Int32.toInt_lt y4289
    refine g_icmp_lt (tgt := 39) (a := y4289.toInt) (b := z1.toInt) hk dX2_lookAt_34 (by decide) rfl rfl (fun c4291 => ?_) (fun c4291 => ?_)
    · skip
      refine g_aload_n hk dX2_lookAt_39 rfl ?_
      refine g_aload_n hk dX2_lookAt_40 rfl ?_
      refine gX_r38_0 hk hin2 (List.mem_cons_of_mem _ (List.mem_append_left _ (List.mem_of_getElem? (i := 7) rfl))) dX2_lookAt_41 ?_
      refine g_aload_n hk dX2_lookAt_44 rfl ?_
      refine gX_r38_1 hk hin2 (List.mem_cons_of_mem _ (List.mem_append_left _ (List.mem_of_getElem? (i := 6) rfl))) dX2_lookAt_45 ?_
      refine g_callV (n := 2) hk (k244_X2_envelopeBound l D zt q d (upd (upd I 33 0) 34 (-2)) A  ⟨(IvX_f0 (I := I) (A := A) hIv), (IvX_f18 (I := I) (A := A) hIv), (IvX_f30 (I := I) (A := A) hIv), (IvX_f31 (I := I) (A := A) hIv), (IvX_a4 (I := I) (A := A) hIv), (IvX_a9 (I := I) (A := A) hIv), trivial⟩) (SP.same _) (fun _ h => h) (gi_V (List.mem_cons_of_mem _ (List.mem_append_left _ (List.mem_of_getElem? (i := 8) rfl))) (List.mem_cons_of_mem _ (List.mem_append_left _ (List.mem_of_getElem? (i := 9) rfl))) (List.mem_cons_of_mem _ (List.mem_append_left _ (List.mem_of_getElem? (i := 10) rfl))) (List.mem_cons_of_mem _ (List.mem_append_left _ (List.mem_of_getElem? (i := 5) rfl))) (gi_sub (fun w h => (List.mem_cons_of_mem _ (List.mem_append_right _ (List.mem_append_right _ (List.mem_append_right _ (List.mem_append_right _ (List.mem_append_left _ h))))))) zg_k244_X2_envelopeBound)) rfl rfl rfl (by decide +kernel) ⟨Nat.le_of_ble_eq_true rfl, Nat.le_of_ble_eq_true rfl⟩ 38 rfl rfl rfl rfl (Nat.le_of_ble_eq_true rfl) ⟨Nat.le_of_ble_eq_true rfl, Nat.le_of_ble_eq_true rfl⟩ dX2_lookAt_48 (fun v ty' w' hp hk' => ?_)
      obtain ⟨y4292, rfl, rfl⟩ := hp
      show GW κ 2 0 0 (wX q d (upd (upd I 33 0) 34 (-2)) A) 51 [(0, .ref (q 38)), (1, .int z1)] [.int y4292]
      refine g_iload_n hk dX2_lookAt_51 rfl ?_
      have b4293l := Int32.le_toInt y4292
      have b4293h := Int32.toInt_lt y4292
      refine g_icmp_lt (tgt := 57) (a := y4292.toInt) (b := z1.toInt) hk dX2_lookAt_52 (by decide) rfl rfl (fun c4294 => ?_) (fun c4294 => ?_)
      · skip
        refine g_aload_n hk dX2_lookAt_57 rfl ?_
        refine g_iload_n hk dX2_lookAt_58 rfl ?_
        refine g_callV (n := 1) hk (k233_X2_layTable l D zt q d (upd (upd I 33 0) 34 (-2)) A z1 ⟨(IvX_f0 (I := I) (A := A) hIv), (IvX_f18 (I := I) (A := A) hIv), (IvX_f30 (I := I) (A := A) hIv), (IvX_f31 (I := I) (A := A) hIv), (IvX_a4 (I := I) (A := A) hIv), (IvX_a9 (I := I) (A := A) hIv), trivial⟩) (SP.same _) (fun _ h => h) (gi_V (List.mem_cons_of_mem _ (List.mem_append_left _ (List.mem_of_getElem? (i := 11) rfl))) (List.mem_cons_of_mem _ (List.mem_append_left _ (List.mem_of_getElem? (i := 12) rfl))) (List.mem_cons_of_mem _ (List.mem_append_left _ (List.mem_of_getElem? (i := 13) rfl))) (List.mem_cons_of_mem _ (List.mem_append_left _ (List.mem_of_getElem? (i := 5) rfl))) (gi_sub (fun w h => (List.mem_cons_of_mem _ (List.mem_append_right _ (List.mem_append_right _ (List.mem_append_right _ (List.mem_append_right _ (List.mem_append_right _ (List.mem_append_left _ h)))))))) zg_k233_X2_layTable)) rfl rfl rfl (by decide +kernel) ⟨Nat.le_of_ble_eq_true rfl, Nat.le_of_ble_eq_true rfl⟩ 38 rfl rfl rfl rfl (Nat.le_of_ble_eq_true rfl) ⟨Nat.le_of_ble_eq_true rfl, Nat.le_of_ble_eq_true rfl⟩ dX2_lookAt_59 (fun v ty' w' hp hk' => ?_)
        obtain ⟨I4296, A4296, hI4296, hA4296, hV4296, rfl, rfl⟩ := hp
        show GW κ 2 0 0 (wX q d I4296 A4296) 62 [(0, .ref (q 38)), (1, .int z1)] []
        refine g_aload_n hk dX2_lookAt_62 rfl ?_
        refine gX_i34 (v := (I4296 34)) hk hin2 (List.mem_cons_of_mem _ (List.mem_append_left _ (List.mem_of_getElem? (i := 1) rfl))) dX2_lookAt_63 rfl ?_
        refine g_bipush (v := (-2)) hk dX2_lookAt_66 (by decide) ?_
        have b4297l := Int32.le_toInt (I4296 34)
        have b4297h := Int32.toInt_lt (I4296 34)
        refine g_icmp_eq (tgt := 73) (a := (I4296 34).toInt) (b := (-2)) hk dX2_lookAt_68 (by decide) rfl rfl (fun c4298 => ?_) (fun c4298 => ?_)
        · skip
          refine g_aload_n hk dX2_lookAt_73 rfl ?_
          refine g_callV (n := 0) hk (k237_X2_laidDistance l D zt q d I4296 A4296  hV4296) (SP.same _) (fun _ h => h) (gi_V (List.mem_cons_of_mem _ (List.mem_append_left _ (List.mem_of_getElem? (i := 14) rfl))) (List.mem_cons_of_mem _ (List.mem_append_left _ (List.mem_of_getElem? (i := 15) rfl))) (List.mem_cons_of_mem _ (List.mem_append_left _ (List.mem_of_getElem? (i := 16) rfl))) (List.mem_cons_of_mem _ (List.mem_append_left _ (List.mem_of_getElem? (i := 5) rfl))) (gi_sub (fun w h => (List.mem_cons_of_mem _ (List.mem_append_right _ (List.mem_append_right _ (List.mem_append_right _ (List.mem_append_right _ (List.mem_append_right _ (List.mem_append_right _ (List.mem_append_left _ h))))))))) zg_k237_X2_laidDistance)) rfl rfl rfl (by decide +kernel) ⟨Nat.le_of_ble_eq_true rfl, Nat.le_of_ble_eq_true rfl⟩ 38 rfl rfl rfl rfl (Nat.le_of_ble_eq_true rfl) ⟨Nat.le_of_ble_eq_true rfl, Nat.le_of_ble_eq_true rfl⟩ dX2_lookAt_74 (fun v ty' w' hp hk' => ?_)
          obtain ⟨y4299, rfl, rfl⟩ := hp
          show GW κ 2 0 0 (wX q d I4296 A4296) 77 [(0, .ref (q 38)), (1, .int z1)] [.int y4299]
          refine g_iload_n hk dX2_lookAt_77 rfl ?_
          have b4300l := Int32.le_toInt y4299
          have b4300h := Int32.toInt_lt y4299
          refine g_icmp_lt (tgt := 85) (a := y4299.toInt) (b := z1.toInt) hk dX2_lookAt_78 (by decide) rfl rfl (fun c4301 => ?_) (fun c4301 => ?_)
          · skip
            refine g_iconst (v := 0) hk dX2_lookAt_85 (by decide) ?_
            exact g_iret hk hR rfl ⟨I4296, A4296, (show Md [33, 34] I I4296 from (Md.tr (Md.up (Md.up Md.rf rfl) rfl) hI4296 rfl)), (show Md [23] A A4296 from (Md.tr Md.rf hA4296 rfl)), hV4296, 0, (by decide), (by decide), rfl, rfl⟩ dX2_lookAt_86
          · skip
            refine g_iconst (v := 5) hk dX2_lookAt_81 (by decide) ?_
            refine g_goto (tgt := 86) hk dX2_lookAt_82 (by decide) ?_
            exact g_iret hk hR rfl ⟨I4296, A4296, (show Md [33, 34] I I4296 from (Md.tr (Md.up (Md.up Md.rf rfl) rfl) hI4296 rfl)), (show Md [23] A A4296 from (Md.tr Md.rf hA4296 rfl)), hV4296, 5, (by decide), (by decide), rfl, rfl⟩ dX2_lookAt_86
        · skip
          refine g_iconst (v := 4) hk dX2_lookAt_71 (by decide) ?_
          exact g_iret hk hR rfl ⟨I4296, A4296, (show Md [33, 34] I I4296 from (Md.tr (Md.up (Md.up Md.rf rfl) rfl) hI4296 rfl)), (show Md [23] A A4296 from (Md.tr Md.rf hA4296 rfl)), hV4296, 4, (by decide), (by decide), rfl, rfl⟩ dX2_lookAt_72
      · skip
        refine g_iconst (v := 3) hk dX2_lookAt_55 (by decide) ?_
        exact g_iret hk hR rfl ⟨(upd (upd I 33 0) 34 (-2)), A, (show Md [33, 34] I (upd (upd I 33 0) 34 (-2)) from (Md.up (Md.up Md.rf rfl) rfl)), (show Md [23] A A from Md.rf), ⟨(IvX_f0 (I := I) (A := A) hIv), (IvX_f18 (I := I) (A := A) hIv), (IvX_f30 (I := I) (A := A) hIv), (IvX_f31 (I := I) (A := A) hIv), (IvX_a4 (I := I) (A := A) hIv), (IvX_a9 (I := I) (A := A) hIv), trivial⟩, 3, (by decide), (by decide), rfl, rfl⟩ dX2_lookAt_56
    · skip
      refine g_iconst (v := 2) hk dX2_lookAt_37 (by decide) ?_
      exact g_iret hk hR rfl ⟨(upd (upd I 33 0) 34 (-2)), A, (show Md [33, 34] I (upd (upd I 33 0) 34 (-2)) from (Md.up (Md.up Md.rf rfl) rfl)), (show Md [23] A A from Md.rf), ⟨(IvX_f0 (I := I) (A := A) hIv), (IvX_f18 (I := I) (A := A) hIv), (IvX_f30 (I := I) (A := A) hIv), (IvX_f31 (I := I) (A := A) hIv), (IvX_a4 (I := I) (A := A) hIv), (IvX_a9 (I := I) (A := A) hIv), trivial⟩, 2, (by decide), (by decide), rfl, rfl⟩ dX2_lookAt_38
  · skip
    refine g_iconst (v := 1) hk dX2_lookAt_19 (by decide) ?_
    exact g_iret hk hR rfl ⟨(upd (upd I 33 0) 34 (-2)), A, (show Md [33, 34] I (upd (upd I 33 0) 34 (-2)) from (Md.up (Md.up Md.rf rfl) rfl)), (show Md [23] A A from Md.rf), ⟨(IvX_f0 (I := I) (A := A) hIv), (IvX_f18 (I := I) (A := A) hIv), (IvX_f30 (I := I) (A := A) hIv), (IvX_f31 (I := I) (A := A) hIv), (IvX_a4 (I := I) (A := A) hIv), (IvX_a9 (I := I) (A := A) hIv), trivial⟩, 1, (by decide), (by decide), rfl, rfl⟩ dX2_lookAt_20
def wo_k246_X11_look : List Cond := [Cond.fieldLink RX11 65 "WarpDesk" "bench" "LWarpDesk$Bench;", Cond.methodLink RX11 212 yX0_openBoth, Cond.instanceMethod yX0_openBoth, Cond.selects RX0 yX0_openBoth yX0_openBoth, Cond.initialized RX0, Cond.fieldLink RX11 202 "WarpDesk$Bench" "fit" "LWarpDesk$Fit;", Cond.methodLink RX11 227 yX2_lookAt, Cond.instanceMethod yX2_lookAt, Cond.selects RX2 yX2_lookAt yX2_lookAt, Cond.initialized RX2, Cond.fieldLink RX11 233 "WarpDesk$Fit" "brokenRow" "I", Cond.fieldLink RX11 230 "WarpDesk$Fit" "cells" "I"]
def wz_k246_X11_look : List Cond := .code yX11_look cX11_look 6 (some .int) :: (wo_k246_X11_look ++ (wsX00 ++ (wsX20 ++ (wsX110 ++ (wz_k222_X0_openBoth ++ (wz_k247_X2_lookAt ++ ([] : List Cond)))))))
theorem zg_k246_X11_look : ∀ w ∈ wz_k246_X11_look, goodWord w = true := zg_cons rfl (zg_app (by decide +kernel) (zg_app zgU_wsX00 (zg_app zgU_wsX20 (zg_app zgU_wsX110 (zg_app zg_k222_X0_openBoth (zg_app zg_k247_X2_lookAt zg_nil))))))
theorem zi_k246_X11_look : ∀ w ∈ wz_k246_X11_look, w ∈ lw_tbl := zi_cons zw_1044 (zi_app (zi_cons zw_494 (zi_cons zw_969 (zi_cons zw_970 (zi_cons zw_971 (zi_cons zw_111 (zi_cons zw_383 (zi_cons zw_1045 (zi_cons zw_1046 (zi_cons zw_1047 (zi_cons zw_112 (zi_cons zw_351 (zi_cons zw_348 zi_nil)))))))))))) (zi_app inX0 (zi_app inX2 (zi_app inX11 (zi_app zi_k222_X0_openBoth (zi_app zi_k247_X2_lookAt zi_nil))))))
set_option maxHeartbeats 4000000 in
set_option maxRecDepth 100000 in
theorem k246_X11_look (l : Launch) (D : va_G) (zt : Nat × Nat × Nat × (Nat → Nat) × (Nat → Nat)) (q : Nat → Nat) (d : Nat → ClassId) (I : Nat → Int32) (A : Nat → Nat → Int32) (z1 : Int32) (z2 : Int32) (z3 : Int32) (z4 : Int32) (hIv : IvX I A) : GM l D zt (tyX d) yX11_look wz_k246_X11_look ({ frames := 6, cells := 0, slots := 0, locals := 131 } : Room) [.ref (q 0), .int z1, .int z2, .int z3, .int z4] (wX q d I A) (fun v _ w' => ∃ (I' : Nat → Int32) (A' : Nat → Nat → Int32), Md [28, 30, 31, 32, 33, 34] I I' ∧ Md [21, 22, 23] A A' ∧ IvX I' A' ∧ ∃ y0 : Int32, v = some (.int y0) ∧ w' = wX q d I' A') 0 0 := by
  refine GM.of (cc := cX11_look) (maxL := 6) (ret := (some .int)) (own := RX11) (lv := [(0, .ref (q 0)), (1, .int z1), (2, .int z2), (3, .int z3), (4, .int z4)]) (by decide) rfl rfl (Nat.le_of_ble_eq_true rfl) rfl (fun κ sz hk hR hN => ?_)
  have hin0 : ∀ w ∈ u_ws RX0 TX0 5, w ∈ wz_k246_X11_look := fun w h => (List.mem_cons_of_mem _ (List.mem_append_right _ (List.mem_append_left _ h)))
  have hin2 : ∀ w ∈ u_ws RX2 TX2 10, w ∈ wz_k246_X11_look := fun w h => (List.mem_cons_of_mem _ (List.mem_append_right _ (List.mem_append_right _ (List.mem_append_left _ h))))
  have hin11 : ∀ w ∈ u_ws RX11 TX11 10, w ∈ wz_k246_X11_look := fun w h => (List.mem_cons_of_mem _ (List.mem_append_right _ (List.mem_append_right _ (List.mem_append_right _ (List.mem_append_left _ h)))))
  refine g_iload_n hk dX11_look_0 rfl ?_
  have b4275l := Int32.le_toInt z3
  have b4275h := Int32.toInt_lt z3
  refine g_if_lt (tgt := 27) (a := z3.toInt) hk dX11_look_1 (by decide) rfl (fun c4276 => ?_) (fun c4276 => ?_)
  · skip
    refine g_iconst (v := (-1)) hk dX11_look_27 (by decide) ?_
    exact g_iret hk hR rfl ⟨I, A, (show Md [28, 30, 31, 32, 33, 34] I I from Md.rf), (show Md [21, 22, 23] A A from Md.rf), hIv, (-1), rfl, rfl⟩ dX11_look_28
  · skip
    refine g_iload hk dX11_look_4 rfl ?_
    have b4277l := Int32.le_toInt z4
    have b4277h := Int32.toInt_lt z4
    refine g_if_lt (tgt := 27) (a := z4.toInt) hk dX11_look_6 (by decide) rfl (fun c4278 => ?_) (fun c4278 => ?_)
    · skip
      refine g_iconst (v := (-1)) hk dX11_look_27 (by decide) ?_
      exact g_iret hk hR rfl ⟨I, A, (show Md [28, 30, 31, 32, 33, 34] I I from Md.rf), (show Md [21, 22, 23] A A from Md.rf), hIv, (-1), rfl, rfl⟩ dX11_look_28
    · skip
      refine g_iload hk dX11_look_9 rfl ?_
      refine g_iconst (v := 2) hk dX11_look_11 (by decide) ?_
      refine g_icmp_gt (tgt := 27) (a := z4.toInt) (b := 2) hk dX11_look_12 (by decide) rfl rfl (fun c4279 => ?_) (fun c4279 => ?_)
      · skip
        refine g_iconst (v := (-1)) hk dX11_look_27 (by decide) ?_
        exact g_iret hk hR rfl ⟨I, A, (show Md [28, 30, 31, 32, 33, 34] I I from Md.rf), (show Md [21, 22, 23] A A from Md.rf), hIv, (-1), rfl, rfl⟩ dX11_look_28
      · skip
        refine g_aload_n hk dX11_look_15 rfl ?_
        refine gX_r0_7 hk hin11 (List.mem_cons_of_mem _ (List.mem_append_left _ (List.mem_of_getElem? (i := 0) rfl))) dX11_look_16 ?_
        refine g_iload_n hk dX11_look_19 rfl ?_
        refine g_iload_n hk dX11_look_20 rfl ?_
        refine g_callV (n := 2) hk (k222_X0_openBoth l D zt q d I A z1 z2 hIv) (SP.same _) (fun _ h => h) (gi_V (List.mem_cons_of_mem _ (List.mem_append_left _ (List.mem_of_getElem? (i := 1) rfl))) (List.mem_cons_of_mem _ (List.mem_append_left _ (List.mem_of_getElem? (i := 2) rfl))) (List.mem_cons_of_mem _ (List.mem_append_left _ (List.mem_of_getElem? (i := 3) rfl))) (List.mem_cons_of_mem _ (List.mem_append_left _ (List.mem_of_getElem? (i := 4) rfl))) (gi_sub (fun w h => (List.mem_cons_of_mem _ (List.mem_append_right _ (List.mem_append_right _ (List.mem_append_right _ (List.mem_append_right _ (List.mem_append_left _ h))))))) zg_k222_X0_openBoth)) rfl rfl rfl (by decide +kernel) ⟨Nat.le_of_ble_eq_true rfl, Nat.le_of_ble_eq_true rfl⟩ 37 rfl rfl rfl rfl (Nat.le_of_ble_eq_true rfl) ⟨Nat.le_of_ble_eq_true rfl, Nat.le_of_ble_eq_true rfl⟩ dX11_look_21 (fun v ty' w' hp hk' => ?_)
        obtain ⟨I4283, A4283, hI4283, hA4283, hV4283, y4280, c4281, c4282, rfl, rfl⟩ := hp
        show GW κ 6 0 0 (wX q d I4283 A4283) 24 [(0, .ref (q 0)), (1, .int z1), (2, .int z2), (3, .int z3), (4, .int z4)] [.int y4280]
        refine g_if_ne (tgt := 29) (a := y4280.toInt) hk dX11_look_24 (by decide) rfl (fun c4284 => ?_) (fun c4284 => ?_)
        · skip
          refine g_aload_n hk dX11_look_29 rfl ?_
          refine gX_r0_7 hk hin11 (List.mem_cons_of_mem _ (List.mem_append_left _ (List.mem_of_getElem? (i := 0) rfl))) dX11_look_30 ?_
          refine gX_r37_3 hk hin0 (List.mem_cons_of_mem _ (List.mem_append_left _ (List.mem_of_getElem? (i := 5) rfl))) dX11_look_33 ?_
          refine g_iload_n hk dX11_look_36 rfl ?_
          refine g_callV (n := 1) hk (k247_X2_lookAt l D zt q d I4283 A4283 z3 hV4283) (SP.same _) (fun _ h => h) (gi_V (List.mem_cons_of_mem _ (List.mem_append_left _ (List.mem_of_getElem? (i := 6) rfl))) (List.mem_cons_of_mem _ (List.mem_append_left _ (List.mem_of_getElem? (i := 7) rfl))) (List.mem_cons_of_mem _ (List.mem_append_left _ (List.mem_of_getElem? (i := 8) rfl))) (List.mem_cons_of_mem _ (List.mem_append_left _ (List.mem_of_getElem? (i := 9) rfl))) (gi_sub (fun w h => (List.mem_cons_of_mem _ (List.mem_append_right _ (List.mem_append_right _ (List.mem_append_right _ (List.mem_append_right _ (List.mem_append_right _ (List.mem_append_left _ h)))))))) zg_k247_X2_lookAt)) rfl rfl rfl (by decide +kernel) ⟨Nat.le_of_ble_eq_true rfl, Nat.le_of_ble_eq_true rfl⟩ 38 rfl rfl rfl rfl (Nat.le_of_ble_eq_true rfl) ⟨Nat.le_of_ble_eq_true rfl, Nat.le_of_ble_eq_true rfl⟩ dX11_look_37 (fun v ty' w' hp hk' => ?_)
          obtain ⟨I4305, A4305, hI4305, hA4305, hV4305, y4302, c4303, c4304, rfl, rfl⟩ := hp
          show GW κ 6 0 0 (wX q d I4305 A4305) 40 [(0, .ref (q 0)), (1, .int z1), (2, .int z2), (3, .int z3), (4, .int z4)] [.int y4302]
          refine g_istore (lv' := [(5, .int y4302), (0, .ref (q 0)), (1, .int z1), (2, .int z2), (3, .int z3), (4, .int z4)]) hk dX11_look_40 (by decide) rfl ?_
          refine g_iload hk dX11_look_42 rfl ?_
          refine g_if_ne (tgt := 50) (a := z4.toInt) hk dX11_look_44 (by decide) rfl (fun c4306 => ?_) (fun c4306 => ?_)
          · skip
            refine g_iload hk dX11_look_50 rfl ?_
            refine g_iconst (v := 1) hk dX11_look_52 (by decide) ?_
            refine g_icmp_ne (tgt := 69) (a := z4.toInt) (b := 1) hk dX11_look_53 (by decide) rfl rfl (fun c4307 => ?_) (fun c4307 => ?_)
            · skip
              refine g_aload_n hk dX11_look_69 rfl ?_
              refine gX_r0_7 hk hin11 (List.mem_cons_of_mem _ (List.mem_append_left _ (List.mem_of_getElem? (i := 0) rfl))) dX11_look_70 ?_
              refine gX_r37_3 hk hin0 (List.mem_cons_of_mem _ (List.mem_append_left _ (List.mem_of_getElem? (i := 5) rfl))) dX11_look_73 ?_
              refine gX_i34 (v := (I4305 34)) hk hin2 (List.mem_cons_of_mem _ (List.mem_append_left _ (List.mem_of_getElem? (i := 10) rfl))) dX11_look_76 rfl ?_
              have b4308l := Int32.le_toInt (I4305 34)
              have b4308h := Int32.toInt_lt (I4305 34)
              exact g_iret hk hR rfl ⟨I4305, A4305, (show Md [28, 30, 31, 32, 33, 34] I I4305 from (Md.tr (Md.tr Md.rf hI4283 rfl) hI4305 rfl)), (show Md [21, 22, 23] A A4305 from (Md.tr (Md.tr Md.rf hA4283 rfl) hA4305 rfl)), hV4305, (I4305 34), rfl, rfl⟩ dX11_look_79
            · skip
              refine g_aload_n hk dX11_look_56 rfl ?_
              refine gX_r0_7 hk hin11 (List.mem_cons_of_mem _ (List.mem_append_left _ (List.mem_of_getElem? (i := 0) rfl))) dX11_look_57 ?_
              refine gX_r37_3 hk hin0 (List.mem_cons_of_mem _ (List.mem_append_left _ (List.mem_of_getElem? (i := 5) rfl))) dX11_look_60 ?_
              refine gX_i33 (v := (I4305 33)) hk hin2 (List.mem_cons_of_mem _ (List.mem_append_left _ (List.mem_of_getElem? (i := 11) rfl))) dX11_look_63 rfl ?_
              refine g_goto (tgt := 79) hk dX11_look_66 (by decide) ?_
              have b4309l := Int32.le_toInt (I4305 33)
              have b4309h := Int32.toInt_lt (I4305 33)
              exact g_iret hk hR rfl ⟨I4305, A4305, (show Md [28, 30, 31, 32, 33, 34] I I4305 from (Md.tr (Md.tr Md.rf hI4283 rfl) hI4305 rfl)), (show Md [21, 22, 23] A A4305 from (Md.tr (Md.tr Md.rf hA4283 rfl) hA4305 rfl)), hV4305, (I4305 33), rfl, rfl⟩ dX11_look_79
          · skip
            refine g_iload hk dX11_look_47 rfl ?_
            exact g_iret hk hR rfl ⟨I4305, A4305, (show Md [28, 30, 31, 32, 33, 34] I I4305 from (Md.tr (Md.tr Md.rf hI4283 rfl) hI4305 rfl)), (show Md [21, 22, 23] A A4305 from (Md.tr (Md.tr Md.rf hA4283 rfl) hA4305 rfl)), hV4305, y4302, rfl, rfl⟩ dX11_look_49
        · skip
          refine g_iconst (v := (-1)) hk dX11_look_27 (by decide) ?_
          exact g_iret hk hR rfl ⟨I4283, A4283, (show Md [28, 30, 31, 32, 33, 34] I I4283 from (Md.tr Md.rf hI4283 rfl)), (show Md [21, 22, 23] A A4283 from (Md.tr Md.rf hA4283 rfl)), hV4283, (-1), rfl, rfl⟩ dX11_look_28
def wo_k250_X2_cellAt : List Cond := [Cond.constant RX2 93 (2147483647), Cond.fieldLink RX2 24 "WarpDesk$Fit" "length" "I", Cond.fieldLink RX2 37 "WarpDesk$Fit" "band" "I", Cond.fieldLink RX2 18 "WarpDesk$Fit" "table" "[I"]
def wz_k250_X2_cellAt : List Cond := .code yX2_cellAt cX2_cellAt 4 (some .int) :: (wo_k250_X2_cellAt ++ (wsX20 ++ ([] : List Cond)))
theorem zg_k250_X2_cellAt : ∀ w ∈ wz_k250_X2_cellAt, goodWord w = true := zg_cons rfl (zg_app (by decide +kernel) (zg_app zgU_wsX20 zg_nil))
theorem zi_k250_X2_cellAt : ∀ w ∈ wz_k250_X2_cellAt, w ∈ lw_tbl := zi_cons zw_1061 (zi_app (zi_cons zw_996 (zi_cons zw_343 (zi_cons zw_344 (zi_cons zw_339 zi_nil)))) (zi_app inX2 zi_nil))
set_option maxHeartbeats 4000000 in
set_option maxRecDepth 100000 in
theorem k250_X2_cellAt (l : Launch) (D : va_G) (zt : Nat × Nat × Nat × (Nat → Nat) × (Nat → Nat)) (q : Nat → Nat) (d : Nat → ClassId) (I : Nat → Int32) (A : Nat → Nat → Int32) (z1 : Int32) (z2 : Int32) (hIv : IvX I A) : GM l D zt (tyX d) yX2_cellAt wz_k250_X2_cellAt ({ frames := 0, cells := 0, slots := 0, locals := 0 } : Room) [.ref (q 38), .int z1, .int z2] (wX q d I A) (fun v _ w' => ∃ y0 : Int32, v = some (.int y0) ∧ w' = wX q d I A) 0 0 := by
  refine GM.of (cc := cX2_cellAt) (maxL := 4) (ret := (some .int)) (own := RX2) (lv := [(0, .ref (q 38)), (1, .int z1), (2, .int z2)]) (by decide) rfl rfl (Nat.le_of_ble_eq_true rfl) rfl (fun κ sz hk hR hN => ?_)
  have hin2 : ∀ w ∈ u_ws RX2 TX2 10, w ∈ wz_k250_X2_cellAt := fun w h => (List.mem_cons_of_mem _ (List.mem_append_right _ (List.mem_append_left _ h)))
  refine g_iload_n hk dX2_cellAt_0 rfl ?_
  have b4330l := Int32.le_toInt z1
  have b4330h := Int32.toInt_lt z1
  refine g_if_lt (tgt := 48) (a := z1.toInt) hk dX2_cellAt_1 (by decide) rfl (fun c4331 => ?_) (fun c4331 => ?_)
  · skip
    refine g_iconst (v := 0) hk dX2_cellAt_48 (by decide) ?_
    refine g_istore_n (lv' := [(3, .int 0), (0, .ref (q 38)), (1, .int z1), (2, .int z2)]) hk dX2_cellAt_49 (by decide) rfl ?_
    refine g_iload_n hk dX2_cellAt_50 rfl ?_
    refine g_if_eq (tgt := 68) (a := 0) hk dX2_cellAt_51 (by decide) rfl (fun _ => ?_) (fun z9 => absurd (show (0 : Int) = (0 : Int) from by decide) z9)
    refine g_ldc (v := 2147483647) hk (List.mem_cons_of_mem _ (List.mem_append_left _ (List.mem_of_getElem? (i := 0) rfl))) dX2_cellAt_68 ?_
    exact g_iret hk hR rfl ⟨2147483647, rfl, rfl⟩ dX2_cellAt_70
  · skip
    refine g_iload_n hk dX2_cellAt_4 rfl ?_
    have b4332l := Int32.le_toInt z2
    have b4332h := Int32.toInt_lt z2
    refine g_if_lt (tgt := 48) (a := z2.toInt) hk dX2_cellAt_5 (by decide) rfl (fun c4333 => ?_) (fun c4333 => ?_)
    · skip
      refine g_iconst (v := 0) hk dX2_cellAt_48 (by decide) ?_
      refine g_istore_n (lv' := [(3, .int 0), (0, .ref (q 38)), (1, .int z1), (2, .int z2)]) hk dX2_cellAt_49 (by decide) rfl ?_
      refine g_iload_n hk dX2_cellAt_50 rfl ?_
      refine g_if_eq (tgt := 68) (a := 0) hk dX2_cellAt_51 (by decide) rfl (fun _ => ?_) (fun z9 => absurd (show (0 : Int) = (0 : Int) from by decide) z9)
      refine g_ldc (v := 2147483647) hk (List.mem_cons_of_mem _ (List.mem_append_left _ (List.mem_of_getElem? (i := 0) rfl))) dX2_cellAt_68 ?_
      exact g_iret hk hR rfl ⟨2147483647, rfl, rfl⟩ dX2_cellAt_70
    · skip
      refine g_iload_n hk dX2_cellAt_8 rfl ?_
      refine g_aload_n hk dX2_cellAt_9 rfl ?_
      refine gX_i30 (v := (I 30)) hk hin2 (List.mem_cons_of_mem _ (List.mem_append_left _ (List.mem_of_getElem? (i := 1) rfl))) dX2_cellAt_10 rfl ?_
      have f4334 := IvX_f30 hIv
      refine g_icmp_ge (tgt := 48) (a := z1.toInt) (b := (I 30).toInt) hk dX2_cellAt_13 (by decide) rfl rfl (fun c4335 => ?_) (fun c4335 => ?_)
      · skip
        refine g_iconst (v := 0) hk dX2_cellAt_48 (by decide) ?_
        refine g_istore_n (lv' := [(3, .int 0), (0, .ref (q 38)), (1, .int z1), (2, .int z2)]) hk dX2_cellAt_49 (by decide) rfl ?_
        refine g_iload_n hk dX2_cellAt_50 rfl ?_
        refine g_if_eq (tgt := 68) (a := 0) hk dX2_cellAt_51 (by decide) rfl (fun _ => ?_) (fun z9 => absurd (show (0 : Int) = (0 : Int) from by decide) z9)
        refine g_ldc (v := 2147483647) hk (List.mem_cons_of_mem _ (List.mem_append_left _ (List.mem_of_getElem? (i := 0) rfl))) dX2_cellAt_68 ?_
        exact g_iret hk hR rfl ⟨2147483647, rfl, rfl⟩ dX2_cellAt_70
      · skip
        refine g_iload_n hk dX2_cellAt_16 rfl ?_
        refine g_aload_n hk dX2_cellAt_17 rfl ?_
        refine gX_i30 (v := (I 30)) hk hin2 (List.mem_cons_of_mem _ (List.mem_append_left _ (List.mem_of_getElem? (i := 1) rfl))) dX2_cellAt_18 rfl ?_
        refine g_icmp_ge (tgt := 48) (a := z2.toInt) (b := (I 30).toInt) hk dX2_cellAt_21 (by decide) rfl rfl (fun c4336 => ?_) (fun c4336 => ?_)
        · skip
          refine g_iconst (v := 0) hk dX2_cellAt_48 (by decide) ?_
          refine g_istore_n (lv' := [(3, .int 0), (0, .ref (q 38)), (1, .int z1), (2, .int z2)]) hk dX2_cellAt_49 (by decide) rfl ?_
          refine g_iload_n hk dX2_cellAt_50 rfl ?_
          refine g_if_eq (tgt := 68) (a := 0) hk dX2_cellAt_51 (by decide) rfl (fun _ => ?_) (fun z9 => absurd (show (0 : Int) = (0 : Int) from by decide) z9)
          refine g_ldc (v := 2147483647) hk (List.mem_cons_of_mem _ (List.mem_append_left _ (List.mem_of_getElem? (i := 0) rfl))) dX2_cellAt_68 ?_
          exact g_iret hk hR rfl ⟨2147483647, rfl, rfl⟩ dX2_cellAt_70
        · skip
          refine g_iload_n hk dX2_cellAt_24 rfl ?_
          refine g_iload_n hk dX2_cellAt_25 rfl ?_
          refine g_isub hk dX2_cellAt_26 ?_
          refine g_topi (fun y4337 ey4337 => ?_)
          have hy4337 : y4337.toInt = z1.toInt - z2.toInt := i32_sub ey4337 rfl rfl (by omega) (by omega)
          refine g_aload_n hk dX2_cellAt_27 rfl ?_
          refine gX_i31 (v := (I 31)) hk hin2 (List.mem_cons_of_mem _ (List.mem_append_left _ (List.mem_of_getElem? (i := 2) rfl))) dX2_cellAt_28 rfl ?_
          have f4338 := IvX_f31 hIv
          have b4339l := Int32.le_toInt (I 31)
          have b4339h := Int32.toInt_lt (I 31)
          refine g_icmp_gt (tgt := 48) (a := y4337.toInt) (b := (I 31).toInt) hk dX2_cellAt_31 (by decide) rfl rfl (fun c4340 => ?_) (fun c4340 => ?_)
          · skip
            refine g_iconst (v := 0) hk dX2_cellAt_48 (by decide) ?_
            refine g_istore_n (lv' := [(3, .int 0), (0, .ref (q 38)), (1, .int z1), (2, .int z2)]) hk dX2_cellAt_49 (by decide) rfl ?_
            refine g_iload_n hk dX2_cellAt_50 rfl ?_
            refine g_if_eq (tgt := 68) (a := 0) hk dX2_cellAt_51 (by decide) rfl (fun _ => ?_) (fun z9 => absurd (show (0 : Int) = (0 : Int) from by decide) z9)
            refine g_ldc (v := 2147483647) hk (List.mem_cons_of_mem _ (List.mem_append_left _ (List.mem_of_getElem? (i := 0) rfl))) dX2_cellAt_68 ?_
            exact g_iret hk hR rfl ⟨2147483647, rfl, rfl⟩ dX2_cellAt_70
          · skip
            refine g_iload_n hk dX2_cellAt_34 rfl ?_
            refine g_iload_n hk dX2_cellAt_35 rfl ?_
            refine g_isub hk dX2_cellAt_36 ?_
            refine g_topi (fun y4341 ey4341 => ?_)
            have hy4341 : y4341.toInt = z2.toInt - z1.toInt := i32_sub ey4341 rfl rfl (by omega) (by omega)
            refine g_aload_n hk dX2_cellAt_37 rfl ?_
            refine gX_i31 (v := (I 31)) hk hin2 (List.mem_cons_of_mem _ (List.mem_append_left _ (List.mem_of_getElem? (i := 2) rfl))) dX2_cellAt_38 rfl ?_
            refine g_icmp_gt (tgt := 48) (a := y4341.toInt) (b := (I 31).toInt) hk dX2_cellAt_41 (by decide) rfl rfl (fun c4342 => ?_) (fun c4342 => ?_)
            · skip
              refine g_iconst (v := 0) hk dX2_cellAt_48 (by decide) ?_
              refine g_istore_n (lv' := [(3, .int 0), (0, .ref (q 38)), (1, .int z1), (2, .int z2)]) hk dX2_cellAt_49 (by decide) rfl ?_
              refine g_iload_n hk dX2_cellAt_50 rfl ?_
              refine g_if_eq (tgt := 68) (a := 0) hk dX2_cellAt_51 (by decide) rfl (fun _ => ?_) (fun z9 => absurd (show (0 : Int) = (0 : Int) from by decide) z9)
              refine g_ldc (v := 2147483647) hk (List.mem_cons_of_mem _ (List.mem_append_left _ (List.mem_of_getElem? (i := 0) rfl))) dX2_cellAt_68 ?_
              exact g_iret hk hR rfl ⟨2147483647, rfl, rfl⟩ dX2_cellAt_70
            · skip
              refine g_iconst (v := 1) hk dX2_cellAt_44 (by decide) ?_
              refine g_goto (tgt := 49) hk dX2_cellAt_45 (by decide) ?_
              refine g_istore_n (lv' := [(3, .int 1), (0, .ref (q 38)), (1, .int z1), (2, .int z2)]) hk dX2_cellAt_49 (by decide) rfl ?_
              refine g_iload_n hk dX2_cellAt_50 rfl ?_
              refine g_if_eq (tgt := 68) (a := 1) hk dX2_cellAt_51 (by decide) rfl (fun z9 => absurd z9 (show ¬ ((1 : Int) = (0 : Int)) from by decide)) (fun _ => ?_)
              refine g_aload_n hk dX2_cellAt_54 rfl ?_
              refine gX_r38_2 hk hin2 (List.mem_cons_of_mem _ (List.mem_append_left _ (List.mem_of_getElem? (i := 3) rfl))) dX2_cellAt_55 ?_
              refine g_iload_n hk dX2_cellAt_58 rfl ?_
              refine g_bipush (v := 16) hk dX2_cellAt_59 (by decide) ?_
              refine g_imul hk dX2_cellAt_61 ?_
              refine g_topi (fun y4343 ey4343 => ?_)
              have hy4343 : y4343.toInt = z1.toInt * 16 := i32_mul ey4343 rfl rfl (by omega) (by omega)
              refine g_iload_n hk dX2_cellAt_62 rfl ?_
              refine g_iadd hk dX2_cellAt_63 ?_
              refine g_topi (fun y4344 ey4344 => ?_)
              have hy4344 : y4344.toInt = y4343.toInt + z2.toInt := i32_add ey4344 rfl rfl (by omega) (by omega)
              refine lX_23 (v := (A 23 y4344.toNatClampNeg)) hk (vp_in_iff.mpr ⟨by omega, by omega⟩) rfl dX2_cellAt_64 ?_
              refine g_goto (tgt := 70) hk dX2_cellAt_65 (by decide) ?_
              have b4345l := Int32.le_toInt (A 23 y4344.toNatClampNeg)
              have b4345h := Int32.toInt_lt (A 23 y4344.toNatClampNeg)
              exact g_iret hk hR rfl ⟨(A 23 y4344.toNatClampNeg), rfl, rfl⟩ dX2_cellAt_70
def wo_k249_X2_traceWay : List Cond := [Cond.constant RX2 93 (2147483647), Cond.methodLink RX2 86 yX2_layTable, Cond.instanceMethod yX2_layTable, Cond.selects RX2 yX2_layTable yX2_layTable, Cond.initialized RX2, Cond.fieldLink RX2 101 "WarpDesk$Fit" "wayLength" "I", Cond.fieldLink RX2 24 "WarpDesk$Fit" "length" "I", Cond.fieldLink RX2 21 "WarpDesk$Fit" "steps" "[I", Cond.methodLink RX2 104 yX2_cellAt, Cond.instanceMethod yX2_cellAt, Cond.selects RX2 yX2_cellAt yX2_cellAt]
def wz_k249_X2_traceWay : List Cond := .code yX2_traceWay cX2_traceWay 7 none :: (wo_k249_X2_traceWay ++ (wsX20 ++ (wz_k233_X2_layTable ++ (wz_k250_X2_cellAt ++ ([] : List Cond)))))
theorem zg_k249_X2_traceWay : ∀ w ∈ wz_k249_X2_traceWay, goodWord w = true := zg_cons rfl (zg_app (by decide +kernel) (zg_app zgU_wsX20 (zg_app zg_k233_X2_layTable (zg_app zg_k250_X2_cellAt zg_nil))))
theorem zi_k249_X2_traceWay : ∀ w ∈ wz_k249_X2_traceWay, w ∈ lw_tbl := zi_cons zw_1057 (zi_app (zi_cons zw_996 (zi_cons zw_997 (zi_cons zw_999 (zi_cons zw_28 (zi_cons zw_112 (zi_cons zw_342 (zi_cons zw_343 (zi_cons zw_340 (zi_cons zw_1058 (zi_cons zw_1060 (zi_cons zw_34 zi_nil))))))))))) (zi_app inX2 (zi_app zi_k233_X2_layTable (zi_app zi_k250_X2_cellAt zi_nil))))
set_option maxHeartbeats 4000000 in
set_option maxRecDepth 100000 in
theorem k249_X2_traceWay (l : Launch) (D : va_G) (zt : Nat × Nat × Nat × (Nat → Nat) × (Nat → Nat)) (q : Nat → Nat) (d : Nat → ClassId) (I : Nat → Int32) (A : Nat → Nat → Int32) (hIv : IvX I A) : GM l D zt (tyX d) yX2_traceWay wz_k249_X2_traceWay ({ frames := 3, cells := 0, slots := 0, locals := 72 } : Room) [.ref (q 38)] (wX q d I A) (fun v _ w' => ∃ (I' : Nat → Int32) (A' : Nat → Nat → Int32), Md [29, 33, 34] I I' ∧ Md [23, 24] A A' ∧ IvX I' A' ∧ v = none ∧ w' = wX q d I' A') 0 0 := by
  refine GM.of (cc := cX2_traceWay) (maxL := 7) (ret := none) (own := RX2) (lv := [(0, .ref (q 38))]) (by decide) rfl rfl (Nat.le_of_ble_eq_true rfl) rfl (fun κ sz hk hR hN => ?_)
  have hin2 : ∀ w ∈ u_ws RX2 TX2 10, w ∈ wz_k249_X2_traceWay := fun w h => (List.mem_cons_of_mem _ (List.mem_append_right _ (List.mem_append_left _ h)))
  refine g_aload_n hk dX2_traceWay_0 rfl ?_
  refine g_ldc (v := 2147483647) hk (List.mem_cons_of_mem _ (List.mem_append_left _ (List.mem_of_getElem? (i := 0) rfl))) dX2_traceWay_1 ?_
  have k4315 : (2147483647 : Int32).toInt = 2147483647 := rfl
  refine g_callV (n := 1) hk (k233_X2_layTable l D zt q d I A 2147483647 hIv) (SP.same _) (fun _ h => h) (gi_V (List.mem_cons_of_mem _ (List.mem_append_left _ (List.mem_of_getElem? (i := 1) rfl))) (List.mem_cons_of_mem _ (List.mem_append_left _ (List.mem_of_getElem? (i := 2) rfl))) (List.mem_cons_of_mem _ (List.mem_append_left _ (List.mem_of_getElem? (i := 3) rfl))) (List.mem_cons_of_mem _ (List.mem_append_left _ (List.mem_of_getElem? (i := 4) rfl))) (gi_sub (fun w h => (List.mem_cons_of_mem _ (List.mem_append_right _ (List.mem_append_right _ (List.mem_append_left _ h))))) zg_k233_X2_layTable)) rfl rfl rfl (by decide +kernel) ⟨Nat.le_of_ble_eq_true rfl, Nat.le_of_ble_eq_true rfl⟩ 38 rfl rfl rfl rfl (Nat.le_of_ble_eq_true rfl) ⟨Nat.le_of_ble_eq_true rfl, Nat.le_of_ble_eq_true rfl⟩ dX2_traceWay_3 (fun v ty' w' hp hk' => ?_)
  obtain ⟨I4317, A4317, hI4317, hA4317, hV4317, rfl, rfl⟩ := hp
  show GW κ 7 0 0 (wX q d I4317 A4317) 6 [(0, .ref (q 38))] []
  refine g_aload_n hk dX2_traceWay_6 rfl ?_
  refine g_iconst (v := 0) hk dX2_traceWay_7 (by decide) ?_
  refine pX_i29 hk hin2 (List.mem_cons_of_mem _ (List.mem_append_left _ (List.mem_of_getElem? (i := 5) rfl))) dX2_traceWay_8 ?_
  refine g_aload_n hk dX2_traceWay_11 rfl ?_
  refine gX_i30 (v := (I 30)) hk hin2 (List.mem_cons_of_mem _ (List.mem_append_left _ (List.mem_of_getElem? (i := 6) rfl))) dX2_traceWay_12 (hI4317 30 rfl) ?_
  have f4318 := IvX_f30 hIv
  refine g_iconst (v := 1) hk dX2_traceWay_15 (by decide) ?_
  refine g_isub hk dX2_traceWay_16 ?_
  refine g_topi (fun y4319 ey4319 => ?_)
  have hy4319 : y4319.toInt = (I 30).toInt - 1 := i32_sub ey4319 rfl rfl (by omega) (by omega)
  refine g_istore_n (lv' := [(1, .int y4319), (0, .ref (q 38))]) hk dX2_traceWay_17 (by decide) rfl ?_
  refine g_aload_n hk dX2_traceWay_18 rfl ?_
  refine gX_i30 (v := (I 30)) hk hin2 (List.mem_cons_of_mem _ (List.mem_append_left _ (List.mem_of_getElem? (i := 6) rfl))) dX2_traceWay_19 (hI4317 30 rfl) ?_
  refine g_iconst (v := 1) hk dX2_traceWay_22 (by decide) ?_
  refine g_isub hk dX2_traceWay_23 ?_
  refine g_topi (fun y4320 ey4320 => ?_)
  have hy4320 : y4320.toInt = (I 30).toInt - 1 := i32_sub ey4320 rfl rfl (by omega) (by omega)
  refine g_istore_n (lv' := [(2, .int y4320), (1, .int y4319), (0, .ref (q 38))]) hk dX2_traceWay_24 (by decide) rfl ?_
  refine g_iconst (v := 0) hk dX2_traceWay_25 (by decide) ?_
  refine g_istore_n (lv' := [(3, .int 0), (2, .int y4320), (1, .int y4319), (0, .ref (q 38))]) hk dX2_traceWay_26 (by decide) rfl ?_
  have lp4467 : ∀ (n4468 : Nat) (x4321 : Int32) (x4322 : Int32) (x4323 : Int32) (I4325 : Nat → Int32) (A4325 : Nat → Nat → Int32), (Md [29] (upd I4317 29 0) I4325) → (Md [24] A4317 A4325) → (IvX I4325 A4325) → (0 ≤ x4321.toInt) → (x4321.toInt ≤ 32) → ((-1) ≤ x4322.toInt) → (x4322.toInt ≤ 15) → ((-1) ≤ x4323.toInt) → (x4323.toInt ≤ 15) → (33 - x4321.toInt < (n4468 : Int)) → (0 < n4468) → GW κ 7 0 0 (wX q d I4325 A4325) 27 [(3, .int x4321), (2, .int x4322), (1, .int x4323), (0, .ref (q 38))] [] := by
    intro n4468
    induction n4468 with
    | zero =>
      intro x4321 x4322 x4323 I4325 A4325 hI4325 hA4325 hV4325 h4461 h4462 h4463 h4464 h4465 h4466 m4469 m4469z
      exact absurd m4469z (Nat.lt_irrefl 0)
    | succ n4468 ih =>
      intro x4321 x4322 x4323 I4325 A4325 hI4325 hA4325 hV4325 h4461 h4462 h4463 h4464 h4465 h4466 m4469 m4469z
      refine g_iload_n hk dX2_traceWay_27 rfl ?_
      refine g_aload_n hk dX2_traceWay_28 rfl ?_
      refine gX_r38_3 hk hin2 (List.mem_cons_of_mem _ (List.mem_append_left _ (List.mem_of_getElem? (i := 7) rfl))) dX2_traceWay_29 ?_
      refine nX_24 hk dX2_traceWay_32 ?_
      refine g_icmp_ge (tgt := 140) (a := x4321.toInt) (b := 32) hk dX2_traceWay_33 (by decide) rfl rfl (fun c4470 => ?_) (fun c4470 => ?_)
      · skip
        exact g_vret hk hR ⟨I4325, A4325, (show Md [29, 33, 34] I I4325 from (Md.tr (Md.up (Md.tr Md.rf hI4317 rfl) rfl) hI4325 rfl)), (show Md [23, 24] A A4325 from (Md.tr (Md.tr Md.rf hA4317 rfl) hA4325 rfl)), hV4325, rfl, rfl⟩ dX2_traceWay_140
      · skip
        refine g_iload_n hk dX2_traceWay_36 rfl ?_
        refine g_if_lt (tgt := 140) (a := x4323.toInt) hk dX2_traceWay_37 (by decide) rfl (fun c4471 => ?_) (fun c4471 => ?_)
        · skip
          exact g_vret hk hR ⟨I4325, A4325, (show Md [29, 33, 34] I I4325 from (Md.tr (Md.up (Md.tr Md.rf hI4317 rfl) rfl) hI4325 rfl)), (show Md [23, 24] A A4325 from (Md.tr (Md.tr Md.rf hA4317 rfl) hA4325 rfl)), hV4325, rfl, rfl⟩ dX2_traceWay_140
        · skip
          refine g_iload_n hk dX2_traceWay_40 rfl ?_
          refine g_if_lt (tgt := 140) (a := x4322.toInt) hk dX2_traceWay_41 (by decide) rfl (fun c4472 => ?_) (fun c4472 => ?_)
          · skip
            exact g_vret hk hR ⟨I4325, A4325, (show Md [29, 33, 34] I I4325 from (Md.tr (Md.up (Md.tr Md.rf hI4317 rfl) rfl) hI4325 rfl)), (show Md [23, 24] A A4325 from (Md.tr (Md.tr Md.rf hA4317 rfl) hA4325 rfl)), hV4325, rfl, rfl⟩ dX2_traceWay_140
          · skip
            refine g_aload_n hk dX2_traceWay_44 rfl ?_
            refine gX_r38_3 hk hin2 (List.mem_cons_of_mem _ (List.mem_append_left _ (List.mem_of_getElem? (i := 7) rfl))) dX2_traceWay_45 ?_
            refine g_iload_n hk dX2_traceWay_48 rfl ?_
            refine g_bipush (v := 100) hk dX2_traceWay_49 (by decide) ?_
            refine g_iload_n hk dX2_traceWay_51 rfl ?_
            refine g_imul hk dX2_traceWay_52 ?_
            refine g_topi (fun y4473 ey4473 => ?_)
            have hy4473 : y4473.toInt = 100 * x4323.toInt := i32_mul ey4473 rfl rfl (by omega) (by omega)
            refine g_iload_n hk dX2_traceWay_53 rfl ?_
            refine g_iadd hk dX2_traceWay_54 ?_
            refine g_topi (fun y4474 ey4474 => ?_)
            have hy4474 : y4474.toInt = y4473.toInt + x4322.toInt := i32_add ey4474 rfl rfl (by omega) (by omega)
            refine sX_24 (j := x4321.toNatClampNeg) hk (vp_in_iff.mpr ⟨by omega, by omega⟩) rfl dX2_traceWay_55 ?_
            refine g_aload_n hk dX2_traceWay_56 rfl ?_
            refine g_iload_n hk dX2_traceWay_57 rfl ?_
            refine g_iconst (v := 1) hk dX2_traceWay_58 (by decide) ?_
            refine g_iadd hk dX2_traceWay_59 ?_
            refine g_topi (fun y4475 ey4475 => ?_)
            have hy4475 : y4475.toInt = x4321.toInt + 1 := i32_add ey4475 rfl rfl (by omega) (by omega)
            refine pX_i29 hk hin2 (List.mem_cons_of_mem _ (List.mem_append_left _ (List.mem_of_getElem? (i := 5) rfl))) dX2_traceWay_60 ?_
            refine g_aload_n hk dX2_traceWay_63 rfl ?_
            refine g_iload_n hk dX2_traceWay_64 rfl ?_
            refine g_iconst (v := 1) hk dX2_traceWay_65 (by decide) ?_
            refine g_isub hk dX2_traceWay_66 ?_
            refine g_topi (fun y4476 ey4476 => ?_)
            have hy4476 : y4476.toInt = x4323.toInt - 1 := i32_sub ey4476 rfl rfl (by omega) (by omega)
            refine g_iload_n hk dX2_traceWay_67 rfl ?_
            refine g_iconst (v := 1) hk dX2_traceWay_68 (by decide) ?_
            refine g_isub hk dX2_traceWay_69 ?_
            refine g_topi (fun y4477 ey4477 => ?_)
            have hy4477 : y4477.toInt = x4322.toInt - 1 := i32_sub ey4477 rfl rfl (by omega) (by omega)
            refine g_callV (n := 2) hk (k250_X2_cellAt l D zt q d (upd I4325 29 y4475) (up3 A4325 24 (x4321.toNatClampNeg) y4474) y4476 y4477 ⟨(IvX_f0 (I := I4325) (A := A4325) hV4325), (IvX_f18 (I := I4325) (A := A4325) hV4325), (IvX_f30 (I := I4325) (A := A4325) hV4325), (IvX_f31 (I := I4325) (A := A4325) hV4325), (IvX_a4 (I := I4325) (A := A4325) hV4325), (IvX_a9 (I := I4325) (A := A4325) hV4325), trivial⟩) (SP.same _) (fun _ h => h) (gi_V (List.mem_cons_of_mem _ (List.mem_append_left _ (List.mem_of_getElem? (i := 8) rfl))) (List.mem_cons_of_mem _ (List.mem_append_left _ (List.mem_of_getElem? (i := 9) rfl))) (List.mem_cons_of_mem _ (List.mem_append_left _ (List.mem_of_getElem? (i := 10) rfl))) (List.mem_cons_of_mem _ (List.mem_append_left _ (List.mem_of_getElem? (i := 4) rfl))) (gi_sub (fun w h => (List.mem_cons_of_mem _ (List.mem_append_right _ (List.mem_append_right _ (List.mem_append_right _ (List.mem_append_left _ h)))))) zg_k250_X2_cellAt)) rfl rfl rfl (by decide +kernel) ⟨Nat.le_of_ble_eq_true rfl, Nat.le_of_ble_eq_true rfl⟩ 38 rfl rfl rfl rfl (Nat.le_of_ble_eq_true rfl) ⟨Nat.le_of_ble_eq_true rfl, Nat.le_of_ble_eq_true rfl⟩ dX2_traceWay_70 (fun v ty' w' hp hk' => ?_)
            obtain ⟨y4478, rfl, rfl⟩ := hp
            show GW κ 7 0 0 (wX q d (upd I4325 29 y4475) (up3 A4325 24 (x4321.toNatClampNeg) y4474)) 73 [(3, .int x4321), (2, .int x4322), (1, .int x4323), (0, .ref (q 38))] [.int y4478]
            refine g_istore (lv' := [(4, .int y4478), (3, .int x4321), (2, .int x4322), (1, .int x4323), (0, .ref (q 38))]) hk dX2_traceWay_73 (by decide) rfl ?_
            refine g_aload_n hk dX2_traceWay_75 rfl ?_
            refine g_iload_n hk dX2_traceWay_76 rfl ?_
            refine g_iconst (v := 1) hk dX2_traceWay_77 (by decide) ?_
            refine g_isub hk dX2_traceWay_78 ?_
            refine g_topi (fun y4479 ey4479 => ?_)
            have hy4479 : y4479.toInt = x4323.toInt - 1 := i32_sub ey4479 rfl rfl (by omega) (by omega)
            refine g_iload_n hk dX2_traceWay_79 rfl ?_
            refine g_callV (n := 2) hk (k250_X2_cellAt l D zt q d (upd I4325 29 y4475) (up3 A4325 24 (x4321.toNatClampNeg) y4474) y4479 x4322 ⟨(IvX_f0 (I := I4325) (A := A4325) hV4325), (IvX_f18 (I := I4325) (A := A4325) hV4325), (IvX_f30 (I := I4325) (A := A4325) hV4325), (IvX_f31 (I := I4325) (A := A4325) hV4325), (IvX_a4 (I := I4325) (A := A4325) hV4325), (IvX_a9 (I := I4325) (A := A4325) hV4325), trivial⟩) (SP.same _) (fun _ h => h) (gi_V (List.mem_cons_of_mem _ (List.mem_append_left _ (List.mem_of_getElem? (i := 8) rfl))) (List.mem_cons_of_mem _ (List.mem_append_left _ (List.mem_of_getElem? (i := 9) rfl))) (List.mem_cons_of_mem _ (List.mem_append_left _ (List.mem_of_getElem? (i := 10) rfl))) (List.mem_cons_of_mem _ (List.mem_append_left _ (List.mem_of_getElem? (i := 4) rfl))) (gi_sub (fun w h => (List.mem_cons_of_mem _ (List.mem_append_right _ (List.mem_append_right _ (List.mem_append_right _ (List.mem_append_left _ h)))))) zg_k250_X2_cellAt)) rfl rfl rfl (by decide +kernel) ⟨Nat.le_of_ble_eq_true rfl, Nat.le_of_ble_eq_true rfl⟩ 38 rfl rfl rfl rfl (Nat.le_of_ble_eq_true rfl) ⟨Nat.le_of_ble_eq_true rfl, Nat.le_of_ble_eq_true rfl⟩ dX2_traceWay_80 (fun v ty' w' hp hk' => ?_)
            obtain ⟨y4480, rfl, rfl⟩ := hp
            show GW κ 7 0 0 (wX q d (upd I4325 29 y4475) (up3 A4325 24 (x4321.toNatClampNeg) y4474)) 83 [(4, .int y4478), (3, .int x4321), (2, .int x4322), (1, .int x4323), (0, .ref (q 38))] [.int y4480]
            refine g_istore (lv' := [(5, .int y4480), (4, .int y4478), (3, .int x4321), (2, .int x4322), (1, .int x4323), (0, .ref (q 38))]) hk dX2_traceWay_83 (by decide) rfl ?_
            refine g_aload_n hk dX2_traceWay_85 rfl ?_
            refine g_iload_n hk dX2_traceWay_86 rfl ?_
            refine g_iload_n hk dX2_traceWay_87 rfl ?_
            refine g_iconst (v := 1) hk dX2_traceWay_88 (by decide) ?_
            refine g_isub hk dX2_traceWay_89 ?_
            refine g_topi (fun y4481 ey4481 => ?_)
            have hy4481 : y4481.toInt = x4322.toInt - 1 := i32_sub ey4481 rfl rfl (by omega) (by omega)
            refine g_callV (n := 2) hk (k250_X2_cellAt l D zt q d (upd I4325 29 y4475) (up3 A4325 24 (x4321.toNatClampNeg) y4474) x4323 y4481 ⟨(IvX_f0 (I := I4325) (A := A4325) hV4325), (IvX_f18 (I := I4325) (A := A4325) hV4325), (IvX_f30 (I := I4325) (A := A4325) hV4325), (IvX_f31 (I := I4325) (A := A4325) hV4325), (IvX_a4 (I := I4325) (A := A4325) hV4325), (IvX_a9 (I := I4325) (A := A4325) hV4325), trivial⟩) (SP.same _) (fun _ h => h) (gi_V (List.mem_cons_of_mem _ (List.mem_append_left _ (List.mem_of_getElem? (i := 8) rfl))) (List.mem_cons_of_mem _ (List.mem_append_left _ (List.mem_of_getElem? (i := 9) rfl))) (List.mem_cons_of_mem _ (List.mem_append_left _ (List.mem_of_getElem? (i := 10) rfl))) (List.mem_cons_of_mem _ (List.mem_append_left _ (List.mem_of_getElem? (i := 4) rfl))) (gi_sub (fun w h => (List.mem_cons_of_mem _ (List.mem_append_right _ (List.mem_append_right _ (List.mem_append_right _ (List.mem_append_left _ h)))))) zg_k250_X2_cellAt)) rfl rfl rfl (by decide +kernel) ⟨Nat.le_of_ble_eq_true rfl, Nat.le_of_ble_eq_true rfl⟩ 38 rfl rfl rfl rfl (Nat.le_of_ble_eq_true rfl) ⟨Nat.le_of_ble_eq_true rfl, Nat.le_of_ble_eq_true rfl⟩ dX2_traceWay_90 (fun v ty' w' hp hk' => ?_)
            obtain ⟨y4482, rfl, rfl⟩ := hp
            show GW κ 7 0 0 (wX q d (upd I4325 29 y4475) (up3 A4325 24 (x4321.toNatClampNeg) y4474)) 93 [(5, .int y4480), (4, .int y4478), (3, .int x4321), (2, .int x4322), (1, .int x4323), (0, .ref (q 38))] [.int y4482]
            refine g_istore (lv' := [(6, .int y4482), (5, .int y4480), (4, .int y4478), (3, .int x4321), (2, .int x4322), (1, .int x4323), (0, .ref (q 38))]) hk dX2_traceWay_93 (by decide) rfl ?_
            refine g_iload hk dX2_traceWay_95 rfl ?_
            refine g_iload hk dX2_traceWay_97 rfl ?_
            have b4483l := Int32.le_toInt y4478
            have b4483h := Int32.toInt_lt y4478
            have b4484l := Int32.le_toInt y4480
            have b4484h := Int32.toInt_lt y4480
            refine g_icmp_gt (tgt := 118) (a := y4478.toInt) (b := y4480.toInt) hk dX2_traceWay_99 (by decide) rfl rfl (fun c4485 => ?_) (fun c4485 => ?_)
            · skip
              refine g_iload hk dX2_traceWay_118 rfl ?_
              refine g_iload hk dX2_traceWay_120 rfl ?_
              have b4486l := Int32.le_toInt y4482
              have b4486h := Int32.toInt_lt y4482
              refine g_icmp_gt (tgt := 131) (a := y4480.toInt) (b := y4482.toInt) hk dX2_traceWay_122 (by decide) rfl rfl (fun c4487 => ?_) (fun c4487 => ?_)
              · skip
                obtain ⟨y4488, ey4488⟩ : ∃ y : Int32, y = x4322 + Int32.ofInt (-1) := ⟨_, rfl⟩
                have hy4488 : y4488.toInt = x4322.toInt + (-1) := i32_add ey4488 rfl (by decide) (by omega) (by omega)
                refine g_iinc (v := y4488) (lv' := [(2, .int y4488), (6, .int y4482), (5, .int y4480), (4, .int y4478), (3, .int x4321), (1, .int x4323), (0, .ref (q 38))]) hk 4 dX2_traceWay_131 rfl ey4488.symm (by decide) rfl ?_
                obtain ⟨y4489, ey4489⟩ : ∃ y : Int32, y = x4321 + Int32.ofInt 1 := ⟨_, rfl⟩
                have hy4489 : y4489.toInt = x4321.toInt + 1 := i32_add ey4489 rfl (by decide) (by omega) (by omega)
                refine g_iinc (v := y4489) (lv' := [(3, .int y4489), (2, .int y4488), (6, .int y4482), (5, .int y4480), (4, .int y4478), (1, .int x4323), (0, .ref (q 38))]) hk 4 dX2_traceWay_134 rfl ey4489.symm (by decide) rfl ?_
                refine g_goto (tgt := 27) hk dX2_traceWay_137 (by decide) ?_
                exact g_lv (List.forall_mem_cons.mpr ⟨List.mem_of_getElem? (i := 0) rfl, (List.forall_mem_cons.mpr ⟨List.mem_of_getElem? (i := 1) rfl, (List.forall_mem_cons.mpr ⟨List.mem_of_getElem? (i := 5) rfl, (List.forall_mem_cons.mpr ⟨List.mem_of_getElem? (i := 6) rfl, (fun _ h => absurd h List.not_mem_nil)⟩)⟩)⟩)⟩) (ih y4489 y4488 x4323 (upd I4325 29 y4475) (up3 A4325 24 (x4321.toNatClampNeg) y4474) (show Md [29] (upd I4317 29 0) (upd I4325 29 y4475) from Md.tr hI4325 (show Md [29] I4325 (upd I4325 29 y4475) from (Md.up Md.rf rfl)) rfl) (show Md [24] A4317 (up3 A4325 24 (x4321.toNatClampNeg) y4474) from Md.tr hA4325 (show Md [24] A4325 (up3 A4325 24 (x4321.toNatClampNeg) y4474) from (Md.up3 Md.rf rfl)) rfl) ⟨(IvX_f0 (I := I4325) (A := A4325) hV4325), (IvX_f18 (I := I4325) (A := A4325) hV4325), (IvX_f30 (I := I4325) (A := A4325) hV4325), (IvX_f31 (I := I4325) (A := A4325) hV4325), (IvX_a4 (I := I4325) (A := A4325) hV4325), (IvX_a9 (I := I4325) (A := A4325) hV4325), trivial⟩ (by omega) (by omega) (by omega) (by omega) (by omega) (by omega) (by omega) (by omega))
              · skip
                obtain ⟨y4490, ey4490⟩ : ∃ y : Int32, y = x4323 + Int32.ofInt (-1) := ⟨_, rfl⟩
                have hy4490 : y4490.toInt = x4323.toInt + (-1) := i32_add ey4490 rfl (by decide) (by omega) (by omega)
                refine g_iinc (v := y4490) (lv' := [(1, .int y4490), (6, .int y4482), (5, .int y4480), (4, .int y4478), (3, .int x4321), (2, .int x4322), (0, .ref (q 38))]) hk 5 dX2_traceWay_125 rfl ey4490.symm (by decide) rfl ?_
                refine g_goto (tgt := 134) hk dX2_traceWay_128 (by decide) ?_
                obtain ⟨y4491, ey4491⟩ : ∃ y : Int32, y = x4321 + Int32.ofInt 1 := ⟨_, rfl⟩
                have hy4491 : y4491.toInt = x4321.toInt + 1 := i32_add ey4491 rfl (by decide) (by omega) (by omega)
                refine g_iinc (v := y4491) (lv' := [(3, .int y4491), (1, .int y4490), (6, .int y4482), (5, .int y4480), (4, .int y4478), (2, .int x4322), (0, .ref (q 38))]) hk 4 dX2_traceWay_134 rfl ey4491.symm (by decide) rfl ?_
                refine g_goto (tgt := 27) hk dX2_traceWay_137 (by decide) ?_
                exact g_lv (List.forall_mem_cons.mpr ⟨List.mem_of_getElem? (i := 0) rfl, (List.forall_mem_cons.mpr ⟨List.mem_of_getElem? (i := 5) rfl, (List.forall_mem_cons.mpr ⟨List.mem_of_getElem? (i := 1) rfl, (List.forall_mem_cons.mpr ⟨List.mem_of_getElem? (i := 6) rfl, (fun _ h => absurd h List.not_mem_nil)⟩)⟩)⟩)⟩) (ih y4491 x4322 y4490 (upd I4325 29 y4475) (up3 A4325 24 (x4321.toNatClampNeg) y4474) (show Md [29] (upd I4317 29 0) (upd I4325 29 y4475) from Md.tr hI4325 (show Md [29] I4325 (upd I4325 29 y4475) from (Md.up Md.rf rfl)) rfl) (show Md [24] A4317 (up3 A4325 24 (x4321.toNatClampNeg) y4474) from Md.tr hA4325 (show Md [24] A4325 (up3 A4325 24 (x4321.toNatClampNeg) y4474) from (Md.up3 Md.rf rfl)) rfl) ⟨(IvX_f0 (I := I4325) (A := A4325) hV4325), (IvX_f18 (I := I4325) (A := A4325) hV4325), (IvX_f30 (I := I4325) (A := A4325) hV4325), (IvX_f31 (I := I4325) (A := A4325) hV4325), (IvX_a4 (I := I4325) (A := A4325) hV4325), (IvX_a9 (I := I4325) (A := A4325) hV4325), trivial⟩ (by omega) (by omega) (by omega) (by omega) (by omega) (by omega) (by omega) (by omega))
            · skip
              refine g_iload hk dX2_traceWay_102 rfl ?_
              refine g_iload hk dX2_traceWay_104 rfl ?_
              have b4492l := Int32.le_toInt y4482
              have b4492h := Int32.toInt_lt y4482
              refine g_icmp_gt (tgt := 118) (a := y4478.toInt) (b := y4482.toInt) hk dX2_traceWay_106 (by decide) rfl rfl (fun c4493 => ?_) (fun c4493 => ?_)
              · skip
                refine g_iload hk dX2_traceWay_118 rfl ?_
                refine g_iload hk dX2_traceWay_120 rfl ?_
                refine g_icmp_gt (tgt := 131) (a := y4480.toInt) (b := y4482.toInt) hk dX2_traceWay_122 (by decide) rfl rfl (fun c4494 => ?_) (fun c4494 => ?_)
                · skip
                  obtain ⟨y4495, ey4495⟩ : ∃ y : Int32, y = x4322 + Int32.ofInt (-1) := ⟨_, rfl⟩
                  have hy4495 : y4495.toInt = x4322.toInt + (-1) := i32_add ey4495 rfl (by decide) (by omega) (by omega)
                  refine g_iinc (v := y4495) (lv' := [(2, .int y4495), (6, .int y4482), (5, .int y4480), (4, .int y4478), (3, .int x4321), (1, .int x4323), (0, .ref (q 38))]) hk 4 dX2_traceWay_131 rfl ey4495.symm (by decide) rfl ?_
                  obtain ⟨y4496, ey4496⟩ : ∃ y : Int32, y = x4321 + Int32.ofInt 1 := ⟨_, rfl⟩
                  have hy4496 : y4496.toInt = x4321.toInt + 1 := i32_add ey4496 rfl (by decide) (by omega) (by omega)
                  refine g_iinc (v := y4496) (lv' := [(3, .int y4496), (2, .int y4495), (6, .int y4482), (5, .int y4480), (4, .int y4478), (1, .int x4323), (0, .ref (q 38))]) hk 4 dX2_traceWay_134 rfl ey4496.symm (by decide) rfl ?_
                  refine g_goto (tgt := 27) hk dX2_traceWay_137 (by decide) ?_
                  exact g_lv (List.forall_mem_cons.mpr ⟨List.mem_of_getElem? (i := 0) rfl, (List.forall_mem_cons.mpr ⟨List.mem_of_getElem? (i := 1) rfl, (List.forall_mem_cons.mpr ⟨List.mem_of_getElem? (i := 5) rfl, (List.forall_mem_cons.mpr ⟨List.mem_of_getElem? (i := 6) rfl, (fun _ h => absurd h List.not_mem_nil)⟩)⟩)⟩)⟩) (ih y4496 y4495 x4323 (upd I4325 29 y4475) (up3 A4325 24 (x4321.toNatClampNeg) y4474) (show Md [29] (upd I4317 29 0) (upd I4325 29 y4475) from Md.tr hI4325 (show Md [29] I4325 (upd I4325 29 y4475) from (Md.up Md.rf rfl)) rfl) (show Md [24] A4317 (up3 A4325 24 (x4321.toNatClampNeg) y4474) from Md.tr hA4325 (show Md [24] A4325 (up3 A4325 24 (x4321.toNatClampNeg) y4474) from (Md.up3 Md.rf rfl)) rfl) ⟨(IvX_f0 (I := I4325) (A := A4325) hV4325), (IvX_f18 (I := I4325) (A := A4325) hV4325), (IvX_f30 (I := I4325) (A := A4325) hV4325), (IvX_f31 (I := I4325) (A := A4325) hV4325), (IvX_a4 (I := I4325) (A := A4325) hV4325), (IvX_a9 (I := I4325) (A := A4325) hV4325), trivial⟩ (by omega) (by omega) (by omega) (by omega) (by omega) (by omega) (by omega) (by omega))
                · skip
                  obtain ⟨y4497, ey4497⟩ : ∃ y : Int32, y = x4323 + Int32.ofInt (-1) := ⟨_, rfl⟩
                  have hy4497 : y4497.toInt = x4323.toInt + (-1) := i32_add ey4497 rfl (by decide) (by omega) (by omega)
                  refine g_iinc (v := y4497) (lv' := [(1, .int y4497), (6, .int y4482), (5, .int y4480), (4, .int y4478), (3, .int x4321), (2, .int x4322), (0, .ref (q 38))]) hk 5 dX2_traceWay_125 rfl ey4497.symm (by decide) rfl ?_
                  refine g_goto (tgt := 134) hk dX2_traceWay_128 (by decide) ?_
                  obtain ⟨y4498, ey4498⟩ : ∃ y : Int32, y = x4321 + Int32.ofInt 1 := ⟨_, rfl⟩
                  have hy4498 : y4498.toInt = x4321.toInt + 1 := i32_add ey4498 rfl (by decide) (by omega) (by omega)
                  refine g_iinc (v := y4498) (lv' := [(3, .int y4498), (1, .int y4497), (6, .int y4482), (5, .int y4480), (4, .int y4478), (2, .int x4322), (0, .ref (q 38))]) hk 4 dX2_traceWay_134 rfl ey4498.symm (by decide) rfl ?_
                  refine g_goto (tgt := 27) hk dX2_traceWay_137 (by decide) ?_
                  exact g_lv (List.forall_mem_cons.mpr ⟨List.mem_of_getElem? (i := 0) rfl, (List.forall_mem_cons.mpr ⟨List.mem_of_getElem? (i := 5) rfl, (List.forall_mem_cons.mpr ⟨List.mem_of_getElem? (i := 1) rfl, (List.forall_mem_cons.mpr ⟨List.mem_of_getElem? (i := 6) rfl, (fun _ h => absurd h List.not_mem_nil)⟩)⟩)⟩)⟩) (ih y4498 x4322 y4497 (upd I4325 29 y4475) (up3 A4325 24 (x4321.toNatClampNeg) y4474) (show Md [29] (upd I4317 29 0) (upd I4325 29 y4475) from Md.tr hI4325 (show Md [29] I4325 (upd I4325 29 y4475) from (Md.up Md.rf rfl)) rfl) (show Md [24] A4317 (up3 A4325 24 (x4321.toNatClampNeg) y4474) from Md.tr hA4325 (show Md [24] A4325 (up3 A4325 24 (x4321.toNatClampNeg) y4474) from (Md.up3 Md.rf rfl)) rfl) ⟨(IvX_f0 (I := I4325) (A := A4325) hV4325), (IvX_f18 (I := I4325) (A := A4325) hV4325), (IvX_f30 (I := I4325) (A := A4325) hV4325), (IvX_f31 (I := I4325) (A := A4325) hV4325), (IvX_a4 (I := I4325) (A := A4325) hV4325), (IvX_a9 (I := I4325) (A := A4325) hV4325), trivial⟩ (by omega) (by omega) (by omega) (by omega) (by omega) (by omega) (by omega) (by omega))
              · skip
                obtain ⟨y4499, ey4499⟩ : ∃ y : Int32, y = x4323 + Int32.ofInt (-1) := ⟨_, rfl⟩
                have hy4499 : y4499.toInt = x4323.toInt + (-1) := i32_add ey4499 rfl (by decide) (by omega) (by omega)
                refine g_iinc (v := y4499) (lv' := [(1, .int y4499), (6, .int y4482), (5, .int y4480), (4, .int y4478), (3, .int x4321), (2, .int x4322), (0, .ref (q 38))]) hk 5 dX2_traceWay_109 rfl ey4499.symm (by decide) rfl ?_
                obtain ⟨y4500, ey4500⟩ : ∃ y : Int32, y = x4322 + Int32.ofInt (-1) := ⟨_, rfl⟩
                have hy4500 : y4500.toInt = x4322.toInt + (-1) := i32_add ey4500 rfl (by decide) (by omega) (by omega)
                refine g_iinc (v := y4500) (lv' := [(2, .int y4500), (1, .int y4499), (6, .int y4482), (5, .int y4480), (4, .int y4478), (3, .int x4321), (0, .ref (q 38))]) hk 5 dX2_traceWay_112 rfl ey4500.symm (by decide) rfl ?_
                refine g_goto (tgt := 134) hk dX2_traceWay_115 (by decide) ?_
                obtain ⟨y4501, ey4501⟩ : ∃ y : Int32, y = x4321 + Int32.ofInt 1 := ⟨_, rfl⟩
                have hy4501 : y4501.toInt = x4321.toInt + 1 := i32_add ey4501 rfl (by decide) (by omega) (by omega)
                refine g_iinc (v := y4501) (lv' := [(3, .int y4501), (2, .int y4500), (1, .int y4499), (6, .int y4482), (5, .int y4480), (4, .int y4478), (0, .ref (q 38))]) hk 5 dX2_traceWay_134 rfl ey4501.symm (by decide) rfl ?_
                refine g_goto (tgt := 27) hk dX2_traceWay_137 (by decide) ?_
                exact g_lv (List.forall_mem_cons.mpr ⟨List.mem_of_getElem? (i := 0) rfl, (List.forall_mem_cons.mpr ⟨List.mem_of_getElem? (i := 1) rfl, (List.forall_mem_cons.mpr ⟨List.mem_of_getElem? (i := 2) rfl, (List.forall_mem_cons.mpr ⟨List.mem_of_getElem? (i := 6) rfl, (fun _ h => absurd h List.not_mem_nil)⟩)⟩)⟩)⟩) (ih y4501 y4500 y4499 (upd I4325 29 y4475) (up3 A4325 24 (x4321.toNatClampNeg) y4474) (show Md [29] (upd I4317 29 0) (upd I4325 29 y4475) from Md.tr hI4325 (show Md [29] I4325 (upd I4325 29 y4475) from (Md.up Md.rf rfl)) rfl) (show Md [24] A4317 (up3 A4325 24 (x4321.toNatClampNeg) y4474) from Md.tr hA4325 (show Md [24] A4325 (up3 A4325 24 (x4321.toNatClampNeg) y4474) from (Md.up3 Md.rf rfl)) rfl) ⟨(IvX_f0 (I := I4325) (A := A4325) hV4325), (IvX_f18 (I := I4325) (A := A4325) hV4325), (IvX_f30 (I := I4325) (A := A4325) hV4325), (IvX_f31 (I := I4325) (A := A4325) hV4325), (IvX_a4 (I := I4325) (A := A4325) hV4325), (IvX_a9 (I := I4325) (A := A4325) hV4325), trivial⟩ (by omega) (by omega) (by omega) (by omega) (by omega) (by omega) (by omega) (by omega))
  have k4503 : (0 : Int32).toInt = 0 := rfl
  obtain ⟨n4502, n4502a, n4502b⟩ : ∃ n : Nat, 33 - 0 < (n : Int) ∧ 0 < n := ⟨((33 - 0 : Int)).toNat + 1, by omega, by omega⟩
  exact lp4467 n4502 0 y4320 y4319 (upd I4317 29 0) A4317 Md.rf Md.rf ⟨(IvX_f0 (I := I4317) (A := A4317) hV4317), (IvX_f18 (I := I4317) (A := A4317) hV4317), (IvX_f30 (I := I4317) (A := A4317) hV4317), (IvX_f31 (I := I4317) (A := A4317) hV4317), (IvX_a4 (I := I4317) (A := A4317) hV4317), (IvX_a9 (I := I4317) (A := A4317) hV4317), trivial⟩ (by omega) (by omega) (by omega) (by omega) (by omega) (by omega) n4502a n4502b
def wo_k251_X2_wayPlace : List Cond := [Cond.fieldLink RX2 101 "WarpDesk$Fit" "wayLength" "I", Cond.fieldLink RX2 21 "WarpDesk$Fit" "steps" "[I"]
def wz_k251_X2_wayPlace : List Cond := .code yX2_wayPlace cX2_wayPlace 3 (some .int) :: (wo_k251_X2_wayPlace ++ (wsX20 ++ ([] : List Cond)))
theorem zg_k251_X2_wayPlace : ∀ w ∈ wz_k251_X2_wayPlace, goodWord w = true := zg_cons rfl (zg_app (by decide +kernel) (zg_app zgU_wsX20 zg_nil))
theorem zi_k251_X2_wayPlace : ∀ w ∈ wz_k251_X2_wayPlace, w ∈ lw_tbl := zi_cons zw_1065 (zi_app (zi_cons zw_342 (zi_cons zw_340 zi_nil)) (zi_app inX2 zi_nil))
set_option maxHeartbeats 4000000 in
set_option maxRecDepth 100000 in
theorem k251_X2_wayPlace (l : Launch) (D : va_G) (zt : Nat × Nat × Nat × (Nat → Nat) × (Nat → Nat)) (q : Nat → Nat) (d : Nat → ClassId) (I : Nat → Int32) (A : Nat → Nat → Int32) (z1 : Int32) (hIv : IvX I A) : GM l D zt (tyX d) yX2_wayPlace wz_k251_X2_wayPlace ({ frames := 0, cells := 0, slots := 0, locals := 0 } : Room) [.ref (q 38), .int z1] (wX q d I A) (fun v _ w' => ∃ y0 : Int32, v = some (.int y0) ∧ w' = wX q d I A) 0 0 := by
  refine GM.of (cc := cX2_wayPlace) (maxL := 3) (ret := (some .int)) (own := RX2) (lv := [(0, .ref (q 38)), (1, .int z1)]) (by decide) rfl rfl (Nat.le_of_ble_eq_true rfl) rfl (fun κ sz hk hR hN => ?_)
  have hin2 : ∀ w ∈ u_ws RX2 TX2 10, w ∈ wz_k251_X2_wayPlace := fun w h => (List.mem_cons_of_mem _ (List.mem_append_right _ (List.mem_append_left _ h)))
  refine g_aload_n hk dX2_wayPlace_0 rfl ?_
  refine gX_i29 (v := (I 29)) hk hin2 (List.mem_cons_of_mem _ (List.mem_append_left _ (List.mem_of_getElem? (i := 0) rfl))) dX2_wayPlace_1 rfl ?_
  refine g_iconst (v := 1) hk dX2_wayPlace_4 (by decide) ?_
  have b4508l := Int32.le_toInt (I 29)
  have b4508h := Int32.toInt_lt (I 29)
  refine g_isub hk dX2_wayPlace_5 ?_
  refine g_topi (fun y4509 ey4509 => ?_)
  have hy4509 := i32_sub0 ey4509
  refine g_iload_n hk dX2_wayPlace_6 rfl ?_
  have b4510l := Int32.le_toInt y4509
  have b4510h := Int32.toInt_lt y4509
  have b4511l := Int32.le_toInt z1
  have b4511h := Int32.toInt_lt z1
  refine g_isub hk dX2_wayPlace_7 ?_
  refine g_topi (fun y4512 ey4512 => ?_)
  have hy4512 := i32_sub0 ey4512
  refine g_istore_n (lv' := [(2, .int y4512), (0, .ref (q 38)), (1, .int z1)]) hk dX2_wayPlace_8 (by decide) rfl ?_
  refine g_iload_n hk dX2_wayPlace_9 rfl ?_
  refine g_if_lt (tgt := 35) (a := z1.toInt) hk dX2_wayPlace_10 (by decide) rfl (fun c4513 => ?_) (fun c4513 => ?_)
  · skip
    refine g_iconst (v := (-1)) hk dX2_wayPlace_35 (by decide) ?_
    exact g_iret hk hR rfl ⟨(-1), rfl, rfl⟩ dX2_wayPlace_36
  · skip
    refine g_iload_n hk dX2_wayPlace_13 rfl ?_
    have b4514l := Int32.le_toInt y4512
    have b4514h := Int32.toInt_lt y4512
    refine g_if_lt (tgt := 35) (a := y4512.toInt) hk dX2_wayPlace_14 (by decide) rfl (fun c4515 => ?_) (fun c4515 => ?_)
    · skip
      refine g_iconst (v := (-1)) hk dX2_wayPlace_35 (by decide) ?_
      exact g_iret hk hR rfl ⟨(-1), rfl, rfl⟩ dX2_wayPlace_36
    · skip
      refine g_iload_n hk dX2_wayPlace_17 rfl ?_
      refine g_aload_n hk dX2_wayPlace_18 rfl ?_
      refine gX_r38_3 hk hin2 (List.mem_cons_of_mem _ (List.mem_append_left _ (List.mem_of_getElem? (i := 1) rfl))) dX2_wayPlace_19 ?_
      refine nX_24 hk dX2_wayPlace_22 ?_
      refine g_icmp_ge (tgt := 35) (a := y4512.toInt) (b := 32) hk dX2_wayPlace_23 (by decide) rfl rfl (fun c4516 => ?_) (fun c4516 => ?_)
      · skip
        refine g_iconst (v := (-1)) hk dX2_wayPlace_35 (by decide) ?_
        exact g_iret hk hR rfl ⟨(-1), rfl, rfl⟩ dX2_wayPlace_36
      · skip
        refine g_aload_n hk dX2_wayPlace_26 rfl ?_
        refine gX_r38_3 hk hin2 (List.mem_cons_of_mem _ (List.mem_append_left _ (List.mem_of_getElem? (i := 1) rfl))) dX2_wayPlace_27 ?_
        refine g_iload_n hk dX2_wayPlace_30 rfl ?_
        refine lX_24 (v := (A 24 y4512.toNatClampNeg)) hk (vp_in_iff.mpr ⟨by omega, by omega⟩) rfl dX2_wayPlace_31 ?_
        refine g_goto (tgt := 36) hk dX2_wayPlace_32 (by decide) ?_
        have b4517l := Int32.le_toInt (A 24 y4512.toNatClampNeg)
        have b4517h := Int32.toInt_lt (A 24 y4512.toNatClampNeg)
        exact g_iret hk hR rfl ⟨(A 24 y4512.toNatClampNeg), rfl, rfl⟩ dX2_wayPlace_36
def wo_k248_X11_way : List Cond := [Cond.fieldLink RX11 65 "WarpDesk" "bench" "LWarpDesk$Bench;", Cond.methodLink RX11 212 yX0_openBoth, Cond.instanceMethod yX0_openBoth, Cond.selects RX0 yX0_openBoth yX0_openBoth, Cond.initialized RX0, Cond.fieldLink RX11 202 "WarpDesk$Bench" "fit" "LWarpDesk$Fit;", Cond.methodLink RX11 236 yX2_traceWay, Cond.instanceMethod yX2_traceWay, Cond.selects RX2 yX2_traceWay yX2_traceWay, Cond.initialized RX2, Cond.methodLink RX11 242 yX2_wayPlace, Cond.instanceMethod yX2_wayPlace, Cond.selects RX2 yX2_wayPlace yX2_wayPlace, Cond.fieldLink RX11 239 "WarpDesk$Fit" "wayLength" "I"]
def wz_k248_X11_way : List Cond := .code yX11_way cX11_way 4 (some .int) :: (wo_k248_X11_way ++ (wsX00 ++ (wsX20 ++ (wsX110 ++ (wz_k222_X0_openBoth ++ (wz_k249_X2_traceWay ++ (wz_k251_X2_wayPlace ++ ([] : List Cond))))))))
theorem zg_k248_X11_way : ∀ w ∈ wz_k248_X11_way, goodWord w = true := zg_cons rfl (zg_app (by decide +kernel) (zg_app zgU_wsX00 (zg_app zgU_wsX20 (zg_app zgU_wsX110 (zg_app zg_k222_X0_openBoth (zg_app zg_k249_X2_traceWay (zg_app zg_k251_X2_wayPlace zg_nil)))))))
theorem zi_k248_X11_way : ∀ w ∈ wz_k248_X11_way, w ∈ lw_tbl := zi_cons zw_1053 (zi_app (zi_cons zw_494 (zi_cons zw_969 (zi_cons zw_970 (zi_cons zw_971 (zi_cons zw_111 (zi_cons zw_383 (zi_cons zw_1054 (zi_cons zw_1055 (zi_cons zw_1056 (zi_cons zw_112 (zi_cons zw_1062 (zi_cons zw_1063 (zi_cons zw_1064 (zi_cons zw_341 zi_nil)))))))))))))) (zi_app inX0 (zi_app inX2 (zi_app inX11 (zi_app zi_k222_X0_openBoth (zi_app zi_k249_X2_traceWay (zi_app zi_k251_X2_wayPlace zi_nil)))))))
set_option maxHeartbeats 4000000 in
set_option maxRecDepth 100000 in
theorem k248_X11_way (l : Launch) (D : va_G) (zt : Nat × Nat × Nat × (Nat → Nat) × (Nat → Nat)) (q : Nat → Nat) (d : Nat → ClassId) (I : Nat → Int32) (A : Nat → Nat → Int32) (z1 : Int32) (z2 : Int32) (z3 : Int32) (hIv : IvX I A) : GM l D zt (tyX d) yX11_way wz_k248_X11_way ({ frames := 6, cells := 0, slots := 0, locals := 131 } : Room) [.ref (q 0), .int z1, .int z2, .int z3] (wX q d I A) (fun v _ w' => ∃ (I' : Nat → Int32) (A' : Nat → Nat → Int32), Md [28, 29, 30, 31, 32, 33, 34] I I' ∧ Md [21, 22, 23, 24] A A' ∧ IvX I' A' ∧ ∃ y0 : Int32, v = some (.int y0) ∧ w' = wX q d I' A') 0 0 := by
  refine GM.of (cc := cX11_way) (maxL := 4) (ret := (some .int)) (own := RX11) (lv := [(0, .ref (q 0)), (1, .int z1), (2, .int z2), (3, .int z3)]) (by decide) rfl rfl (Nat.le_of_ble_eq_true rfl) rfl (fun κ sz hk hR hN => ?_)
  have hin0 : ∀ w ∈ u_ws RX0 TX0 5, w ∈ wz_k248_X11_way := fun w h => (List.mem_cons_of_mem _ (List.mem_append_right _ (List.mem_append_left _ h)))
  have hin2 : ∀ w ∈ u_ws RX2 TX2 10, w ∈ wz_k248_X11_way := fun w h => (List.mem_cons_of_mem _ (List.mem_append_right _ (List.mem_append_right _ (List.mem_append_left _ h))))
  have hin11 : ∀ w ∈ u_ws RX11 TX11 10, w ∈ wz_k248_X11_way := fun w h => (List.mem_cons_of_mem _ (List.mem_append_right _ (List.mem_append_right _ (List.mem_append_right _ (List.mem_append_left _ h)))))
  refine g_aload_n hk dX11_way_0 rfl ?_
  refine gX_r0_7 hk hin11 (List.mem_cons_of_mem _ (List.mem_append_left _ (List.mem_of_getElem? (i := 0) rfl))) dX11_way_1 ?_
  refine g_iload_n hk dX11_way_4 rfl ?_
  refine g_iload_n hk dX11_way_5 rfl ?_
  refine g_callV (n := 2) hk (k222_X0_openBoth l D zt q d I A z1 z2 hIv) (SP.same _) (fun _ h => h) (gi_V (List.mem_cons_of_mem _ (List.mem_append_left _ (List.mem_of_getElem? (i := 1) rfl))) (List.mem_cons_of_mem _ (List.mem_append_left _ (List.mem_of_getElem? (i := 2) rfl))) (List.mem_cons_of_mem _ (List.mem_append_left _ (List.mem_of_getElem? (i := 3) rfl))) (List.mem_cons_of_mem _ (List.mem_append_left _ (List.mem_of_getElem? (i := 4) rfl))) (gi_sub (fun w h => (List.mem_cons_of_mem _ (List.mem_append_right _ (List.mem_append_right _ (List.mem_append_right _ (List.mem_append_right _ (List.mem_append_left _ h))))))) zg_k222_X0_openBoth)) rfl rfl rfl (by decide +kernel) ⟨Nat.le_of_ble_eq_true rfl, Nat.le_of_ble_eq_true rfl⟩ 37 rfl rfl rfl rfl (Nat.le_of_ble_eq_true rfl) ⟨Nat.le_of_ble_eq_true rfl, Nat.le_of_ble_eq_true rfl⟩ dX11_way_6 (fun v ty' w' hp hk' => ?_)
  obtain ⟨I4313, A4313, hI4313, hA4313, hV4313, y4310, c4311, c4312, rfl, rfl⟩ := hp
  show GW κ 4 0 0 (wX q d I4313 A4313) 9 [(0, .ref (q 0)), (1, .int z1), (2, .int z2), (3, .int z3)] [.int y4310]
  refine g_if_ne (tgt := 14) (a := y4310.toInt) hk dX11_way_9 (by decide) rfl (fun c4314 => ?_) (fun c4314 => ?_)
  · skip
    refine g_aload_n hk dX11_way_14 rfl ?_
    refine gX_r0_7 hk hin11 (List.mem_cons_of_mem _ (List.mem_append_left _ (List.mem_of_getElem? (i := 0) rfl))) dX11_way_15 ?_
    refine gX_r37_3 hk hin0 (List.mem_cons_of_mem _ (List.mem_append_left _ (List.mem_of_getElem? (i := 5) rfl))) dX11_way_18 ?_
    refine g_callV (n := 0) hk (k249_X2_traceWay l D zt q d I4313 A4313  hV4313) (SP.same _) (fun _ h => h) (gi_V (List.mem_cons_of_mem _ (List.mem_append_left _ (List.mem_of_getElem? (i := 6) rfl))) (List.mem_cons_of_mem _ (List.mem_append_left _ (List.mem_of_getElem? (i := 7) rfl))) (List.mem_cons_of_mem _ (List.mem_append_left _ (List.mem_of_getElem? (i := 8) rfl))) (List.mem_cons_of_mem _ (List.mem_append_left _ (List.mem_of_getElem? (i := 9) rfl))) (gi_sub (fun w h => (List.mem_cons_of_mem _ (List.mem_append_right _ (List.mem_append_right _ (List.mem_append_right _ (List.mem_append_right _ (List.mem_append_right _ (List.mem_append_left _ h)))))))) zg_k249_X2_traceWay)) rfl rfl rfl (by decide +kernel) ⟨Nat.le_of_ble_eq_true rfl, Nat.le_of_ble_eq_true rfl⟩ 38 rfl rfl rfl rfl (Nat.le_of_ble_eq_true rfl) ⟨Nat.le_of_ble_eq_true rfl, Nat.le_of_ble_eq_true rfl⟩ dX11_way_21 (fun v ty' w' hp hk' => ?_)
    obtain ⟨I4505, A4505, hI4505, hA4505, hV4505, rfl, rfl⟩ := hp
    show GW κ 4 0 0 (wX q d I4505 A4505) 24 [(0, .ref (q 0)), (1, .int z1), (2, .int z2), (3, .int z3)] []
    refine g_iload_n hk dX11_way_24 rfl ?_
    refine g_iconst (v := (-1)) hk dX11_way_25 (by decide) ?_
    have b4506l := Int32.le_toInt z3
    have b4506h := Int32.toInt_lt z3
    refine g_icmp_ne (tgt := 42) (a := z3.toInt) (b := (-1)) hk dX11_way_26 (by decide) rfl rfl (fun c4507 => ?_) (fun c4507 => ?_)
    · skip
      refine g_aload_n hk dX11_way_42 rfl ?_
      refine gX_r0_7 hk hin11 (List.mem_cons_of_mem _ (List.mem_append_left _ (List.mem_of_getElem? (i := 0) rfl))) dX11_way_43 ?_
      refine gX_r37_3 hk hin0 (List.mem_cons_of_mem _ (List.mem_append_left _ (List.mem_of_getElem? (i := 5) rfl))) dX11_way_46 ?_
      refine g_iload_n hk dX11_way_49 rfl ?_
      refine g_callV (n := 1) hk (k251_X2_wayPlace l D zt q d I4505 A4505 z3 hV4505) (SP.same _) (fun _ h => h) (gi_V (List.mem_cons_of_mem _ (List.mem_append_left _ (List.mem_of_getElem? (i := 10) rfl))) (List.mem_cons_of_mem _ (List.mem_append_left _ (List.mem_of_getElem? (i := 11) rfl))) (List.mem_cons_of_mem _ (List.mem_append_left _ (List.mem_of_getElem? (i := 12) rfl))) (List.mem_cons_of_mem _ (List.mem_append_left _ (List.mem_of_getElem? (i := 9) rfl))) (gi_sub (fun w h => (List.mem_cons_of_mem _ (List.mem_append_right _ (List.mem_append_right _ (List.mem_append_right _ (List.mem_append_right _ (List.mem_append_right _ (List.mem_append_right _ (List.mem_append_left _ h))))))))) zg_k251_X2_wayPlace)) rfl rfl rfl (by decide +kernel) ⟨Nat.le_of_ble_eq_true rfl, Nat.le_of_ble_eq_true rfl⟩ 38 rfl rfl rfl rfl (Nat.le_of_ble_eq_true rfl) ⟨Nat.le_of_ble_eq_true rfl, Nat.le_of_ble_eq_true rfl⟩ dX11_way_50 (fun v ty' w' hp hk' => ?_)
      obtain ⟨y4518, rfl, rfl⟩ := hp
      show GW κ 4 0 0 (wX q d I4505 A4505) 53 [(0, .ref (q 0)), (1, .int z1), (2, .int z2), (3, .int z3)] [.int y4518]
      have b4519l := Int32.le_toInt y4518
      have b4519h := Int32.toInt_lt y4518
      exact g_iret hk hR rfl ⟨I4505, A4505, (show Md [28, 29, 30, 31, 32, 33, 34] I I4505 from (Md.tr (Md.tr Md.rf hI4313 rfl) hI4505 rfl)), (show Md [21, 22, 23, 24] A A4505 from (Md.tr (Md.tr Md.rf hA4313 rfl) hA4505 rfl)), hV4505, y4518, rfl, rfl⟩ dX11_way_53
    · skip
      refine g_aload_n hk dX11_way_29 rfl ?_
      refine gX_r0_7 hk hin11 (List.mem_cons_of_mem _ (List.mem_append_left _ (List.mem_of_getElem? (i := 0) rfl))) dX11_way_30 ?_
      refine gX_r37_3 hk hin0 (List.mem_cons_of_mem _ (List.mem_append_left _ (List.mem_of_getElem? (i := 5) rfl))) dX11_way_33 ?_
      refine gX_i29 (v := (I4505 29)) hk hin2 (List.mem_cons_of_mem _ (List.mem_append_left _ (List.mem_of_getElem? (i := 13) rfl))) dX11_way_36 rfl ?_
      refine g_goto (tgt := 53) hk dX11_way_39 (by decide) ?_
      have b4520l := Int32.le_toInt (I4505 29)
      have b4520h := Int32.toInt_lt (I4505 29)
      exact g_iret hk hR rfl ⟨I4505, A4505, (show Md [28, 29, 30, 31, 32, 33, 34] I I4505 from (Md.tr (Md.tr Md.rf hI4313 rfl) hI4505 rfl)), (show Md [21, 22, 23, 24] A A4505 from (Md.tr (Md.tr Md.rf hA4313 rfl) hA4505 rfl)), hV4505, (I4505 29), rfl, rfl⟩ dX11_way_53
  · skip
    refine g_iconst (v := (-1)) hk dX11_way_12 (by decide) ?_
    exact g_iret hk hR rfl ⟨I4313, A4313, (show Md [28, 29, 30, 31, 32, 33, 34] I I4313 from (Md.tr Md.rf hI4313 rfl)), (show Md [21, 22, 23, 24] A A4313 from (Md.tr Md.rf hA4313 rfl)), hV4313, (-1), rfl, rfl⟩ dX11_way_13
def wo_k253_X2_stepsInBoth : List Cond := [Cond.fieldLink RX2 101 "WarpDesk$Fit" "wayLength" "I", Cond.methodLink RX2 107 yX2_wayPlace, Cond.instanceMethod yX2_wayPlace, Cond.selects RX2 yX2_wayPlace yX2_wayPlace, Cond.initialized RX2]
def wz_k253_X2_stepsInBoth : List Cond := .code yX2_stepsInBoth cX2_stepsInBoth 3 (some .int) :: (wo_k253_X2_stepsInBoth ++ (wsX20 ++ (wz_k251_X2_wayPlace ++ ([] : List Cond))))
theorem zg_k253_X2_stepsInBoth : ∀ w ∈ wz_k253_X2_stepsInBoth, goodWord w = true := zg_cons rfl (zg_app (by decide +kernel) (zg_app zgU_wsX20 (zg_app zg_k251_X2_wayPlace zg_nil)))
theorem zi_k253_X2_stepsInBoth : ∀ w ∈ wz_k253_X2_stepsInBoth, w ∈ lw_tbl := zi_cons zw_1081 (zi_app (zi_cons zw_342 (zi_cons zw_1074 (zi_cons zw_1063 (zi_cons zw_1064 (zi_cons zw_112 zi_nil))))) (zi_app inX2 (zi_app zi_k251_X2_wayPlace zi_nil)))
set_option maxHeartbeats 4000000 in
set_option maxRecDepth 100000 in
theorem k253_X2_stepsInBoth (l : Launch) (D : va_G) (zt : Nat × Nat × Nat × (Nat → Nat) × (Nat → Nat)) (q : Nat → Nat) (d : Nat → ClassId) (I : Nat → Int32) (A : Nat → Nat → Int32) (hIv : IvX I A) : GM l D zt (tyX d) yX2_stepsInBoth wz_k253_X2_stepsInBoth ({ frames := 1, cells := 0, slots := 0, locals := 22 } : Room) [.ref (q 38)] (wX q d I A) (fun v _ w' => ∃ y0 : Int32, v = some (.int y0) ∧ w' = wX q d I A) 0 0 := by
  refine GM.of (cc := cX2_stepsInBoth) (maxL := 3) (ret := (some .int)) (own := RX2) (lv := [(0, .ref (q 38))]) (by decide) rfl rfl (Nat.le_of_ble_eq_true rfl) rfl (fun κ sz hk hR hN => ?_)
  have hin2 : ∀ w ∈ u_ws RX2 TX2 10, w ∈ wz_k253_X2_stepsInBoth := fun w h => (List.mem_cons_of_mem _ (List.mem_append_right _ (List.mem_append_left _ h)))
  refine g_iconst (v := 0) hk dX2_stepsInBoth_0 (by decide) ?_
  refine g_istore_n (lv' := [(1, .int 0), (0, .ref (q 38))]) hk dX2_stepsInBoth_1 (by decide) rfl ?_
  refine g_iconst (v := 1) hk dX2_stepsInBoth_2 (by decide) ?_
  refine g_istore_n (lv' := [(2, .int 1), (1, .int 0), (0, .ref (q 38))]) hk dX2_stepsInBoth_3 (by decide) rfl ?_
  have lp4591 : ∀ (n4592 : Nat) (x4532 : Int32) (x4533 : Int32), (1 ≤ x4532.toInt) → ((I 29).toInt + 1 - x4532.toInt < (n4592 : Int)) → (0 < n4592) → GW κ 3 0 0 (wX q d I A) 4 [(2, .int x4532), (1, .int x4533), (0, .ref (q 38))] [] := by
    intro n4592
    induction n4592 with
    | zero =>
      intro x4532 x4533 h4590 m4593 m4593z
      exact absurd m4593z (Nat.lt_irrefl 0)
    | succ n4592 ih =>
      intro x4532 x4533 h4590 m4593 m4593z
      refine g_iload_n hk dX2_stepsInBoth_4 rfl ?_
      refine g_aload_n hk dX2_stepsInBoth_5 rfl ?_
      refine gX_i29 (v := (I 29)) hk hin2 (List.mem_cons_of_mem _ (List.mem_append_left _ (List.mem_of_getElem? (i := 0) rfl))) dX2_stepsInBoth_6 rfl ?_
      have b4594l := Int32.le_toInt x4532
      have b4594h := Int32.toInt_lt x4532
      have b4595l := Int32.le_toInt (I 29)
      have b4595h := Int32.toInt_lt (I 29)
      refine g_icmp_ge (tgt := 39) (a := x4532.toInt) (b := (I 29).toInt) hk dX2_stepsInBoth_9 (by decide) rfl rfl (fun c4596 => ?_) (fun c4596 => ?_)
      · skip
        refine g_iload_n hk dX2_stepsInBoth_39 rfl ?_
        have b4597l := Int32.le_toInt x4533
        have b4597h := Int32.toInt_lt x4533
        exact g_iret hk hR rfl ⟨x4533, rfl, rfl⟩ dX2_stepsInBoth_40
      · skip
        refine g_aload_n hk dX2_stepsInBoth_12 rfl ?_
        refine g_iload_n hk dX2_stepsInBoth_13 rfl ?_
        refine g_callV (n := 1) hk (k251_X2_wayPlace l D zt q d I A x4532 hIv) (SP.same _) (fun _ h => h) (gi_V (List.mem_cons_of_mem _ (List.mem_append_left _ (List.mem_of_getElem? (i := 1) rfl))) (List.mem_cons_of_mem _ (List.mem_append_left _ (List.mem_of_getElem? (i := 2) rfl))) (List.mem_cons_of_mem _ (List.mem_append_left _ (List.mem_of_getElem? (i := 3) rfl))) (List.mem_cons_of_mem _ (List.mem_append_left _ (List.mem_of_getElem? (i := 4) rfl))) (gi_sub (fun w h => (List.mem_cons_of_mem _ (List.mem_append_right _ (List.mem_append_right _ (List.mem_append_left _ h))))) zg_k251_X2_wayPlace)) rfl rfl rfl (by decide +kernel) ⟨Nat.le_of_ble_eq_true rfl, Nat.le_of_ble_eq_true rfl⟩ 38 rfl rfl rfl rfl (Nat.le_of_ble_eq_true rfl) ⟨Nat.le_of_ble_eq_true rfl, Nat.le_of_ble_eq_true rfl⟩ dX2_stepsInBoth_14 (fun v ty' w' hp hk' => ?_)
        obtain ⟨y4598, rfl, rfl⟩ := hp
        show GW κ 3 0 0 (wX q d I A) 17 [(2, .int x4532), (1, .int x4533), (0, .ref (q 38))] [.int y4598]
        refine g_aload_n hk dX2_stepsInBoth_17 rfl ?_
        refine g_iload_n hk dX2_stepsInBoth_18 rfl ?_
        refine g_iconst (v := 1) hk dX2_stepsInBoth_19 (by decide) ?_
        refine g_isub hk dX2_stepsInBoth_20 ?_
        refine g_topi (fun y4599 ey4599 => ?_)
        have hy4599 : y4599.toInt = x4532.toInt - 1 := i32_sub ey4599 rfl rfl (by omega) (by omega)
        refine g_callV (n := 1) hk (k251_X2_wayPlace l D zt q d I A y4599 hIv) (SP.same _) (fun _ h => h) (gi_V (List.mem_cons_of_mem _ (List.mem_append_left _ (List.mem_of_getElem? (i := 1) rfl))) (List.mem_cons_of_mem _ (List.mem_append_left _ (List.mem_of_getElem? (i := 2) rfl))) (List.mem_cons_of_mem _ (List.mem_append_left _ (List.mem_of_getElem? (i := 3) rfl))) (List.mem_cons_of_mem _ (List.mem_append_left _ (List.mem_of_getElem? (i := 4) rfl))) (gi_sub (fun w h => (List.mem_cons_of_mem _ (List.mem_append_right _ (List.mem_append_right _ (List.mem_append_left _ h))))) zg_k251_X2_wayPlace)) rfl rfl rfl (by decide +kernel) ⟨Nat.le_of_ble_eq_true rfl, Nat.le_of_ble_eq_true rfl⟩ 38 rfl rfl rfl rfl (Nat.le_of_ble_eq_true rfl) ⟨Nat.le_of_ble_eq_true rfl, Nat.le_of_ble_eq_true rfl⟩ dX2_stepsInBoth_21 (fun v ty' w' hp hk' => ?_)
        obtain ⟨y4600, rfl, rfl⟩ := hp
        show GW κ 3 0 0 (wX q d I A) 24 [(2, .int x4532), (1, .int x4533), (0, .ref (q 38))] [.int y4600, .int y4598]
        have b4601l := Int32.le_toInt y4598
        have b4601h := Int32.toInt_lt y4598
        have b4602l := Int32.le_toInt y4600
        have b4602h := Int32.toInt_lt y4600
        refine g_isub hk dX2_stepsInBoth_24 ?_
        refine g_topi (fun y4603 ey4603 => ?_)
        have hy4603 := i32_sub0 ey4603
        refine g_bipush (v := 101) hk dX2_stepsInBoth_25 (by decide) ?_
        have b4604l := Int32.le_toInt y4603
        have b4604h := Int32.toInt_lt y4603
        refine g_icmp_ne (tgt := 33) (a := y4603.toInt) (b := 101) hk dX2_stepsInBoth_27 (by decide) rfl rfl (fun c4605 => ?_) (fun c4605 => ?_)
        · skip
          obtain ⟨y4606, ey4606⟩ : ∃ y : Int32, y = x4532 + Int32.ofInt 1 := ⟨_, rfl⟩
          have hy4606 : y4606.toInt = x4532.toInt + 1 := i32_add ey4606 rfl (by decide) (by omega) (by omega)
          refine g_iinc (v := y4606) (lv' := [(2, .int y4606), (1, .int x4533), (0, .ref (q 38))]) hk 0 dX2_stepsInBoth_33 rfl ey4606.symm (by decide) rfl ?_
          refine g_goto (tgt := 4) hk dX2_stepsInBoth_36 (by decide) ?_
          exact g_lv (List.forall_mem_cons.mpr ⟨List.mem_of_getElem? (i := 0) rfl, (List.forall_mem_cons.mpr ⟨List.mem_of_getElem? (i := 1) rfl, (List.forall_mem_cons.mpr ⟨List.mem_of_getElem? (i := 2) rfl, (fun _ h => absurd h List.not_mem_nil)⟩)⟩)⟩) (ih y4606 x4533 (by omega) (by omega) (by omega))
        · skip
          have b4607l := Int32.le_toInt x4533
          have b4607h := Int32.toInt_lt x4533
          obtain ⟨y4608, ey4608⟩ : ∃ y : Int32, y = x4533 + Int32.ofInt 1 := ⟨_, rfl⟩
          refine g_iinc (v := y4608) (lv' := [(1, .int y4608), (2, .int x4532), (0, .ref (q 38))]) hk 1 dX2_stepsInBoth_30 rfl ey4608.symm (by decide) rfl ?_
          obtain ⟨y4609, ey4609⟩ : ∃ y : Int32, y = x4532 + Int32.ofInt 1 := ⟨_, rfl⟩
          have hy4609 : y4609.toInt = x4532.toInt + 1 := i32_add ey4609 rfl (by decide) (by omega) (by omega)
          refine g_iinc (v := y4609) (lv' := [(2, .int y4609), (1, .int y4608), (0, .ref (q 38))]) hk 1 dX2_stepsInBoth_33 rfl ey4609.symm (by decide) rfl ?_
          refine g_goto (tgt := 4) hk dX2_stepsInBoth_36 (by decide) ?_
          exact g_lv (List.forall_mem_cons.mpr ⟨List.mem_of_getElem? (i := 0) rfl, (List.forall_mem_cons.mpr ⟨List.mem_of_getElem? (i := 1) rfl, (List.forall_mem_cons.mpr ⟨List.mem_of_getElem? (i := 2) rfl, (fun _ h => absurd h List.not_mem_nil)⟩)⟩)⟩) (ih y4609 y4608 (by omega) (by omega) (by omega))
  have k4611 : (1 : Int32).toInt = 1 := rfl
  have k4612 : (0 : Int32).toInt = 0 := rfl
  obtain ⟨n4610, n4610a, n4610b⟩ : ∃ n : Nat, (I 29).toInt + 1 - 1 < (n : Int) ∧ 0 < n := ⟨(((I 29).toInt + 1 - 1 : Int)).toNat + 1, by omega, by omega⟩
  exact lp4591 n4610 1 0 (by omega) n4610a n4610b
def wo_k254_X2_widestOfWay : List Cond := [Cond.fieldLink RX2 101 "WarpDesk$Fit" "wayLength" "I", Cond.methodLink RX2 107 yX2_wayPlace, Cond.instanceMethod yX2_wayPlace, Cond.selects RX2 yX2_wayPlace yX2_wayPlace, Cond.initialized RX2, Cond.methodLink RX2 110 Lib.Math.abs.name, Cond.static Lib.Math.abs.name, Cond.initialized "java/lang/Math", Cond.code Lib.Math.abs.name Lib.Math.abs.code 1 (some .int), Cond.methodLink RX2 34 Lib.Math.max.name, Cond.static Lib.Math.max.name, Cond.code Lib.Math.max.name Lib.Math.max.code 2 (some .int)]
def wz_k254_X2_widestOfWay : List Cond := .code yX2_widestOfWay cX2_widestOfWay 4 (some .int) :: (wo_k254_X2_widestOfWay ++ (wsX20 ++ (wz_k251_X2_wayPlace ++ ([] : List Cond))))
theorem zg_k254_X2_widestOfWay : ∀ w ∈ wz_k254_X2_widestOfWay, goodWord w = true := zg_cons rfl (zg_app (by decide +kernel) (zg_app zgU_wsX20 (zg_app zg_k251_X2_wayPlace zg_nil)))
theorem zi_k254_X2_widestOfWay : ∀ w ∈ wz_k254_X2_widestOfWay, w ∈ lw_tbl := zi_cons zw_1073 (zi_app (zi_cons zw_342 (zi_cons zw_1074 (zi_cons zw_1063 (zi_cons zw_1064 (zi_cons zw_112 (zi_cons zw_1075 (zi_cons zw_1076 (zi_cons zw_120 (zi_cons zw_1077 (zi_cons zw_943 (zi_cons zw_920 (zi_cons zw_921 zi_nil)))))))))))) (zi_app inX2 (zi_app zi_k251_X2_wayPlace zi_nil)))
set_option maxHeartbeats 4000000 in
set_option maxRecDepth 100000 in
theorem k254_X2_widestOfWay (l : Launch) (D : va_G) (zt : Nat × Nat × Nat × (Nat → Nat) × (Nat → Nat)) (q : Nat → Nat) (d : Nat → ClassId) (I : Nat → Int32) (A : Nat → Nat → Int32) (hIv : IvX I A) : GM l D zt (tyX d) yX2_widestOfWay wz_k254_X2_widestOfWay ({ frames := 1, cells := 0, slots := 0, locals := 22 } : Room) [.ref (q 38)] (wX q d I A) (fun v _ w' => ∃ y0 : Int32, (0 ≤ y0.toInt) ∧ v = some (.int y0) ∧ w' = wX q d I A) 0 0 := by
  refine GM.of (cc := cX2_widestOfWay) (maxL := 4) (ret := (some .int)) (own := RX2) (lv := [(0, .ref (q 38))]) (by decide) rfl rfl (Nat.le_of_ble_eq_true rfl) rfl (fun κ sz hk hR hN => ?_)
  have hin2 : ∀ w ∈ u_ws RX2 TX2 10, w ∈ wz_k254_X2_widestOfWay := fun w h => (List.mem_cons_of_mem _ (List.mem_append_right _ (List.mem_append_left _ h)))
  refine g_iconst (v := 0) hk dX2_widestOfWay_0 (by decide) ?_
  refine g_istore_n (lv' := [(1, .int 0), (0, .ref (q 38))]) hk dX2_widestOfWay_1 (by decide) rfl ?_
  refine g_iconst (v := 0) hk dX2_widestOfWay_2 (by decide) ?_
  refine g_istore_n (lv' := [(2, .int 0), (1, .int 0), (0, .ref (q 38))]) hk dX2_widestOfWay_3 (by decide) rfl ?_
  have lp4663 : ∀ (n4664 : Nat) (x4615 : Int32) (x4616 : Int32), (0 ≤ x4615.toInt) → (0 ≤ x4616.toInt) → ((I 29).toInt + 1 - x4615.toInt < (n4664 : Int)) → (0 < n4664) → GW κ 4 0 0 (wX q d I A) 4 [(2, .int x4615), (1, .int x4616), (0, .ref (q 38))] [] := by
    intro n4664
    induction n4664 with
    | zero =>
      intro x4615 x4616 h4661 h4662 m4665 m4665z
      exact absurd m4665z (Nat.lt_irrefl 0)
    | succ n4664 ih =>
      intro x4615 x4616 h4661 h4662 m4665 m4665z
      refine g_iload_n hk dX2_widestOfWay_4 rfl ?_
      refine g_aload_n hk dX2_widestOfWay_5 rfl ?_
      refine gX_i29 (v := (I 29)) hk hin2 (List.mem_cons_of_mem _ (List.mem_append_left _ (List.mem_of_getElem? (i := 0) rfl))) dX2_widestOfWay_6 rfl ?_
      have b4666l := Int32.le_toInt x4615
      have b4666h := Int32.toInt_lt x4615
      have b4667l := Int32.le_toInt (I 29)
      have b4667h := Int32.toInt_lt (I 29)
      refine g_icmp_ge (tgt := 41) (a := x4615.toInt) (b := (I 29).toInt) hk dX2_widestOfWay_9 (by decide) rfl rfl (fun c4668 => ?_) (fun c4668 => ?_)
      · skip
        refine g_iload_n hk dX2_widestOfWay_41 rfl ?_
        have b4669l := Int32.le_toInt x4616
        have b4669h := Int32.toInt_lt x4616
        exact g_iret hk hR rfl ⟨x4616, (by omega), rfl, rfl⟩ dX2_widestOfWay_42
      · skip
        refine g_aload_n hk dX2_widestOfWay_12 rfl ?_
        refine g_iload_n hk dX2_widestOfWay_13 rfl ?_
        refine g_callV (n := 1) hk (k251_X2_wayPlace l D zt q d I A x4615 hIv) (SP.same _) (fun _ h => h) (gi_V (List.mem_cons_of_mem _ (List.mem_append_left _ (List.mem_of_getElem? (i := 1) rfl))) (List.mem_cons_of_mem _ (List.mem_append_left _ (List.mem_of_getElem? (i := 2) rfl))) (List.mem_cons_of_mem _ (List.mem_append_left _ (List.mem_of_getElem? (i := 3) rfl))) (List.mem_cons_of_mem _ (List.mem_append_left _ (List.mem_of_getElem? (i := 4) rfl))) (gi_sub (fun w h => (List.mem_cons_of_mem _ (List.mem_append_right _ (List.mem_append_right _ (List.mem_append_left _ h))))) zg_k251_X2_wayPlace)) rfl rfl rfl (by decide +kernel) ⟨Nat.le_of_ble_eq_true rfl, Nat.le_of_ble_eq_true rfl⟩ 38 rfl rfl rfl rfl (Nat.le_of_ble_eq_true rfl) ⟨Nat.le_of_ble_eq_true rfl, Nat.le_of_ble_eq_true rfl⟩ dX2_widestOfWay_14 (fun v ty' w' hp hk' => ?_)
        obtain ⟨y4670, rfl, rfl⟩ := hp
        show GW κ 4 0 0 (wX q d I A) 17 [(2, .int x4615), (1, .int x4616), (0, .ref (q 38))] [.int y4670]
        refine g_istore_n (lv' := [(3, .int y4670), (2, .int x4615), (1, .int x4616), (0, .ref (q 38))]) hk dX2_widestOfWay_17 (by decide) rfl ?_
        refine g_iload_n hk dX2_widestOfWay_18 rfl ?_
        refine g_iload_n hk dX2_widestOfWay_19 rfl ?_
        refine g_bipush (v := 100) hk dX2_widestOfWay_20 (by decide) ?_
        refine g_idiv hk dX2_widestOfWay_22 (by decide) ?_
        refine g_topi (fun y4671 ey4671 => ?_)
        refine g_iload_n hk dX2_widestOfWay_23 rfl ?_
        refine g_bipush (v := 100) hk dX2_widestOfWay_24 (by decide) ?_
        refine g_irem hk dX2_widestOfWay_26 (by decide) ?_
        refine g_topi (fun y4672 ey4672 => ?_)
        have b4673l := Int32.le_toInt y4671
        have b4673h := Int32.toInt_lt y4671
        have b4674l := Int32.le_toInt y4672
        have b4674h := Int32.toInt_lt y4672
        refine g_isub hk dX2_widestOfWay_27 ?_
        refine g_topi (fun y4675 ey4675 => ?_)
        have hy4675 := i32_sub0 ey4675
        have b4676l := Int32.le_toInt y4675
        have b4676h := Int32.toInt_lt y4675
        refine g_mabs hk (List.mem_cons_of_mem _ (List.mem_append_left _ (List.mem_of_getElem? (i := 5) rfl))) (List.mem_cons_of_mem _ (List.mem_append_left _ (List.mem_of_getElem? (i := 6) rfl))) (List.mem_cons_of_mem _ (List.mem_append_left _ (List.mem_of_getElem? (i := 7) rfl))) (List.mem_cons_of_mem _ (List.mem_append_left _ (List.mem_of_getElem? (i := 8) rfl))) (Nat.le_of_ble_eq_true rfl) (Nat.le_of_ble_eq_true rfl) (Nat.le_of_ble_eq_true rfl) (Nat.le_of_ble_eq_true rfl) dX2_widestOfWay_28 ?_
        refine g_topi (fun y4677 ey4677 => ?_)
        have b4678l := Int32.le_toInt y4677
        have b4678h := Int32.toInt_lt y4677
        have b4679l := Int32.le_toInt x4616
        have b4679h := Int32.toInt_lt x4616
        refine g_mmax hk (List.mem_cons_of_mem _ (List.mem_append_left _ (List.mem_of_getElem? (i := 9) rfl))) (List.mem_cons_of_mem _ (List.mem_append_left _ (List.mem_of_getElem? (i := 10) rfl))) (List.mem_cons_of_mem _ (List.mem_append_left _ (List.mem_of_getElem? (i := 7) rfl))) (List.mem_cons_of_mem _ (List.mem_append_left _ (List.mem_of_getElem? (i := 11) rfl))) (Nat.le_of_ble_eq_true rfl) (Nat.le_of_ble_eq_true rfl) (Nat.le_of_ble_eq_true rfl) (Nat.le_of_ble_eq_true rfl) dX2_widestOfWay_31 ?_
        refine g_topi (fun y4680 ey4680 => ?_)
        have hy4680 := i32_max ey4680
        refine g_istore_n (lv' := [(1, .int y4680), (3, .int y4670), (2, .int x4615), (0, .ref (q 38))]) hk dX2_widestOfWay_34 (by decide) rfl ?_
        obtain ⟨y4681, ey4681⟩ : ∃ y : Int32, y = x4615 + Int32.ofInt 1 := ⟨_, rfl⟩
        have hy4681 : y4681.toInt = x4615.toInt + 1 := i32_add ey4681 rfl (by decide) (by omega) (by omega)
        refine g_iinc (v := y4681) (lv' := [(2, .int y4681), (1, .int y4680), (3, .int y4670), (0, .ref (q 38))]) hk 2 dX2_widestOfWay_35 rfl ey4681.symm (by decide) rfl ?_
        refine g_goto (tgt := 4) hk dX2_widestOfWay_38 (by decide) ?_
        exact g_lv (List.forall_mem_cons.mpr ⟨List.mem_of_getElem? (i := 0) rfl, (List.forall_mem_cons.mpr ⟨List.mem_of_getElem? (i := 1) rfl, (List.forall_mem_cons.mpr ⟨List.mem_of_getElem? (i := 3) rfl, (fun _ h => absurd h List.not_mem_nil)⟩)⟩)⟩) (ih y4681 y4680 (by omega) (by omega) (by omega) (by omega))
  have k4683 : (0 : Int32).toInt = 0 := rfl
  obtain ⟨n4682, n4682a, n4682b⟩ : ∃ n : Nat, (I 29).toInt + 1 - 0 < (n : Int) ∧ 0 < n := ⟨(((I 29).toInt + 1 - 0 : Int)).toNat + 1, by omega, by omega⟩
  exact lp4663 n4682 0 0 (by omega) (by omega) n4682a n4682b
def wo_k252_X11_lean : List Cond := [Cond.fieldLink RX11 65 "WarpDesk" "bench" "LWarpDesk$Bench;", Cond.methodLink RX11 212 yX0_openBoth, Cond.instanceMethod yX0_openBoth, Cond.selects RX0 yX0_openBoth yX0_openBoth, Cond.initialized RX0, Cond.fieldLink RX11 202 "WarpDesk$Bench" "fit" "LWarpDesk$Fit;", Cond.methodLink RX11 236 yX2_traceWay, Cond.instanceMethod yX2_traceWay, Cond.selects RX2 yX2_traceWay yX2_traceWay, Cond.initialized RX2, Cond.methodLink RX11 248 yX2_stepsInBoth, Cond.instanceMethod yX2_stepsInBoth, Cond.selects RX2 yX2_stepsInBoth yX2_stepsInBoth, Cond.methodLink RX11 245 yX2_widestOfWay, Cond.instanceMethod yX2_widestOfWay, Cond.selects RX2 yX2_widestOfWay yX2_widestOfWay]
def wz_k252_X11_lean : List Cond := .code yX11_lean cX11_lean 4 (some .int) :: (wo_k252_X11_lean ++ (wsX00 ++ (wsX110 ++ (wz_k222_X0_openBoth ++ (wz_k249_X2_traceWay ++ (wz_k253_X2_stepsInBoth ++ (wz_k254_X2_widestOfWay ++ ([] : List Cond))))))))
theorem zg_k252_X11_lean : ∀ w ∈ wz_k252_X11_lean, goodWord w = true := zg_cons rfl (zg_app (by decide +kernel) (zg_app zgU_wsX00 (zg_app zgU_wsX110 (zg_app zg_k222_X0_openBoth (zg_app zg_k249_X2_traceWay (zg_app zg_k253_X2_stepsInBoth (zg_app zg_k254_X2_widestOfWay zg_nil)))))))
theorem zi_k252_X11_lean : ∀ w ∈ wz_k252_X11_lean, w ∈ lw_tbl := zi_cons zw_1069 (zi_app (zi_cons zw_494 (zi_cons zw_969 (zi_cons zw_970 (zi_cons zw_971 (zi_cons zw_111 (zi_cons zw_383 (zi_cons zw_1054 (zi_cons zw_1055 (zi_cons zw_1056 (zi_cons zw_112 (zi_cons zw_1078 (zi_cons zw_1079 (zi_cons zw_1080 (zi_cons zw_1070 (zi_cons zw_1071 (zi_cons zw_1072 zi_nil)))))))))))))))) (zi_app inX0 (zi_app inX11 (zi_app zi_k222_X0_openBoth (zi_app zi_k249_X2_traceWay (zi_app zi_k253_X2_stepsInBoth (zi_app zi_k254_X2_widestOfWay zi_nil)))))))
set_option maxHeartbeats 4000000 in
set_option maxRecDepth 100000 in
theorem k252_X11_lean (l : Launch) (D : va_G) (zt : Nat × Nat × Nat × (Nat → Nat) × (Nat → Nat)) (q : Nat → Nat) (d : Nat → ClassId) (I : Nat → Int32) (A : Nat → Nat → Int32) (z1 : Int32) (z2 : Int32) (z3 : Int32) (hIv : IvX I A) : GM l D zt (tyX d) yX11_lean wz_k252_X11_lean ({ frames := 6, cells := 0, slots := 0, locals := 131 } : Room) [.ref (q 0), .int z1, .int z2, .int z3] (wX q d I A) (fun v _ w' => ∃ (I' : Nat → Int32) (A' : Nat → Nat → Int32), Md [28, 29, 30, 31, 32, 33, 34] I I' ∧ Md [21, 22, 23, 24] A A' ∧ IvX I' A' ∧ ∃ y0 : Int32, v = some (.int y0) ∧ w' = wX q d I' A') 0 0 := by
  refine GM.of (cc := cX11_lean) (maxL := 4) (ret := (some .int)) (own := RX11) (lv := [(0, .ref (q 0)), (1, .int z1), (2, .int z2), (3, .int z3)]) (by decide) rfl rfl (Nat.le_of_ble_eq_true rfl) rfl (fun κ sz hk hR hN => ?_)
  have hin0 : ∀ w ∈ u_ws RX0 TX0 5, w ∈ wz_k252_X11_lean := fun w h => (List.mem_cons_of_mem _ (List.mem_append_right _ (List.mem_append_left _ h)))
  have hin11 : ∀ w ∈ u_ws RX11 TX11 10, w ∈ wz_k252_X11_lean := fun w h => (List.mem_cons_of_mem _ (List.mem_append_right _ (List.mem_append_right _ (List.mem_append_left _ h))))
  refine g_iload_n hk dX11_lean_0 rfl ?_
  have b4521l := Int32.le_toInt z3
  have b4521h := Int32.toInt_lt z3
  refine g_if_lt (tgt := 21) (a := z3.toInt) hk dX11_lean_1 (by decide) rfl (fun c4522 => ?_) (fun c4522 => ?_)
  · skip
    refine g_iconst (v := (-1)) hk dX11_lean_21 (by decide) ?_
    exact g_iret hk hR rfl ⟨I, A, (show Md [28, 29, 30, 31, 32, 33, 34] I I from Md.rf), (show Md [21, 22, 23, 24] A A from Md.rf), hIv, (-1), rfl, rfl⟩ dX11_lean_22
  · skip
    refine g_iload_n hk dX11_lean_4 rfl ?_
    refine g_iconst (v := 1) hk dX11_lean_5 (by decide) ?_
    refine g_icmp_gt (tgt := 21) (a := z3.toInt) (b := 1) hk dX11_lean_6 (by decide) rfl rfl (fun c4523 => ?_) (fun c4523 => ?_)
    · skip
      refine g_iconst (v := (-1)) hk dX11_lean_21 (by decide) ?_
      exact g_iret hk hR rfl ⟨I, A, (show Md [28, 29, 30, 31, 32, 33, 34] I I from Md.rf), (show Md [21, 22, 23, 24] A A from Md.rf), hIv, (-1), rfl, rfl⟩ dX11_lean_22
    · skip
      refine g_aload_n hk dX11_lean_9 rfl ?_
      refine gX_r0_7 hk hin11 (List.mem_cons_of_mem _ (List.mem_append_left _ (List.mem_of_getElem? (i := 0) rfl))) dX11_lean_10 ?_
      refine g_iload_n hk dX11_lean_13 rfl ?_
      refine g_iload_n hk dX11_lean_14 rfl ?_
      refine g_callV (n := 2) hk (k222_X0_openBoth l D zt q d I A z1 z2 hIv) (SP.same _) (fun _ h => h) (gi_V (List.mem_cons_of_mem _ (List.mem_append_left _ (List.mem_of_getElem? (i := 1) rfl))) (List.mem_cons_of_mem _ (List.mem_append_left _ (List.mem_of_getElem? (i := 2) rfl))) (List.mem_cons_of_mem _ (List.mem_append_left _ (List.mem_of_getElem? (i := 3) rfl))) (List.mem_cons_of_mem _ (List.mem_append_left _ (List.mem_of_getElem? (i := 4) rfl))) (gi_sub (fun w h => (List.mem_cons_of_mem _ (List.mem_append_right _ (List.mem_append_right _ (List.mem_append_right _ (List.mem_append_left _ h)))))) zg_k222_X0_openBoth)) rfl rfl rfl (by decide +kernel) ⟨Nat.le_of_ble_eq_true rfl, Nat.le_of_ble_eq_true rfl⟩ 37 rfl rfl rfl rfl (Nat.le_of_ble_eq_true rfl) ⟨Nat.le_of_ble_eq_true rfl, Nat.le_of_ble_eq_true rfl⟩ dX11_lean_15 (fun v ty' w' hp hk' => ?_)
      obtain ⟨I4527, A4527, hI4527, hA4527, hV4527, y4524, c4525, c4526, rfl, rfl⟩ := hp
      show GW κ 4 0 0 (wX q d I4527 A4527) 18 [(0, .ref (q 0)), (1, .int z1), (2, .int z2), (3, .int z3)] [.int y4524]
      refine g_if_ne (tgt := 23) (a := y4524.toInt) hk dX11_lean_18 (by decide) rfl (fun c4528 => ?_) (fun c4528 => ?_)
      · skip
        refine g_aload_n hk dX11_lean_23 rfl ?_
        refine gX_r0_7 hk hin11 (List.mem_cons_of_mem _ (List.mem_append_left _ (List.mem_of_getElem? (i := 0) rfl))) dX11_lean_24 ?_
        refine gX_r37_3 hk hin0 (List.mem_cons_of_mem _ (List.mem_append_left _ (List.mem_of_getElem? (i := 5) rfl))) dX11_lean_27 ?_
        refine g_callV (n := 0) hk (k249_X2_traceWay l D zt q d I4527 A4527  hV4527) (SP.same _) (fun _ h => h) (gi_V (List.mem_cons_of_mem _ (List.mem_append_left _ (List.mem_of_getElem? (i := 6) rfl))) (List.mem_cons_of_mem _ (List.mem_append_left _ (List.mem_of_getElem? (i := 7) rfl))) (List.mem_cons_of_mem _ (List.mem_append_left _ (List.mem_of_getElem? (i := 8) rfl))) (List.mem_cons_of_mem _ (List.mem_append_left _ (List.mem_of_getElem? (i := 9) rfl))) (gi_sub (fun w h => (List.mem_cons_of_mem _ (List.mem_append_right _ (List.mem_append_right _ (List.mem_append_right _ (List.mem_append_right _ (List.mem_append_left _ h))))))) zg_k249_X2_traceWay)) rfl rfl rfl (by decide +kernel) ⟨Nat.le_of_ble_eq_true rfl, Nat.le_of_ble_eq_true rfl⟩ 38 rfl rfl rfl rfl (Nat.le_of_ble_eq_true rfl) ⟨Nat.le_of_ble_eq_true rfl, Nat.le_of_ble_eq_true rfl⟩ dX11_lean_30 (fun v ty' w' hp hk' => ?_)
        obtain ⟨I4530, A4530, hI4530, hA4530, hV4530, rfl, rfl⟩ := hp
        show GW κ 4 0 0 (wX q d I4530 A4530) 33 [(0, .ref (q 0)), (1, .int z1), (2, .int z2), (3, .int z3)] []
        refine g_iload_n hk dX11_lean_33 rfl ?_
        refine g_if_ne (tgt := 50) (a := z3.toInt) hk dX11_lean_34 (by decide) rfl (fun c4531 => ?_) (fun c4531 => ?_)
        · skip
          refine g_aload_n hk dX11_lean_50 rfl ?_
          refine gX_r0_7 hk hin11 (List.mem_cons_of_mem _ (List.mem_append_left _ (List.mem_of_getElem? (i := 0) rfl))) dX11_lean_51 ?_
          refine gX_r37_3 hk hin0 (List.mem_cons_of_mem _ (List.mem_append_left _ (List.mem_of_getElem? (i := 5) rfl))) dX11_lean_54 ?_
          refine g_callV (n := 0) hk (k253_X2_stepsInBoth l D zt q d I4530 A4530  hV4530) (SP.same _) (fun _ h => h) (gi_V (List.mem_cons_of_mem _ (List.mem_append_left _ (List.mem_of_getElem? (i := 10) rfl))) (List.mem_cons_of_mem _ (List.mem_append_left _ (List.mem_of_getElem? (i := 11) rfl))) (List.mem_cons_of_mem _ (List.mem_append_left _ (List.mem_of_getElem? (i := 12) rfl))) (List.mem_cons_of_mem _ (List.mem_append_left _ (List.mem_of_getElem? (i := 9) rfl))) (gi_sub (fun w h => (List.mem_cons_of_mem _ (List.mem_append_right _ (List.mem_append_right _ (List.mem_append_right _ (List.mem_append_right _ (List.mem_append_right _ (List.mem_append_left _ h)))))))) zg_k253_X2_stepsInBoth)) rfl rfl rfl (by decide +kernel) ⟨Nat.le_of_ble_eq_true rfl, Nat.le_of_ble_eq_true rfl⟩ 38 rfl rfl rfl rfl (Nat.le_of_ble_eq_true rfl) ⟨Nat.le_of_ble_eq_true rfl, Nat.le_of_ble_eq_true rfl⟩ dX11_lean_57 (fun v ty' w' hp hk' => ?_)
          obtain ⟨y4613, rfl, rfl⟩ := hp
          show GW κ 4 0 0 (wX q d I4530 A4530) 60 [(0, .ref (q 0)), (1, .int z1), (2, .int z2), (3, .int z3)] [.int y4613]
          have b4614l := Int32.le_toInt y4613
          have b4614h := Int32.toInt_lt y4613
          exact g_iret hk hR rfl ⟨I4530, A4530, (show Md [28, 29, 30, 31, 32, 33, 34] I I4530 from (Md.tr (Md.tr Md.rf hI4527 rfl) hI4530 rfl)), (show Md [21, 22, 23, 24] A A4530 from (Md.tr (Md.tr Md.rf hA4527 rfl) hA4530 rfl)), hV4530, y4613, rfl, rfl⟩ dX11_lean_60
        · skip
          refine g_aload_n hk dX11_lean_37 rfl ?_
          refine gX_r0_7 hk hin11 (List.mem_cons_of_mem _ (List.mem_append_left _ (List.mem_of_getElem? (i := 0) rfl))) dX11_lean_38 ?_
          refine gX_r37_3 hk hin0 (List.mem_cons_of_mem _ (List.mem_append_left _ (List.mem_of_getElem? (i := 5) rfl))) dX11_lean_41 ?_
          refine g_callV (n := 0) hk (k254_X2_widestOfWay l D zt q d I4530 A4530  hV4530) (SP.same _) (fun _ h => h) (gi_V (List.mem_cons_of_mem _ (List.mem_append_left _ (List.mem_of_getElem? (i := 13) rfl))) (List.mem_cons_of_mem _ (List.mem_append_left _ (List.mem_of_getElem? (i := 14) rfl))) (List.mem_cons_of_mem _ (List.mem_append_left _ (List.mem_of_getElem? (i := 15) rfl))) (List.mem_cons_of_mem _ (List.mem_append_left _ (List.mem_of_getElem? (i := 9) rfl))) (gi_sub (fun w h => (List.mem_cons_of_mem _ (List.mem_append_right _ (List.mem_append_right _ (List.mem_append_right _ (List.mem_append_right _ (List.mem_append_right _ (List.mem_append_right _ (List.mem_append_left _ h))))))))) zg_k254_X2_widestOfWay)) rfl rfl rfl (by decide +kernel) ⟨Nat.le_of_ble_eq_true rfl, Nat.le_of_ble_eq_true rfl⟩ 38 rfl rfl rfl rfl (Nat.le_of_ble_eq_true rfl) ⟨Nat.le_of_ble_eq_true rfl, Nat.le_of_ble_eq_true rfl⟩ dX11_lean_44 (fun v ty' w' hp hk' => ?_)
          obtain ⟨y4684, c4685, rfl, rfl⟩ := hp
          show GW κ 4 0 0 (wX q d I4530 A4530) 47 [(0, .ref (q 0)), (1, .int z1), (2, .int z2), (3, .int z3)] [.int y4684]
          refine g_goto (tgt := 60) hk dX11_lean_47 (by decide) ?_
          have b4686l := Int32.le_toInt y4684
          have b4686h := Int32.toInt_lt y4684
          exact g_iret hk hR rfl ⟨I4530, A4530, (show Md [28, 29, 30, 31, 32, 33, 34] I I4530 from (Md.tr (Md.tr Md.rf hI4527 rfl) hI4530 rfl)), (show Md [21, 22, 23, 24] A A4530 from (Md.tr (Md.tr Md.rf hA4527 rfl) hA4530 rfl)), hV4530, y4684, rfl, rfl⟩ dX11_lean_60
      · skip
        refine g_iconst (v := (-1)) hk dX11_lean_21 (by decide) ?_
        exact g_iret hk hR rfl ⟨I4527, A4527, (show Md [28, 29, 30, 31, 32, 33, 34] I I4527 from (Md.tr Md.rf hI4527 rfl)), (show Md [21, 22, 23, 24] A A4527 from (Md.tr Md.rf hA4527 rfl)), hV4527, (-1), rfl, rfl⟩ dX11_lean_22
def wo_k257_X4_copyQuery : List Cond := [Cond.methodLink RX4 26 yX4_lengthOf, Cond.instanceMethod yX4_lengthOf, Cond.selects RX4 yX4_lengthOf yX4_lengthOf, Cond.initialized RX4, Cond.methodLink RX4 33 yX4_valueAt, Cond.instanceMethod yX4_valueAt, Cond.selects RX4 yX4_valueAt yX4_valueAt]
def wz_k257_X4_copyQuery : List Cond := .code yX4_copyQuery cX4_copyQuery 4 none :: (wo_k257_X4_copyQuery ++ (wz_k182_X4_lengthOf ++ (wz_k181_X4_valueAt ++ ([] : List Cond))))
theorem zg_k257_X4_copyQuery : ∀ w ∈ wz_k257_X4_copyQuery, goodWord w = true := zg_cons rfl (zg_app (by decide +kernel) (zg_app zg_k182_X4_lengthOf (zg_app zg_k181_X4_valueAt zg_nil)))
theorem zi_k257_X4_copyQuery : ∀ w ∈ wz_k257_X4_copyQuery, w ∈ lw_tbl := zi_cons zw_987 (zi_app (zi_cons zw_756 (zi_cons zw_757 (zi_cons zw_758 (zi_cons zw_108 (zi_cons zw_760 (zi_cons zw_761 (zi_cons zw_762 zi_nil))))))) (zi_app zi_k182_X4_lengthOf (zi_app zi_k181_X4_valueAt zi_nil)))
set_option maxHeartbeats 4000000 in
set_option maxRecDepth 100000 in
theorem k257_X4_copyQuery (l : Launch) (D : va_G) (zt : Nat × Nat × Nat × (Nat → Nat) × (Nat → Nat)) (q : Nat → Nat) (d : Nat → ClassId) (I : Nat → Int32) (A : Nat → Nat → Int32) (z1 : Int32) (hIv : IvX I A) : GM l D zt (tyX d) yX4_copyQuery wz_k257_X4_copyQuery ({ frames := 3, cells := 0, slots := 0, locals := 64 } : Room) [.ref (q 15), .int z1, .ref (q 40)] (wX q d I A) (fun v _ w' => ∃ (I' : Nat → Int32) (A' : Nat → Nat → Int32), Md [] I I' ∧ Md [22] A A' ∧ IvX I' A' ∧ v = none ∧ w' = wX q d I' A') 0 0 := by
  refine GM.of (cc := cX4_copyQuery) (maxL := 4) (ret := none) (own := RX4) (lv := [(0, .ref (q 15)), (1, .int z1), (2, .ref (q 40))]) (by decide) rfl rfl (Nat.le_of_ble_eq_true rfl) rfl (fun κ sz hk hR hN => ?_)
  refine g_iconst (v := 0) hk dX4_copyQuery_0 (by decide) ?_
  refine g_istore_n (lv' := [(3, .int 0), (0, .ref (q 15)), (1, .int z1), (2, .ref (q 40))]) hk dX4_copyQuery_1 (by decide) rfl ?_
  have lp4784 : ∀ (n4785 : Nat) (x4723 : Int32) (I4727 : Nat → Int32) (A4727 : Nat → Nat → Int32), (Md [] I I4727) → (Md [22] A A4727) → (IvX I4727 A4727) → (0 ≤ x4723.toInt) → (x4723.toInt ≤ 16) → (1 - x4723.toInt < (n4785 : Int)) → (0 < n4785) → GW κ 4 0 0 (wX q d I4727 A4727) 2 [(3, .int x4723), (0, .ref (q 15)), (1, .int z1), (2, .ref (q 40))] [] := by
    intro n4785
    induction n4785 with
    | zero =>
      intro x4723 I4727 A4727 hI4727 hA4727 hV4727 h4782 h4783 m4786 m4786z
      exact absurd m4786z (Nat.lt_irrefl 0)
    | succ n4785 ih =>
      intro x4723 I4727 A4727 hI4727 hA4727 hV4727 h4782 h4783 m4786 m4786z
      refine g_iload_n hk dX4_copyQuery_2 rfl ?_
      refine g_aload_n hk dX4_copyQuery_3 rfl ?_
      refine g_iload_n hk dX4_copyQuery_4 rfl ?_
      refine g_callV (n := 1) hk (k182_X4_lengthOf l D zt q d I4727 A4727 z1 hV4727) (SP.same _) (fun _ h => h) (gi_V (List.mem_cons_of_mem _ (List.mem_append_left _ (List.mem_of_getElem? (i := 0) rfl))) (List.mem_cons_of_mem _ (List.mem_append_left _ (List.mem_of_getElem? (i := 1) rfl))) (List.mem_cons_of_mem _ (List.mem_append_left _ (List.mem_of_getElem? (i := 2) rfl))) (List.mem_cons_of_mem _ (List.mem_append_left _ (List.mem_of_getElem? (i := 3) rfl))) (gi_sub (fun w h => (List.mem_cons_of_mem _ (List.mem_append_right _ (List.mem_append_left _ h)))) zg_k182_X4_lengthOf)) rfl rfl rfl (by decide +kernel) ⟨Nat.le_of_ble_eq_true rfl, Nat.le_of_ble_eq_true rfl⟩ 15 rfl rfl rfl rfl (Nat.le_of_ble_eq_true rfl) ⟨Nat.le_of_ble_eq_true rfl, Nat.le_of_ble_eq_true rfl⟩ dX4_copyQuery_5 (fun v ty' w' hp hk' => ?_)
      rcases hp with ⟨rfl, rfl⟩ | ⟨y4794, c4788, c4789, c4790, c4791, c4792, c4793, c4795, c4796, rfl, rfl⟩
      · skip
        show GW κ 4 0 0 (wX q d I4727 A4727) 8 [(3, .int x4723), (0, .ref (q 15)), (1, .int z1), (2, .ref (q 40))] [.int 0, .int x4723]
        refine g_icmp_ge (tgt := 32) (a := x4723.toInt) (b := 0) hk dX4_copyQuery_8 (by decide) rfl rfl (fun _ => ?_) (fun z9 => absurd (show 0 ≤ x4723.toInt from by omega) z9)
        exact g_vret hk hR ⟨I4727, A4727, (show Md [] I I4727 from (Md.tr Md.rf hI4727 rfl)), (show Md [22] A A4727 from (Md.tr Md.rf hA4727 rfl)), hV4727, rfl, rfl⟩ dX4_copyQuery_32
      · skip
        show GW κ 4 0 0 (wX q d I4727 A4727) 8 [(3, .int x4723), (0, .ref (q 15)), (1, .int z1), (2, .ref (q 40))] [.int y4794, .int x4723]
        refine g_icmp_ge (tgt := 32) (a := x4723.toInt) (b := y4794.toInt) hk dX4_copyQuery_8 (by decide) rfl rfl (fun c4797 => ?_) (fun c4797 => ?_)
        · skip
          exact g_vret hk hR ⟨I4727, A4727, (show Md [] I I4727 from (Md.tr Md.rf hI4727 rfl)), (show Md [22] A A4727 from (Md.tr Md.rf hA4727 rfl)), hV4727, rfl, rfl⟩ dX4_copyQuery_32
        · skip
          refine g_iload_n hk dX4_copyQuery_11 rfl ?_
          refine g_aload_n hk dX4_copyQuery_12 rfl ?_
          refine nX_22 hk dX4_copyQuery_13 ?_
          refine g_icmp_ge (tgt := 32) (a := x4723.toInt) (b := 16) hk dX4_copyQuery_14 (by decide) rfl rfl (fun z9 => absurd z9 (show ¬ (16 ≤ x4723.toInt) from by omega)) (fun _ => ?_)
          refine g_aload_n hk dX4_copyQuery_17 rfl ?_
          refine g_iload_n hk dX4_copyQuery_18 rfl ?_
          refine g_aload_n hk dX4_copyQuery_19 rfl ?_
          refine g_iload_n hk dX4_copyQuery_20 rfl ?_
          refine g_iload_n hk dX4_copyQuery_21 rfl ?_
          refine g_callV (n := 2) hk (k181_X4_valueAt l D zt q d I4727 A4727 z1 x4723 hV4727) (SP.same _) (fun _ h => h) (gi_V (List.mem_cons_of_mem _ (List.mem_append_left _ (List.mem_of_getElem? (i := 4) rfl))) (List.mem_cons_of_mem _ (List.mem_append_left _ (List.mem_of_getElem? (i := 5) rfl))) (List.mem_cons_of_mem _ (List.mem_append_left _ (List.mem_of_getElem? (i := 6) rfl))) (List.mem_cons_of_mem _ (List.mem_append_left _ (List.mem_of_getElem? (i := 3) rfl))) (gi_sub (fun w h => (List.mem_cons_of_mem _ (List.mem_append_right _ (List.mem_append_right _ (List.mem_append_left _ h))))) zg_k181_X4_valueAt)) rfl rfl rfl (by decide +kernel) ⟨Nat.le_of_ble_eq_true rfl, Nat.le_of_ble_eq_true rfl⟩ 15 rfl rfl rfl rfl (Nat.le_of_ble_eq_true rfl) ⟨Nat.le_of_ble_eq_true rfl, Nat.le_of_ble_eq_true rfl⟩ dX4_copyQuery_22 (fun v ty' w' hp hk' => ?_)
          obtain ⟨y4798, rfl, rfl⟩ := hp
          show GW κ 4 0 0 (wX q d I4727 A4727) 25 [(3, .int x4723), (0, .ref (q 15)), (1, .int z1), (2, .ref (q 40))] [.int y4798, .int x4723, .ref (q 40)]
          refine sX_22 (j := x4723.toNatClampNeg) hk (vp_in_iff.mpr ⟨by omega, by omega⟩) rfl dX4_copyQuery_25 ?_
          obtain ⟨y4799, ey4799⟩ : ∃ y : Int32, y = x4723 + Int32.ofInt 1 := ⟨_, rfl⟩
          have hy4799 : y4799.toInt = x4723.toInt + 1 := i32_add ey4799 rfl (by decide) (by omega) (by omega)
          refine g_iinc (v := y4799) (lv' := [(3, .int y4799), (0, .ref (q 15)), (1, .int z1), (2, .ref (q 40))]) hk 0 dX4_copyQuery_26 rfl ey4799.symm (by decide) rfl ?_
          refine g_goto (tgt := 2) hk dX4_copyQuery_29 (by decide) ?_
          exact g_lv (List.forall_mem_cons.mpr ⟨List.mem_of_getElem? (i := 0) rfl, (List.forall_mem_cons.mpr ⟨List.mem_of_getElem? (i := 1) rfl, (List.forall_mem_cons.mpr ⟨List.mem_of_getElem? (i := 2) rfl, (List.forall_mem_cons.mpr ⟨List.mem_of_getElem? (i := 3) rfl, (fun _ h => absurd h List.not_mem_nil)⟩)⟩)⟩)⟩) (ih y4799 I4727 (up3 A4727 22 (x4723.toNatClampNeg) y4798) (show Md [] I I4727 from Md.tr hI4727 (show Md [] I4727 I4727 from Md.rf) rfl) (show Md [22] A (up3 A4727 22 (x4723.toNatClampNeg) y4798) from Md.tr hA4727 (show Md [22] A4727 (up3 A4727 22 (x4723.toNatClampNeg) y4798) from (Md.up3 Md.rf rfl)) rfl) ⟨(IvX_f0 (I := I4727) (A := A4727) hV4727), (IvX_f18 (I := I4727) (A := A4727) hV4727), (IvX_f30 (I := I4727) (A := A4727) hV4727), (IvX_f31 (I := I4727) (A := A4727) hV4727), (IvX_a4 (I := I4727) (A := A4727) hV4727), (IvX_a9 (I := I4727) (A := A4727) hV4727), trivial⟩ (by omega) (by omega) (by omega) (by omega))
  have k4801 : (0 : Int32).toInt = 0 := rfl
  obtain ⟨n4800, n4800a, n4800b⟩ : ∃ n : Nat, 1 - 0 < (n : Int) ∧ 0 < n := ⟨((1 - 0 : Int)).toNat + 1, by omega, by omega⟩
  exact lp4784 n4800 0 I A Md.rf Md.rf hIv (by omega) (by omega) n4800a n4800b
def wo_k256_X0_laySecondQuery : List Cond := [Cond.fieldLink RX0 22 "WarpDesk$Bench" "queries" "LWarpDesk$Queries;", Cond.fieldLink RX0 12 "WarpDesk$Bench" "fit" "LWarpDesk$Fit;", Cond.fieldLink RX0 88 "WarpDesk$Fit" "right" "[I", Cond.methodLink RX0 69 yX4_copyQuery, Cond.instanceMethod yX4_copyQuery, Cond.selects RX4 yX4_copyQuery yX4_copyQuery, Cond.initialized RX4, Cond.fieldLink RX0 26 "WarpDesk$Bench" "settings" "LWarpDesk$Settings;", Cond.methodLink RX0 49 yX7_valueOf, Cond.instanceMethod yX7_valueOf, Cond.selects RX7 yX7_valueOf yX7_valueOf, Cond.initialized RX7, Cond.methodLink RX0 73 yX2_bringToLevel, Cond.instanceMethod yX2_bringToLevel, Cond.selects RX2 yX2_bringToLevel yX2_bringToLevel, Cond.initialized RX2]
def wz_k256_X0_laySecondQuery : List Cond := .code yX0_laySecondQuery cX0_laySecondQuery 2 none :: (wo_k256_X0_laySecondQuery ++ (wsX00 ++ (wsX20 ++ (wz_k257_X4_copyQuery ++ (wz_k194_X7_valueOf ++ (wz_k228_X2_bringToLevel ++ ([] : List Cond)))))))
theorem zg_k256_X0_laySecondQuery : ∀ w ∈ wz_k256_X0_laySecondQuery, goodWord w = true := zg_cons rfl (zg_app (by decide +kernel) (zg_app zgU_wsX00 (zg_app zgU_wsX20 (zg_app zg_k257_X4_copyQuery (zg_app zg_k194_X7_valueOf (zg_app zg_k228_X2_bringToLevel zg_nil))))))
theorem zi_k256_X0_laySecondQuery : ∀ w ∈ wz_k256_X0_laySecondQuery, w ∈ lw_tbl := zi_cons zw_1092 (zi_app (zi_cons zw_376 (zi_cons zw_380 (zi_cons zw_338 (zi_cons zw_984 (zi_cons zw_985 (zi_cons zw_986 (zi_cons zw_108 (zi_cons zw_378 (zi_cons zw_933 (zi_cons zw_786 (zi_cons zw_787 (zi_cons zw_107 (zi_cons zw_948 (zi_cons zw_949 (zi_cons zw_950 (zi_cons zw_112 zi_nil)))))))))))))))) (zi_app inX0 (zi_app inX2 (zi_app zi_k257_X4_copyQuery (zi_app zi_k194_X7_valueOf (zi_app zi_k228_X2_bringToLevel zi_nil))))))
set_option maxHeartbeats 4000000 in
set_option maxRecDepth 100000 in
theorem k256_X0_laySecondQuery (l : Launch) (D : va_G) (zt : Nat × Nat × Nat × (Nat → Nat) × (Nat → Nat)) (q : Nat → Nat) (d : Nat → ClassId) (I : Nat → Int32) (A : Nat → Nat → Int32) (z1 : Int32) (hIv : IvX I A) : GM l D zt (tyX d) yX0_laySecondQuery wz_k256_X0_laySecondQuery ({ frames := 4, cells := 0, slots := 0, locals := 87 } : Room) [.ref (q 37), .int z1] (wX q d I A) (fun v _ w' => ∃ (I' : Nat → Int32) (A' : Nat → Nat → Int32), Md [] I I' ∧ Md [22] A A' ∧ IvX I' A' ∧ v = none ∧ w' = wX q d I' A') 0 0 := by
  refine GM.of (cc := cX0_laySecondQuery) (maxL := 2) (ret := none) (own := RX0) (lv := [(0, .ref (q 37)), (1, .int z1)]) (by decide) rfl rfl (Nat.le_of_ble_eq_true rfl) rfl (fun κ sz hk hR hN => ?_)
  have hin0 : ∀ w ∈ u_ws RX0 TX0 5, w ∈ wz_k256_X0_laySecondQuery := fun w h => (List.mem_cons_of_mem _ (List.mem_append_right _ (List.mem_append_left _ h)))
  have hin2 : ∀ w ∈ u_ws RX2 TX2 10, w ∈ wz_k256_X0_laySecondQuery := fun w h => (List.mem_cons_of_mem _ (List.mem_append_right _ (List.mem_append_right _ (List.mem_append_left _ h))))
  refine g_aload_n hk dX0_laySecondQuery_0 rfl ?_
  refine gX_r37_1 hk hin0 (List.mem_cons_of_mem _ (List.mem_append_left _ (List.mem_of_getElem? (i := 0) rfl))) dX0_laySecondQuery_1 ?_
  refine g_iload_n hk dX0_laySecondQuery_4 rfl ?_
  refine g_aload_n hk dX0_laySecondQuery_5 rfl ?_
  refine gX_r37_3 hk hin0 (List.mem_cons_of_mem _ (List.mem_append_left _ (List.mem_of_getElem? (i := 1) rfl))) dX0_laySecondQuery_6 ?_
  refine gX_r38_1 hk hin2 (List.mem_cons_of_mem _ (List.mem_append_left _ (List.mem_of_getElem? (i := 2) rfl))) dX0_laySecondQuery_9 ?_
  refine g_callV (n := 2) hk (k257_X4_copyQuery l D zt q d I A z1 hIv) (SP.same _) (fun _ h => h) (gi_V (List.mem_cons_of_mem _ (List.mem_append_left _ (List.mem_of_getElem? (i := 3) rfl))) (List.mem_cons_of_mem _ (List.mem_append_left _ (List.mem_of_getElem? (i := 4) rfl))) (List.mem_cons_of_mem _ (List.mem_append_left _ (List.mem_of_getElem? (i := 5) rfl))) (List.mem_cons_of_mem _ (List.mem_append_left _ (List.mem_of_getElem? (i := 6) rfl))) (gi_sub (fun w h => (List.mem_cons_of_mem _ (List.mem_append_right _ (List.mem_append_right _ (List.mem_append_right _ (List.mem_append_left _ h)))))) zg_k257_X4_copyQuery)) rfl rfl rfl (by decide +kernel) ⟨Nat.le_of_ble_eq_true rfl, Nat.le_of_ble_eq_true rfl⟩ 15 rfl rfl rfl rfl (Nat.le_of_ble_eq_true rfl) ⟨Nat.le_of_ble_eq_true rfl, Nat.le_of_ble_eq_true rfl⟩ dX0_laySecondQuery_12 (fun v ty' w' hp hk' => ?_)
  obtain ⟨I4803, A4803, hI4803, hA4803, hV4803, rfl, rfl⟩ := hp
  show GW κ 2 0 0 (wX q d I4803 A4803) 15 [(0, .ref (q 37)), (1, .int z1)] []
  refine g_aload_n hk dX0_laySecondQuery_15 rfl ?_
  refine gX_r37_3 hk hin0 (List.mem_cons_of_mem _ (List.mem_append_left _ (List.mem_of_getElem? (i := 1) rfl))) dX0_laySecondQuery_16 ?_
  refine g_aload_n hk dX0_laySecondQuery_19 rfl ?_
  refine gX_r37_3 hk hin0 (List.mem_cons_of_mem _ (List.mem_append_left _ (List.mem_of_getElem? (i := 1) rfl))) dX0_laySecondQuery_20 ?_
  refine gX_r38_1 hk hin2 (List.mem_cons_of_mem _ (List.mem_append_left _ (List.mem_of_getElem? (i := 2) rfl))) dX0_laySecondQuery_23 ?_
  refine g_aload_n hk dX0_laySecondQuery_26 rfl ?_
  refine gX_r37_2 hk hin0 (List.mem_cons_of_mem _ (List.mem_append_left _ (List.mem_of_getElem? (i := 7) rfl))) dX0_laySecondQuery_27 ?_
  refine g_iconst (v := 1) hk dX0_laySecondQuery_30 (by decide) ?_
  have k4804 : (1 : Int32).toInt = 1 := rfl
  refine g_callV (n := 1) hk (k194_X7_valueOf l D zt q d I4803 A4803 1 hV4803) (SP.same _) (fun _ h => h) (gi_V (List.mem_cons_of_mem _ (List.mem_append_left _ (List.mem_of_getElem? (i := 8) rfl))) (List.mem_cons_of_mem _ (List.mem_append_left _ (List.mem_of_getElem? (i := 9) rfl))) (List.mem_cons_of_mem _ (List.mem_append_left _ (List.mem_of_getElem? (i := 10) rfl))) (List.mem_cons_of_mem _ (List.mem_append_left _ (List.mem_of_getElem? (i := 11) rfl))) (gi_sub (fun w h => (List.mem_cons_of_mem _ (List.mem_append_right _ (List.mem_append_right _ (List.mem_append_right _ (List.mem_append_right _ (List.mem_append_left _ h))))))) zg_k194_X7_valueOf)) rfl rfl rfl (by decide +kernel) ⟨Nat.le_of_ble_eq_true rfl, Nat.le_of_ble_eq_true rfl⟩ 18 rfl rfl rfl rfl (Nat.le_of_ble_eq_true rfl) ⟨Nat.le_of_ble_eq_true rfl, Nat.le_of_ble_eq_true rfl⟩ dX0_laySecondQuery_31 (fun v ty' w' hp hk' => ?_)
  obtain ⟨y4805, rfl, rfl⟩ := hp
  show GW κ 2 0 0 (wX q d I4803 A4803) 34 [(0, .ref (q 37)), (1, .int z1)] [.int y4805, .ref (q 40), .ref (q 38)]
  refine g_callV (n := 2) hk (k228_X2_bringToLevel l D zt q d I4803 A4803 y4805 hV4803) (SP.same _) (fun _ h => h) (gi_V (List.mem_cons_of_mem _ (List.mem_append_left _ (List.mem_of_getElem? (i := 12) rfl))) (List.mem_cons_of_mem _ (List.mem_append_left _ (List.mem_of_getElem? (i := 13) rfl))) (List.mem_cons_of_mem _ (List.mem_append_left _ (List.mem_of_getElem? (i := 14) rfl))) (List.mem_cons_of_mem _ (List.mem_append_left _ (List.mem_of_getElem? (i := 15) rfl))) (gi_sub (fun w h => (List.mem_cons_of_mem _ (List.mem_append_right _ (List.mem_append_right _ (List.mem_append_right _ (List.mem_append_right _ (List.mem_append_right _ (List.mem_append_left _ h)))))))) zg_k228_X2_bringToLevel)) rfl rfl rfl (by decide +kernel) ⟨Nat.le_of_ble_eq_true rfl, Nat.le_of_ble_eq_true rfl⟩ 38 rfl rfl rfl rfl (Nat.le_of_ble_eq_true rfl) ⟨Nat.le_of_ble_eq_true rfl, Nat.le_of_ble_eq_true rfl⟩ dX0_laySecondQuery_34 (fun v ty' w' hp hk' => ?_)
  obtain ⟨I4807, A4807, hI4807, hA4807, hV4807, rfl, rfl⟩ := hp
  show GW κ 2 0 0 (wX q d I4807 A4807) 37 [(0, .ref (q 37)), (1, .int z1)] []
  exact g_vret hk hR ⟨I4807, A4807, (show Md [] I I4807 from (Md.tr (Md.tr Md.rf hI4803 rfl) hI4807 rfl)), (show Md [22] A A4807 from (Md.tr (Md.tr Md.rf hA4803 rfl) hA4807 rfl)), hV4807, rfl, rfl⟩ dX0_laySecondQuery_37
def wo_k255_X11_alike : List Cond := [Cond.fieldLink RX11 35 "WarpDesk" "queries" "LWarpDesk$Queries;", Cond.methodLink RX11 251 yX4_has, Cond.instanceMethod yX4_has, Cond.selects RX4 yX4_has yX4_has, Cond.initialized RX4, Cond.methodLink RX11 254 yX4_lengthOf, Cond.instanceMethod yX4_lengthOf, Cond.selects RX4 yX4_lengthOf yX4_lengthOf, Cond.fieldLink RX11 65 "WarpDesk" "bench" "LWarpDesk$Bench;", Cond.fieldLink RX11 42 "WarpDesk" "settings" "LWarpDesk$Settings;", Cond.methodLink RX11 154 yX7_valueOf, Cond.instanceMethod yX7_valueOf, Cond.selects RX7 yX7_valueOf yX7_valueOf, Cond.initialized RX7, Cond.methodLink RX11 257 yX0_openQuery, Cond.instanceMethod yX0_openQuery, Cond.selects RX0 yX0_openQuery yX0_openQuery, Cond.initialized RX0, Cond.methodLink RX11 260 yX0_laySecondQuery, Cond.instanceMethod yX0_laySecondQuery, Cond.selects RX0 yX0_laySecondQuery yX0_laySecondQuery, Cond.fieldLink RX11 202 "WarpDesk$Bench" "fit" "LWarpDesk$Fit;", Cond.methodLink RX11 215 yX2_wholeDistance, Cond.instanceMethod yX2_wholeDistance, Cond.selects RX2 yX2_wholeDistance yX2_wholeDistance, Cond.initialized RX2]
def wz_k255_X11_alike : List Cond := .code yX11_alike cX11_alike 3 (some .int) :: (wo_k255_X11_alike ++ (wsX00 ++ (wsX110 ++ (wz_k168_X4_has ++ (wz_k182_X4_lengthOf ++ (wz_k194_X7_valueOf ++ (wz_k224_X0_openQuery ++ (wz_k256_X0_laySecondQuery ++ (wz_k232_X2_wholeDistance ++ ([] : List Cond))))))))))
theorem zg_k255_X11_alike : ∀ w ∈ wz_k255_X11_alike, goodWord w = true := zg_cons rfl (zg_app (by decide +kernel) (zg_app zgU_wsX00 (zg_app zgU_wsX110 (zg_app zg_k168_X4_has (zg_app zg_k182_X4_lengthOf (zg_app zg_k194_X7_valueOf (zg_app zg_k224_X0_openQuery (zg_app zg_k256_X0_laySecondQuery (zg_app zg_k232_X2_wholeDistance zg_nil)))))))))
theorem zi_k255_X11_alike : ∀ w ∈ wz_k255_X11_alike, w ∈ lw_tbl := zi_cons zw_1085 (zi_app (zi_cons zw_490 (zi_cons zw_1086 (zi_cons zw_747 (zi_cons zw_748 (zi_cons zw_108 (zi_cons zw_1087 (zi_cons zw_757 (zi_cons zw_758 (zi_cons zw_494 (zi_cons zw_491 (zi_cons zw_863 (zi_cons zw_786 (zi_cons zw_787 (zi_cons zw_107 (zi_cons zw_1088 (zi_cons zw_981 (zi_cons zw_982 (zi_cons zw_111 (zi_cons zw_1089 (zi_cons zw_1090 (zi_cons zw_1091 (zi_cons zw_383 (zi_cons zw_992 (zi_cons zw_993 (zi_cons zw_994 (zi_cons zw_112 zi_nil)))))))))))))))))))))))))) (zi_app inX0 (zi_app inX11 (zi_app zi_k168_X4_has (zi_app zi_k182_X4_lengthOf (zi_app zi_k194_X7_valueOf (zi_app zi_k224_X0_openQuery (zi_app zi_k256_X0_laySecondQuery (zi_app zi_k232_X2_wholeDistance zi_nil)))))))))
set_option maxHeartbeats 4000000 in
set_option maxRecDepth 100000 in
theorem k255_X11_alike (l : Launch) (D : va_G) (zt : Nat × Nat × Nat × (Nat → Nat) × (Nat → Nat)) (q : Nat → Nat) (d : Nat → ClassId) (I : Nat → Int32) (A : Nat → Nat → Int32) (z1 : Int32) (z2 : Int32) (hIv : IvX I A) : GM l D zt (tyX d) yX11_alike wz_k255_X11_alike ({ frames := 5, cells := 0, slots := 0, locals := 109 } : Room) [.ref (q 0), .int z1, .int z2] (wX q d I A) (fun v _ w' => ∃ (I' : Nat → Int32) (A' : Nat → Nat → Int32), Md [28, 30, 31, 32, 33, 34] I I' ∧ Md [21, 22, 23] A A' ∧ IvX I' A' ∧ ∃ y0 : Int32, v = some (.int y0) ∧ w' = wX q d I' A') 0 0 := by
  refine GM.of (cc := cX11_alike) (maxL := 3) (ret := (some .int)) (own := RX11) (lv := [(0, .ref (q 0)), (1, .int z1), (2, .int z2)]) (by decide) rfl rfl (Nat.le_of_ble_eq_true rfl) rfl (fun κ sz hk hR hN => ?_)
  have hin0 : ∀ w ∈ u_ws RX0 TX0 5, w ∈ wz_k255_X11_alike := fun w h => (List.mem_cons_of_mem _ (List.mem_append_right _ (List.mem_append_left _ h)))
  have hin11 : ∀ w ∈ u_ws RX11 TX11 10, w ∈ wz_k255_X11_alike := fun w h => (List.mem_cons_of_mem _ (List.mem_append_right _ (List.mem_append_right _ (List.mem_append_left _ h))))
  refine g_aload_n hk dX11_alike_0 rfl ?_
  refine gX_r0_3 hk hin11 (List.mem_cons_of_mem _ (List.mem_append_left _ (List.mem_of_getElem? (i := 0) rfl))) dX11_alike_1 ?_
  refine g_iload_n hk dX11_alike_4 rfl ?_
  refine g_callV (n := 1) hk (k168_X4_has l D zt q d I A z1 hIv) (SP.same _) (fun _ h => h) (gi_V (List.mem_cons_of_mem _ (List.mem_append_left _ (List.mem_of_getElem? (i := 1) rfl))) (List.mem_cons_of_mem _ (List.mem_append_left _ (List.mem_of_getElem? (i := 2) rfl))) (List.mem_cons_of_mem _ (List.mem_append_left _ (List.mem_of_getElem? (i := 3) rfl))) (List.mem_cons_of_mem _ (List.mem_append_left _ (List.mem_of_getElem? (i := 4) rfl))) (gi_sub (fun w h => (List.mem_cons_of_mem _ (List.mem_append_right _ (List.mem_append_right _ (List.mem_append_right _ (List.mem_append_left _ h)))))) zg_k168_X4_has)) rfl rfl rfl (by decide +kernel) ⟨Nat.le_of_ble_eq_true rfl, Nat.le_of_ble_eq_true rfl⟩ 15 rfl rfl rfl rfl (Nat.le_of_ble_eq_true rfl) ⟨Nat.le_of_ble_eq_true rfl, Nat.le_of_ble_eq_true rfl⟩ dX11_alike_5 (fun v ty' w' hp hk' => ?_)
  rcases hp with ⟨rfl, rfl⟩ | ⟨c4688, c4689, c4690, c4691, rfl, rfl⟩
  · skip
    show GW κ 3 0 0 (wX q d I A) 8 [(0, .ref (q 0)), (1, .int z1), (2, .int z2)] [.int 0]
    refine g_if_eq (tgt := 22) (a := 0) hk dX11_alike_8 (by decide) rfl (fun _ => ?_) (fun z9 => absurd (show (0 : Int) = (0 : Int) from by decide) z9)
    refine g_iconst (v := (-1)) hk dX11_alike_22 (by decide) ?_
    exact g_iret hk hR rfl ⟨I, A, (show Md [28, 30, 31, 32, 33, 34] I I from Md.rf), (show Md [21, 22, 23] A A from Md.rf), hIv, (-1), rfl, rfl⟩ dX11_alike_23
  · skip
    show GW κ 3 0 0 (wX q d I A) 8 [(0, .ref (q 0)), (1, .int z1), (2, .int z2)] [.int 1]
    refine g_if_eq (tgt := 22) (a := 1) hk dX11_alike_8 (by decide) rfl (fun z9 => absurd z9 (show ¬ ((1 : Int) = (0 : Int)) from by decide)) (fun _ => ?_)
    refine g_aload_n hk dX11_alike_11 rfl ?_
    refine gX_r0_3 hk hin11 (List.mem_cons_of_mem _ (List.mem_append_left _ (List.mem_of_getElem? (i := 0) rfl))) dX11_alike_12 ?_
    refine g_iload_n hk dX11_alike_15 rfl ?_
    refine g_callV (n := 1) hk (k168_X4_has l D zt q d I A z2 hIv) (SP.same _) (fun _ h => h) (gi_V (List.mem_cons_of_mem _ (List.mem_append_left _ (List.mem_of_getElem? (i := 1) rfl))) (List.mem_cons_of_mem _ (List.mem_append_left _ (List.mem_of_getElem? (i := 2) rfl))) (List.mem_cons_of_mem _ (List.mem_append_left _ (List.mem_of_getElem? (i := 3) rfl))) (List.mem_cons_of_mem _ (List.mem_append_left _ (List.mem_of_getElem? (i := 4) rfl))) (gi_sub (fun w h => (List.mem_cons_of_mem _ (List.mem_append_right _ (List.mem_append_right _ (List.mem_append_right _ (List.mem_append_left _ h)))))) zg_k168_X4_has)) rfl rfl rfl (by decide +kernel) ⟨Nat.le_of_ble_eq_true rfl, Nat.le_of_ble_eq_true rfl⟩ 15 rfl rfl rfl rfl (Nat.le_of_ble_eq_true rfl) ⟨Nat.le_of_ble_eq_true rfl, Nat.le_of_ble_eq_true rfl⟩ dX11_alike_16 (fun v ty' w' hp hk' => ?_)
    rcases hp with ⟨rfl, rfl⟩ | ⟨c4694, c4695, c4696, c4697, rfl, rfl⟩
    · skip
      show GW κ 3 0 0 (wX q d I A) 19 [(0, .ref (q 0)), (1, .int z1), (2, .int z2)] [.int 0]
      refine g_if_ne (tgt := 24) (a := 0) hk dX11_alike_19 (by decide) rfl (fun z9 => absurd z9 (show ¬ ((0 : Int) ≠ (0 : Int)) from by decide)) (fun _ => ?_)
      refine g_iconst (v := (-1)) hk dX11_alike_22 (by decide) ?_
      exact g_iret hk hR rfl ⟨I, A, (show Md [28, 30, 31, 32, 33, 34] I I from Md.rf), (show Md [21, 22, 23] A A from Md.rf), hIv, (-1), rfl, rfl⟩ dX11_alike_23
    · skip
      show GW κ 3 0 0 (wX q d I A) 19 [(0, .ref (q 0)), (1, .int z1), (2, .int z2)] [.int 1]
      refine g_if_ne (tgt := 24) (a := 1) hk dX11_alike_19 (by decide) rfl (fun _ => ?_) (fun z9 => absurd (show (1 : Int) ≠ (0 : Int) from by decide) z9)
      refine g_aload_n hk dX11_alike_24 rfl ?_
      refine gX_r0_3 hk hin11 (List.mem_cons_of_mem _ (List.mem_append_left _ (List.mem_of_getElem? (i := 0) rfl))) dX11_alike_25 ?_
      refine g_iload_n hk dX11_alike_28 rfl ?_
      refine g_callV (n := 1) hk (k182_X4_lengthOf l D zt q d I A z1 hIv) (SP.same _) (fun _ h => h) (gi_V (List.mem_cons_of_mem _ (List.mem_append_left _ (List.mem_of_getElem? (i := 5) rfl))) (List.mem_cons_of_mem _ (List.mem_append_left _ (List.mem_of_getElem? (i := 6) rfl))) (List.mem_cons_of_mem _ (List.mem_append_left _ (List.mem_of_getElem? (i := 7) rfl))) (List.mem_cons_of_mem _ (List.mem_append_left _ (List.mem_of_getElem? (i := 4) rfl))) (gi_sub (fun w h => (List.mem_cons_of_mem _ (List.mem_append_right _ (List.mem_append_right _ (List.mem_append_right _ (List.mem_append_right _ (List.mem_append_left _ h))))))) zg_k182_X4_lengthOf)) rfl rfl rfl (by decide +kernel) ⟨Nat.le_of_ble_eq_true rfl, Nat.le_of_ble_eq_true rfl⟩ 15 rfl rfl rfl rfl (Nat.le_of_ble_eq_true rfl) ⟨Nat.le_of_ble_eq_true rfl, Nat.le_of_ble_eq_true rfl⟩ dX11_alike_29 (fun v ty' w' hp hk' => ?_)
      rcases hp with ⟨rfl, rfl⟩ | ⟨y4706, c4700, c4701, c4702, c4703, c4704, c4705, c4707, c4708, rfl, rfl⟩
      · skip
        show GW κ 3 0 0 (wX q d I A) 32 [(0, .ref (q 0)), (1, .int z1), (2, .int z2)] [.int 0]
        refine g_aload_n hk dX11_alike_32 rfl ?_
        refine gX_r0_3 hk hin11 (List.mem_cons_of_mem _ (List.mem_append_left _ (List.mem_of_getElem? (i := 0) rfl))) dX11_alike_33 ?_
        refine g_iload_n hk dX11_alike_36 rfl ?_
        refine g_callV (n := 1) hk (k182_X4_lengthOf l D zt q d I A z2 hIv) (SP.same _) (fun _ h => h) (gi_V (List.mem_cons_of_mem _ (List.mem_append_left _ (List.mem_of_getElem? (i := 5) rfl))) (List.mem_cons_of_mem _ (List.mem_append_left _ (List.mem_of_getElem? (i := 6) rfl))) (List.mem_cons_of_mem _ (List.mem_append_left _ (List.mem_of_getElem? (i := 7) rfl))) (List.mem_cons_of_mem _ (List.mem_append_left _ (List.mem_of_getElem? (i := 4) rfl))) (gi_sub (fun w h => (List.mem_cons_of_mem _ (List.mem_append_right _ (List.mem_append_right _ (List.mem_append_right _ (List.mem_append_right _ (List.mem_append_left _ h))))))) zg_k182_X4_lengthOf)) rfl rfl rfl (by decide +kernel) ⟨Nat.le_of_ble_eq_true rfl, Nat.le_of_ble_eq_true rfl⟩ 15 rfl rfl rfl rfl (Nat.le_of_ble_eq_true rfl) ⟨Nat.le_of_ble_eq_true rfl, Nat.le_of_ble_eq_true rfl⟩ dX11_alike_37 (fun v ty' w' hp hk' => ?_)
        rcases hp with ⟨rfl, rfl⟩ | ⟨y4716, c4710, c4711, c4712, c4713, c4714, c4715, c4717, c4718, rfl, rfl⟩
        · skip
          show GW κ 3 0 0 (wX q d I A) 40 [(0, .ref (q 0)), (1, .int z1), (2, .int z2)] [.int 0, .int 0]
          refine g_icmp_eq (tgt := 46) (a := 0) (b := 0) hk dX11_alike_40 (by decide) rfl rfl (fun _ => ?_) (fun z9 => absurd (show (0 : Int) = (0 : Int) from by decide) z9)
          refine g_aload_n hk dX11_alike_46 rfl ?_
          refine gX_r0_7 hk hin11 (List.mem_cons_of_mem _ (List.mem_append_left _ (List.mem_of_getElem? (i := 8) rfl))) dX11_alike_47 ?_
          refine g_iload_n hk dX11_alike_50 rfl ?_
          refine g_aload_n hk dX11_alike_51 rfl ?_
          refine gX_r0_4 hk hin11 (List.mem_cons_of_mem _ (List.mem_append_left _ (List.mem_of_getElem? (i := 9) rfl))) dX11_alike_52 ?_
          refine g_iconst (v := 0) hk dX11_alike_55 (by decide) ?_
          have k4719 : (0 : Int32).toInt = 0 := rfl
          refine g_callV (n := 1) hk (k194_X7_valueOf l D zt q d I A 0 hIv) (SP.same _) (fun _ h => h) (gi_V (List.mem_cons_of_mem _ (List.mem_append_left _ (List.mem_of_getElem? (i := 10) rfl))) (List.mem_cons_of_mem _ (List.mem_append_left _ (List.mem_of_getElem? (i := 11) rfl))) (List.mem_cons_of_mem _ (List.mem_append_left _ (List.mem_of_getElem? (i := 12) rfl))) (List.mem_cons_of_mem _ (List.mem_append_left _ (List.mem_of_getElem? (i := 13) rfl))) (gi_sub (fun w h => (List.mem_cons_of_mem _ (List.mem_append_right _ (List.mem_append_right _ (List.mem_append_right _ (List.mem_append_right _ (List.mem_append_right _ (List.mem_append_left _ h)))))))) zg_k194_X7_valueOf)) rfl rfl rfl (by decide +kernel) ⟨Nat.le_of_ble_eq_true rfl, Nat.le_of_ble_eq_true rfl⟩ 18 rfl rfl rfl rfl (Nat.le_of_ble_eq_true rfl) ⟨Nat.le_of_ble_eq_true rfl, Nat.le_of_ble_eq_true rfl⟩ dX11_alike_56 (fun v ty' w' hp hk' => ?_)
          obtain ⟨y4720, rfl, rfl⟩ := hp
          show GW κ 3 0 0 (wX q d I A) 59 [(0, .ref (q 0)), (1, .int z1), (2, .int z2)] [.int y4720, .int z1, .ref (q 37)]
          refine g_callV (n := 2) hk (k224_X0_openQuery l D zt q d I A z1 y4720 hIv) (SP.same _) (fun _ h => h) (gi_V (List.mem_cons_of_mem _ (List.mem_append_left _ (List.mem_of_getElem? (i := 14) rfl))) (List.mem_cons_of_mem _ (List.mem_append_left _ (List.mem_of_getElem? (i := 15) rfl))) (List.mem_cons_of_mem _ (List.mem_append_left _ (List.mem_of_getElem? (i := 16) rfl))) (List.mem_cons_of_mem _ (List.mem_append_left _ (List.mem_of_getElem? (i := 17) rfl))) (gi_sub (fun w h => (List.mem_cons_of_mem _ (List.mem_append_right _ (List.mem_append_right _ (List.mem_append_right _ (List.mem_append_right _ (List.mem_append_right _ (List.mem_append_right _ (List.mem_append_left _ h))))))))) zg_k224_X0_openQuery)) rfl rfl rfl (by decide +kernel) ⟨Nat.le_of_ble_eq_true rfl, Nat.le_of_ble_eq_true rfl⟩ 37 rfl rfl rfl rfl (Nat.le_of_ble_eq_true rfl) ⟨Nat.le_of_ble_eq_true rfl, Nat.le_of_ble_eq_true rfl⟩ dX11_alike_59 (fun v ty' w' hp hk' => ?_)
          obtain ⟨I4722, A4722, hI4722, hA4722, hV4722, rfl, rfl⟩ := hp
          show GW κ 3 0 0 (wX q d I4722 A4722) 62 [(0, .ref (q 0)), (1, .int z1), (2, .int z2)] []
          refine g_aload_n hk dX11_alike_62 rfl ?_
          refine gX_r0_7 hk hin11 (List.mem_cons_of_mem _ (List.mem_append_left _ (List.mem_of_getElem? (i := 8) rfl))) dX11_alike_63 ?_
          refine g_iload_n hk dX11_alike_66 rfl ?_
          refine g_callV (n := 1) hk (k256_X0_laySecondQuery l D zt q d I4722 A4722 z2 hV4722) (SP.same _) (fun _ h => h) (gi_V (List.mem_cons_of_mem _ (List.mem_append_left _ (List.mem_of_getElem? (i := 18) rfl))) (List.mem_cons_of_mem _ (List.mem_append_left _ (List.mem_of_getElem? (i := 19) rfl))) (List.mem_cons_of_mem _ (List.mem_append_left _ (List.mem_of_getElem? (i := 20) rfl))) (List.mem_cons_of_mem _ (List.mem_append_left _ (List.mem_of_getElem? (i := 17) rfl))) (gi_sub (fun w h => (List.mem_cons_of_mem _ (List.mem_append_right _ (List.mem_append_right _ (List.mem_append_right _ (List.mem_append_right _ (List.mem_append_right _ (List.mem_append_right _ (List.mem_append_right _ (List.mem_append_left _ h)))))))))) zg_k256_X0_laySecondQuery)) rfl rfl rfl (by decide +kernel) ⟨Nat.le_of_ble_eq_true rfl, Nat.le_of_ble_eq_true rfl⟩ 37 rfl rfl rfl rfl (Nat.le_of_ble_eq_true rfl) ⟨Nat.le_of_ble_eq_true rfl, Nat.le_of_ble_eq_true rfl⟩ dX11_alike_67 (fun v ty' w' hp hk' => ?_)
          obtain ⟨I4809, A4809, hI4809, hA4809, hV4809, rfl, rfl⟩ := hp
          show GW κ 3 0 0 (wX q d I4809 A4809) 70 [(0, .ref (q 0)), (1, .int z1), (2, .int z2)] []
          refine g_aload_n hk dX11_alike_70 rfl ?_
          refine gX_r0_7 hk hin11 (List.mem_cons_of_mem _ (List.mem_append_left _ (List.mem_of_getElem? (i := 8) rfl))) dX11_alike_71 ?_
          refine gX_r37_3 hk hin0 (List.mem_cons_of_mem _ (List.mem_append_left _ (List.mem_of_getElem? (i := 21) rfl))) dX11_alike_74 ?_
          refine g_callV (n := 0) hk (k232_X2_wholeDistance l D zt q d I4809 A4809  hV4809) (SP.same _) (fun _ h => h) (gi_V (List.mem_cons_of_mem _ (List.mem_append_left _ (List.mem_of_getElem? (i := 22) rfl))) (List.mem_cons_of_mem _ (List.mem_append_left _ (List.mem_of_getElem? (i := 23) rfl))) (List.mem_cons_of_mem _ (List.mem_append_left _ (List.mem_of_getElem? (i := 24) rfl))) (List.mem_cons_of_mem _ (List.mem_append_left _ (List.mem_of_getElem? (i := 25) rfl))) (gi_sub (fun w h => (List.mem_cons_of_mem _ (List.mem_append_right _ (List.mem_append_right _ (List.mem_append_right _ (List.mem_append_right _ (List.mem_append_right _ (List.mem_append_right _ (List.mem_append_right _ (List.mem_append_right _ (List.mem_append_left _ h))))))))))) zg_k232_X2_wholeDistance)) rfl rfl rfl (by decide +kernel) ⟨Nat.le_of_ble_eq_true rfl, Nat.le_of_ble_eq_true rfl⟩ 38 rfl rfl rfl rfl (Nat.le_of_ble_eq_true rfl) ⟨Nat.le_of_ble_eq_true rfl, Nat.le_of_ble_eq_true rfl⟩ dX11_alike_77 (fun v ty' w' hp hk' => ?_)
          obtain ⟨I4811, A4811, hI4811, hA4811, hV4811, y4810, rfl, rfl⟩ := hp
          show GW κ 3 0 0 (wX q d I4811 A4811) 80 [(0, .ref (q 0)), (1, .int z1), (2, .int z2)] [.int y4810]
          have b4812l := Int32.le_toInt y4810
          have b4812h := Int32.toInt_lt y4810
          exact g_iret hk hR rfl ⟨I4811, A4811, (show Md [28, 30, 31, 32, 33, 34] I I4811 from (Md.tr (Md.tr (Md.tr Md.rf hI4722 rfl) hI4809 rfl) hI4811 rfl)), (show Md [21, 22, 23] A A4811 from (Md.tr (Md.tr (Md.tr Md.rf hA4722 rfl) hA4809 rfl) hA4811 rfl)), hV4811, y4810, rfl, rfl⟩ dX11_alike_80
        · skip
          show GW κ 3 0 0 (wX q d I A) 40 [(0, .ref (q 0)), (1, .int z1), (2, .int z2)] [.int y4716, .int 0]
          refine g_icmp_eq (tgt := 46) (a := 0) (b := y4716.toInt) hk dX11_alike_40 (by decide) rfl rfl (fun c4813 => ?_) (fun c4813 => ?_)
          · skip
            refine g_aload_n hk dX11_alike_46 rfl ?_
            refine gX_r0_7 hk hin11 (List.mem_cons_of_mem _ (List.mem_append_left _ (List.mem_of_getElem? (i := 8) rfl))) dX11_alike_47 ?_
            refine g_iload_n hk dX11_alike_50 rfl ?_
            refine g_aload_n hk dX11_alike_51 rfl ?_
            refine gX_r0_4 hk hin11 (List.mem_cons_of_mem _ (List.mem_append_left _ (List.mem_of_getElem? (i := 9) rfl))) dX11_alike_52 ?_
            refine g_iconst (v := 0) hk dX11_alike_55 (by decide) ?_
            have k4814 : (0 : Int32).toInt = 0 := rfl
            refine g_callV (n := 1) hk (k194_X7_valueOf l D zt q d I A 0 hIv) (SP.same _) (fun _ h => h) (gi_V (List.mem_cons_of_mem _ (List.mem_append_left _ (List.mem_of_getElem? (i := 10) rfl))) (List.mem_cons_of_mem _ (List.mem_append_left _ (List.mem_of_getElem? (i := 11) rfl))) (List.mem_cons_of_mem _ (List.mem_append_left _ (List.mem_of_getElem? (i := 12) rfl))) (List.mem_cons_of_mem _ (List.mem_append_left _ (List.mem_of_getElem? (i := 13) rfl))) (gi_sub (fun w h => (List.mem_cons_of_mem _ (List.mem_append_right _ (List.mem_append_right _ (List.mem_append_right _ (List.mem_append_right _ (List.mem_append_right _ (List.mem_append_left _ h)))))))) zg_k194_X7_valueOf)) rfl rfl rfl (by decide +kernel) ⟨Nat.le_of_ble_eq_true rfl, Nat.le_of_ble_eq_true rfl⟩ 18 rfl rfl rfl rfl (Nat.le_of_ble_eq_true rfl) ⟨Nat.le_of_ble_eq_true rfl, Nat.le_of_ble_eq_true rfl⟩ dX11_alike_56 (fun v ty' w' hp hk' => ?_)
            obtain ⟨y4815, rfl, rfl⟩ := hp
            show GW κ 3 0 0 (wX q d I A) 59 [(0, .ref (q 0)), (1, .int z1), (2, .int z2)] [.int y4815, .int z1, .ref (q 37)]
            refine g_callV (n := 2) hk (k224_X0_openQuery l D zt q d I A z1 y4815 hIv) (SP.same _) (fun _ h => h) (gi_V (List.mem_cons_of_mem _ (List.mem_append_left _ (List.mem_of_getElem? (i := 14) rfl))) (List.mem_cons_of_mem _ (List.mem_append_left _ (List.mem_of_getElem? (i := 15) rfl))) (List.mem_cons_of_mem _ (List.mem_append_left _ (List.mem_of_getElem? (i := 16) rfl))) (List.mem_cons_of_mem _ (List.mem_append_left _ (List.mem_of_getElem? (i := 17) rfl))) (gi_sub (fun w h => (List.mem_cons_of_mem _ (List.mem_append_right _ (List.mem_append_right _ (List.mem_append_right _ (List.mem_append_right _ (List.mem_append_right _ (List.mem_append_right _ (List.mem_append_left _ h))))))))) zg_k224_X0_openQuery)) rfl rfl rfl (by decide +kernel) ⟨Nat.le_of_ble_eq_true rfl, Nat.le_of_ble_eq_true rfl⟩ 37 rfl rfl rfl rfl (Nat.le_of_ble_eq_true rfl) ⟨Nat.le_of_ble_eq_true rfl, Nat.le_of_ble_eq_true rfl⟩ dX11_alike_59 (fun v ty' w' hp hk' => ?_)
            obtain ⟨I4817, A4817, hI4817, hA4817, hV4817, rfl, rfl⟩ := hp
            show GW κ 3 0 0 (wX q d I4817 A4817) 62 [(0, .ref (q 0)), (1, .int z1), (2, .int z2)] []
            refine g_aload_n hk dX11_alike_62 rfl ?_
            refine gX_r0_7 hk hin11 (List.mem_cons_of_mem _ (List.mem_append_left _ (List.mem_of_getElem? (i := 8) rfl))) dX11_alike_63 ?_
            refine g_iload_n hk dX11_alike_66 rfl ?_
            refine g_callV (n := 1) hk (k256_X0_laySecondQuery l D zt q d I4817 A4817 z2 hV4817) (SP.same _) (fun _ h => h) (gi_V (List.mem_cons_of_mem _ (List.mem_append_left _ (List.mem_of_getElem? (i := 18) rfl))) (List.mem_cons_of_mem _ (List.mem_append_left _ (List.mem_of_getElem? (i := 19) rfl))) (List.mem_cons_of_mem _ (List.mem_append_left _ (List.mem_of_getElem? (i := 20) rfl))) (List.mem_cons_of_mem _ (List.mem_append_left _ (List.mem_of_getElem? (i := 17) rfl))) (gi_sub (fun w h => (List.mem_cons_of_mem _ (List.mem_append_right _ (List.mem_append_right _ (List.mem_append_right _ (List.mem_append_right _ (List.mem_append_right _ (List.mem_append_right _ (List.mem_append_right _ (List.mem_append_left _ h)))))))))) zg_k256_X0_laySecondQuery)) rfl rfl rfl (by decide +kernel) ⟨Nat.le_of_ble_eq_true rfl, Nat.le_of_ble_eq_true rfl⟩ 37 rfl rfl rfl rfl (Nat.le_of_ble_eq_true rfl) ⟨Nat.le_of_ble_eq_true rfl, Nat.le_of_ble_eq_true rfl⟩ dX11_alike_67 (fun v ty' w' hp hk' => ?_)
            obtain ⟨I4819, A4819, hI4819, hA4819, hV4819, rfl, rfl⟩ := hp
            show GW κ 3 0 0 (wX q d I4819 A4819) 70 [(0, .ref (q 0)), (1, .int z1), (2, .int z2)] []
            refine g_aload_n hk dX11_alike_70 rfl ?_
            refine gX_r0_7 hk hin11 (List.mem_cons_of_mem _ (List.mem_append_left _ (List.mem_of_getElem? (i := 8) rfl))) dX11_alike_71 ?_
            refine gX_r37_3 hk hin0 (List.mem_cons_of_mem _ (List.mem_append_left _ (List.mem_of_getElem? (i := 21) rfl))) dX11_alike_74 ?_
            refine g_callV (n := 0) hk (k232_X2_wholeDistance l D zt q d I4819 A4819  hV4819) (SP.same _) (fun _ h => h) (gi_V (List.mem_cons_of_mem _ (List.mem_append_left _ (List.mem_of_getElem? (i := 22) rfl))) (List.mem_cons_of_mem _ (List.mem_append_left _ (List.mem_of_getElem? (i := 23) rfl))) (List.mem_cons_of_mem _ (List.mem_append_left _ (List.mem_of_getElem? (i := 24) rfl))) (List.mem_cons_of_mem _ (List.mem_append_left _ (List.mem_of_getElem? (i := 25) rfl))) (gi_sub (fun w h => (List.mem_cons_of_mem _ (List.mem_append_right _ (List.mem_append_right _ (List.mem_append_right _ (List.mem_append_right _ (List.mem_append_right _ (List.mem_append_right _ (List.mem_append_right _ (List.mem_append_right _ (List.mem_append_left _ h))))))))))) zg_k232_X2_wholeDistance)) rfl rfl rfl (by decide +kernel) ⟨Nat.le_of_ble_eq_true rfl, Nat.le_of_ble_eq_true rfl⟩ 38 rfl rfl rfl rfl (Nat.le_of_ble_eq_true rfl) ⟨Nat.le_of_ble_eq_true rfl, Nat.le_of_ble_eq_true rfl⟩ dX11_alike_77 (fun v ty' w' hp hk' => ?_)
            obtain ⟨I4821, A4821, hI4821, hA4821, hV4821, y4820, rfl, rfl⟩ := hp
            show GW κ 3 0 0 (wX q d I4821 A4821) 80 [(0, .ref (q 0)), (1, .int z1), (2, .int z2)] [.int y4820]
            have b4822l := Int32.le_toInt y4820
            have b4822h := Int32.toInt_lt y4820
            exact g_iret hk hR rfl ⟨I4821, A4821, (show Md [28, 30, 31, 32, 33, 34] I I4821 from (Md.tr (Md.tr (Md.tr Md.rf hI4817 rfl) hI4819 rfl) hI4821 rfl)), (show Md [21, 22, 23] A A4821 from (Md.tr (Md.tr (Md.tr Md.rf hA4817 rfl) hA4819 rfl) hA4821 rfl)), hV4821, y4820, rfl, rfl⟩ dX11_alike_80
          · skip
            refine g_bipush (v := (-2)) hk dX11_alike_43 (by decide) ?_
            exact g_iret hk hR rfl ⟨I, A, (show Md [28, 30, 31, 32, 33, 34] I I from Md.rf), (show Md [21, 22, 23] A A from Md.rf), hIv, (-2), rfl, rfl⟩ dX11_alike_45
      · skip
        show GW κ 3 0 0 (wX q d I A) 32 [(0, .ref (q 0)), (1, .int z1), (2, .int z2)] [.int y4706]
        refine g_aload_n hk dX11_alike_32 rfl ?_
        refine gX_r0_3 hk hin11 (List.mem_cons_of_mem _ (List.mem_append_left _ (List.mem_of_getElem? (i := 0) rfl))) dX11_alike_33 ?_
        refine g_iload_n hk dX11_alike_36 rfl ?_
        refine g_callV (n := 1) hk (k182_X4_lengthOf l D zt q d I A z2 hIv) (SP.same _) (fun _ h => h) (gi_V (List.mem_cons_of_mem _ (List.mem_append_left _ (List.mem_of_getElem? (i := 5) rfl))) (List.mem_cons_of_mem _ (List.mem_append_left _ (List.mem_of_getElem? (i := 6) rfl))) (List.mem_cons_of_mem _ (List.mem_append_left _ (List.mem_of_getElem? (i := 7) rfl))) (List.mem_cons_of_mem _ (List.mem_append_left _ (List.mem_of_getElem? (i := 4) rfl))) (gi_sub (fun w h => (List.mem_cons_of_mem _ (List.mem_append_right _ (List.mem_append_right _ (List.mem_append_right _ (List.mem_append_right _ (List.mem_append_left _ h))))))) zg_k182_X4_lengthOf)) rfl rfl rfl (by decide +kernel) ⟨Nat.le_of_ble_eq_true rfl, Nat.le_of_ble_eq_true rfl⟩ 15 rfl rfl rfl rfl (Nat.le_of_ble_eq_true rfl) ⟨Nat.le_of_ble_eq_true rfl, Nat.le_of_ble_eq_true rfl⟩ dX11_alike_37 (fun v ty' w' hp hk' => ?_)
        rcases hp with ⟨rfl, rfl⟩ | ⟨y4830, c4824, c4825, c4826, c4827, c4828, c4829, c4831, c4832, rfl, rfl⟩
        · skip
          show GW κ 3 0 0 (wX q d I A) 40 [(0, .ref (q 0)), (1, .int z1), (2, .int z2)] [.int 0, .int y4706]
          refine g_icmp_eq (tgt := 46) (a := y4706.toInt) (b := 0) hk dX11_alike_40 (by decide) rfl rfl (fun c4833 => ?_) (fun c4833 => ?_)
          · skip
            refine g_aload_n hk dX11_alike_46 rfl ?_
            refine gX_r0_7 hk hin11 (List.mem_cons_of_mem _ (List.mem_append_left _ (List.mem_of_getElem? (i := 8) rfl))) dX11_alike_47 ?_
            refine g_iload_n hk dX11_alike_50 rfl ?_
            refine g_aload_n hk dX11_alike_51 rfl ?_
            refine gX_r0_4 hk hin11 (List.mem_cons_of_mem _ (List.mem_append_left _ (List.mem_of_getElem? (i := 9) rfl))) dX11_alike_52 ?_
            refine g_iconst (v := 0) hk dX11_alike_55 (by decide) ?_
            have k4834 : (0 : Int32).toInt = 0 := rfl
            refine g_callV (n := 1) hk (k194_X7_valueOf l D zt q d I A 0 hIv) (SP.same _) (fun _ h => h) (gi_V (List.mem_cons_of_mem _ (List.mem_append_left _ (List.mem_of_getElem? (i := 10) rfl))) (List.mem_cons_of_mem _ (List.mem_append_left _ (List.mem_of_getElem? (i := 11) rfl))) (List.mem_cons_of_mem _ (List.mem_append_left _ (List.mem_of_getElem? (i := 12) rfl))) (List.mem_cons_of_mem _ (List.mem_append_left _ (List.mem_of_getElem? (i := 13) rfl))) (gi_sub (fun w h => (List.mem_cons_of_mem _ (List.mem_append_right _ (List.mem_append_right _ (List.mem_append_right _ (List.mem_append_right _ (List.mem_append_right _ (List.mem_append_left _ h)))))))) zg_k194_X7_valueOf)) rfl rfl rfl (by decide +kernel) ⟨Nat.le_of_ble_eq_true rfl, Nat.le_of_ble_eq_true rfl⟩ 18 rfl rfl rfl rfl (Nat.le_of_ble_eq_true rfl) ⟨Nat.le_of_ble_eq_true rfl, Nat.le_of_ble_eq_true rfl⟩ dX11_alike_56 (fun v ty' w' hp hk' => ?_)
            obtain ⟨y4835, rfl, rfl⟩ := hp
            show GW κ 3 0 0 (wX q d I A) 59 [(0, .ref (q 0)), (1, .int z1), (2, .int z2)] [.int y4835, .int z1, .ref (q 37)]
            refine g_callV (n := 2) hk (k224_X0_openQuery l D zt q d I A z1 y4835 hIv) (SP.same _) (fun _ h => h) (gi_V (List.mem_cons_of_mem _ (List.mem_append_left _ (List.mem_of_getElem? (i := 14) rfl))) (List.mem_cons_of_mem _ (List.mem_append_left _ (List.mem_of_getElem? (i := 15) rfl))) (List.mem_cons_of_mem _ (List.mem_append_left _ (List.mem_of_getElem? (i := 16) rfl))) (List.mem_cons_of_mem _ (List.mem_append_left _ (List.mem_of_getElem? (i := 17) rfl))) (gi_sub (fun w h => (List.mem_cons_of_mem _ (List.mem_append_right _ (List.mem_append_right _ (List.mem_append_right _ (List.mem_append_right _ (List.mem_append_right _ (List.mem_append_right _ (List.mem_append_left _ h))))))))) zg_k224_X0_openQuery)) rfl rfl rfl (by decide +kernel) ⟨Nat.le_of_ble_eq_true rfl, Nat.le_of_ble_eq_true rfl⟩ 37 rfl rfl rfl rfl (Nat.le_of_ble_eq_true rfl) ⟨Nat.le_of_ble_eq_true rfl, Nat.le_of_ble_eq_true rfl⟩ dX11_alike_59 (fun v ty' w' hp hk' => ?_)
            obtain ⟨I4837, A4837, hI4837, hA4837, hV4837, rfl, rfl⟩ := hp
            show GW κ 3 0 0 (wX q d I4837 A4837) 62 [(0, .ref (q 0)), (1, .int z1), (2, .int z2)] []
            refine g_aload_n hk dX11_alike_62 rfl ?_
            refine gX_r0_7 hk hin11 (List.mem_cons_of_mem _ (List.mem_append_left _ (List.mem_of_getElem? (i := 8) rfl))) dX11_alike_63 ?_
            refine g_iload_n hk dX11_alike_66 rfl ?_
            refine g_callV (n := 1) hk (k256_X0_laySecondQuery l D zt q d I4837 A4837 z2 hV4837) (SP.same _) (fun _ h => h) (gi_V (List.mem_cons_of_mem _ (List.mem_append_left _ (List.mem_of_getElem? (i := 18) rfl))) (List.mem_cons_of_mem _ (List.mem_append_left _ (List.mem_of_getElem? (i := 19) rfl))) (List.mem_cons_of_mem _ (List.mem_append_left _ (List.mem_of_getElem? (i := 20) rfl))) (List.mem_cons_of_mem _ (List.mem_append_left _ (List.mem_of_getElem? (i := 17) rfl))) (gi_sub (fun w h => (List.mem_cons_of_mem _ (List.mem_append_right _ (List.mem_append_right _ (List.mem_append_right _ (List.mem_append_right _ (List.mem_append_right _ (List.mem_append_right _ (List.mem_append_right _ (List.mem_append_left _ h)))))))))) zg_k256_X0_laySecondQuery)) rfl rfl rfl (by decide +kernel) ⟨Nat.le_of_ble_eq_true rfl, Nat.le_of_ble_eq_true rfl⟩ 37 rfl rfl rfl rfl (Nat.le_of_ble_eq_true rfl) ⟨Nat.le_of_ble_eq_true rfl, Nat.le_of_ble_eq_true rfl⟩ dX11_alike_67 (fun v ty' w' hp hk' => ?_)
            obtain ⟨I4839, A4839, hI4839, hA4839, hV4839, rfl, rfl⟩ := hp
            show GW κ 3 0 0 (wX q d I4839 A4839) 70 [(0, .ref (q 0)), (1, .int z1), (2, .int z2)] []
            refine g_aload_n hk dX11_alike_70 rfl ?_
            refine gX_r0_7 hk hin11 (List.mem_cons_of_mem _ (List.mem_append_left _ (List.mem_of_getElem? (i := 8) rfl))) dX11_alike_71 ?_
            refine gX_r37_3 hk hin0 (List.mem_cons_of_mem _ (List.mem_append_left _ (List.mem_of_getElem? (i := 21) rfl))) dX11_alike_74 ?_
            refine g_callV (n := 0) hk (k232_X2_wholeDistance l D zt q d I4839 A4839  hV4839) (SP.same _) (fun _ h => h) (gi_V (List.mem_cons_of_mem _ (List.mem_append_left _ (List.mem_of_getElem? (i := 22) rfl))) (List.mem_cons_of_mem _ (List.mem_append_left _ (List.mem_of_getElem? (i := 23) rfl))) (List.mem_cons_of_mem _ (List.mem_append_left _ (List.mem_of_getElem? (i := 24) rfl))) (List.mem_cons_of_mem _ (List.mem_append_left _ (List.mem_of_getElem? (i := 25) rfl))) (gi_sub (fun w h => (List.mem_cons_of_mem _ (List.mem_append_right _ (List.mem_append_right _ (List.mem_append_right _ (List.mem_append_right _ (List.mem_append_right _ (List.mem_append_right _ (List.mem_append_right _ (List.mem_append_right _ (List.mem_append_left _ h))))))))))) zg_k232_X2_wholeDistance)) rfl rfl rfl (by decide +kernel) ⟨Nat.le_of_ble_eq_true rfl, Nat.le_of_ble_eq_true rfl⟩ 38 rfl rfl rfl rfl (Nat.le_of_ble_eq_true rfl) ⟨Nat.le_of_ble_eq_true rfl, Nat.le_of_ble_eq_true rfl⟩ dX11_alike_77 (fun v ty' w' hp hk' => ?_)
            obtain ⟨I4841, A4841, hI4841, hA4841, hV4841, y4840, rfl, rfl⟩ := hp
            show GW κ 3 0 0 (wX q d I4841 A4841) 80 [(0, .ref (q 0)), (1, .int z1), (2, .int z2)] [.int y4840]
            have b4842l := Int32.le_toInt y4840
            have b4842h := Int32.toInt_lt y4840
            exact g_iret hk hR rfl ⟨I4841, A4841, (show Md [28, 30, 31, 32, 33, 34] I I4841 from (Md.tr (Md.tr (Md.tr Md.rf hI4837 rfl) hI4839 rfl) hI4841 rfl)), (show Md [21, 22, 23] A A4841 from (Md.tr (Md.tr (Md.tr Md.rf hA4837 rfl) hA4839 rfl) hA4841 rfl)), hV4841, y4840, rfl, rfl⟩ dX11_alike_80
          · skip
            refine g_bipush (v := (-2)) hk dX11_alike_43 (by decide) ?_
            exact g_iret hk hR rfl ⟨I, A, (show Md [28, 30, 31, 32, 33, 34] I I from Md.rf), (show Md [21, 22, 23] A A from Md.rf), hIv, (-2), rfl, rfl⟩ dX11_alike_45
        · skip
          show GW κ 3 0 0 (wX q d I A) 40 [(0, .ref (q 0)), (1, .int z1), (2, .int z2)] [.int y4830, .int y4706]
          refine g_icmp_eq (tgt := 46) (a := y4706.toInt) (b := y4830.toInt) hk dX11_alike_40 (by decide) rfl rfl (fun c4843 => ?_) (fun c4843 => ?_)
          · skip
            refine g_aload_n hk dX11_alike_46 rfl ?_
            refine gX_r0_7 hk hin11 (List.mem_cons_of_mem _ (List.mem_append_left _ (List.mem_of_getElem? (i := 8) rfl))) dX11_alike_47 ?_
            refine g_iload_n hk dX11_alike_50 rfl ?_
            refine g_aload_n hk dX11_alike_51 rfl ?_
            refine gX_r0_4 hk hin11 (List.mem_cons_of_mem _ (List.mem_append_left _ (List.mem_of_getElem? (i := 9) rfl))) dX11_alike_52 ?_
            refine g_iconst (v := 0) hk dX11_alike_55 (by decide) ?_
            have k4844 : (0 : Int32).toInt = 0 := rfl
            refine g_callV (n := 1) hk (k194_X7_valueOf l D zt q d I A 0 hIv) (SP.same _) (fun _ h => h) (gi_V (List.mem_cons_of_mem _ (List.mem_append_left _ (List.mem_of_getElem? (i := 10) rfl))) (List.mem_cons_of_mem _ (List.mem_append_left _ (List.mem_of_getElem? (i := 11) rfl))) (List.mem_cons_of_mem _ (List.mem_append_left _ (List.mem_of_getElem? (i := 12) rfl))) (List.mem_cons_of_mem _ (List.mem_append_left _ (List.mem_of_getElem? (i := 13) rfl))) (gi_sub (fun w h => (List.mem_cons_of_mem _ (List.mem_append_right _ (List.mem_append_right _ (List.mem_append_right _ (List.mem_append_right _ (List.mem_append_right _ (List.mem_append_left _ h)))))))) zg_k194_X7_valueOf)) rfl rfl rfl (by decide +kernel) ⟨Nat.le_of_ble_eq_true rfl, Nat.le_of_ble_eq_true rfl⟩ 18 rfl rfl rfl rfl (Nat.le_of_ble_eq_true rfl) ⟨Nat.le_of_ble_eq_true rfl, Nat.le_of_ble_eq_true rfl⟩ dX11_alike_56 (fun v ty' w' hp hk' => ?_)
            obtain ⟨y4845, rfl, rfl⟩ := hp
            show GW κ 3 0 0 (wX q d I A) 59 [(0, .ref (q 0)), (1, .int z1), (2, .int z2)] [.int y4845, .int z1, .ref (q 37)]
            refine g_callV (n := 2) hk (k224_X0_openQuery l D zt q d I A z1 y4845 hIv) (SP.same _) (fun _ h => h) (gi_V (List.mem_cons_of_mem _ (List.mem_append_left _ (List.mem_of_getElem? (i := 14) rfl))) (List.mem_cons_of_mem _ (List.mem_append_left _ (List.mem_of_getElem? (i := 15) rfl))) (List.mem_cons_of_mem _ (List.mem_append_left _ (List.mem_of_getElem? (i := 16) rfl))) (List.mem_cons_of_mem _ (List.mem_append_left _ (List.mem_of_getElem? (i := 17) rfl))) (gi_sub (fun w h => (List.mem_cons_of_mem _ (List.mem_append_right _ (List.mem_append_right _ (List.mem_append_right _ (List.mem_append_right _ (List.mem_append_right _ (List.mem_append_right _ (List.mem_append_left _ h))))))))) zg_k224_X0_openQuery)) rfl rfl rfl (by decide +kernel) ⟨Nat.le_of_ble_eq_true rfl, Nat.le_of_ble_eq_true rfl⟩ 37 rfl rfl rfl rfl (Nat.le_of_ble_eq_true rfl) ⟨Nat.le_of_ble_eq_true rfl, Nat.le_of_ble_eq_true rfl⟩ dX11_alike_59 (fun v ty' w' hp hk' => ?_)
            obtain ⟨I4847, A4847, hI4847, hA4847, hV4847, rfl, rfl⟩ := hp
            show GW κ 3 0 0 (wX q d I4847 A4847) 62 [(0, .ref (q 0)), (1, .int z1), (2, .int z2)] []
            refine g_aload_n hk dX11_alike_62 rfl ?_
            refine gX_r0_7 hk hin11 (List.mem_cons_of_mem _ (List.mem_append_left _ (List.mem_of_getElem? (i := 8) rfl))) dX11_alike_63 ?_
            refine g_iload_n hk dX11_alike_66 rfl ?_
            refine g_callV (n := 1) hk (k256_X0_laySecondQuery l D zt q d I4847 A4847 z2 hV4847) (SP.same _) (fun _ h => h) (gi_V (List.mem_cons_of_mem _ (List.mem_append_left _ (List.mem_of_getElem? (i := 18) rfl))) (List.mem_cons_of_mem _ (List.mem_append_left _ (List.mem_of_getElem? (i := 19) rfl))) (List.mem_cons_of_mem _ (List.mem_append_left _ (List.mem_of_getElem? (i := 20) rfl))) (List.mem_cons_of_mem _ (List.mem_append_left _ (List.mem_of_getElem? (i := 17) rfl))) (gi_sub (fun w h => (List.mem_cons_of_mem _ (List.mem_append_right _ (List.mem_append_right _ (List.mem_append_right _ (List.mem_append_right _ (List.mem_append_right _ (List.mem_append_right _ (List.mem_append_right _ (List.mem_append_left _ h)))))))))) zg_k256_X0_laySecondQuery)) rfl rfl rfl (by decide +kernel) ⟨Nat.le_of_ble_eq_true rfl, Nat.le_of_ble_eq_true rfl⟩ 37 rfl rfl rfl rfl (Nat.le_of_ble_eq_true rfl) ⟨Nat.le_of_ble_eq_true rfl, Nat.le_of_ble_eq_true rfl⟩ dX11_alike_67 (fun v ty' w' hp hk' => ?_)
            obtain ⟨I4849, A4849, hI4849, hA4849, hV4849, rfl, rfl⟩ := hp
            show GW κ 3 0 0 (wX q d I4849 A4849) 70 [(0, .ref (q 0)), (1, .int z1), (2, .int z2)] []
            refine g_aload_n hk dX11_alike_70 rfl ?_
            refine gX_r0_7 hk hin11 (List.mem_cons_of_mem _ (List.mem_append_left _ (List.mem_of_getElem? (i := 8) rfl))) dX11_alike_71 ?_
            refine gX_r37_3 hk hin0 (List.mem_cons_of_mem _ (List.mem_append_left _ (List.mem_of_getElem? (i := 21) rfl))) dX11_alike_74 ?_
            refine g_callV (n := 0) hk (k232_X2_wholeDistance l D zt q d I4849 A4849  hV4849) (SP.same _) (fun _ h => h) (gi_V (List.mem_cons_of_mem _ (List.mem_append_left _ (List.mem_of_getElem? (i := 22) rfl))) (List.mem_cons_of_mem _ (List.mem_append_left _ (List.mem_of_getElem? (i := 23) rfl))) (List.mem_cons_of_mem _ (List.mem_append_left _ (List.mem_of_getElem? (i := 24) rfl))) (List.mem_cons_of_mem _ (List.mem_append_left _ (List.mem_of_getElem? (i := 25) rfl))) (gi_sub (fun w h => (List.mem_cons_of_mem _ (List.mem_append_right _ (List.mem_append_right _ (List.mem_append_right _ (List.mem_append_right _ (List.mem_append_right _ (List.mem_append_right _ (List.mem_append_right _ (List.mem_append_right _ (List.mem_append_left _ h))))))))))) zg_k232_X2_wholeDistance)) rfl rfl rfl (by decide +kernel) ⟨Nat.le_of_ble_eq_true rfl, Nat.le_of_ble_eq_true rfl⟩ 38 rfl rfl rfl rfl (Nat.le_of_ble_eq_true rfl) ⟨Nat.le_of_ble_eq_true rfl, Nat.le_of_ble_eq_true rfl⟩ dX11_alike_77 (fun v ty' w' hp hk' => ?_)
            obtain ⟨I4851, A4851, hI4851, hA4851, hV4851, y4850, rfl, rfl⟩ := hp
            show GW κ 3 0 0 (wX q d I4851 A4851) 80 [(0, .ref (q 0)), (1, .int z1), (2, .int z2)] [.int y4850]
            have b4852l := Int32.le_toInt y4850
            have b4852h := Int32.toInt_lt y4850
            exact g_iret hk hR rfl ⟨I4851, A4851, (show Md [28, 30, 31, 32, 33, 34] I I4851 from (Md.tr (Md.tr (Md.tr Md.rf hI4847 rfl) hI4849 rfl) hI4851 rfl)), (show Md [21, 22, 23] A A4851 from (Md.tr (Md.tr (Md.tr Md.rf hA4847 rfl) hA4849 rfl) hA4851 rfl)), hV4851, y4850, rfl, rfl⟩ dX11_alike_80
          · skip
            refine g_bipush (v := (-2)) hk dX11_alike_43 (by decide) ?_
            exact g_iret hk hR rfl ⟨I, A, (show Md [28, 30, 31, 32, 33, 34] I I from Md.rf), (show Md [21, 22, 23] A A from Md.rf), hIv, (-2), rfl, rfl⟩ dX11_alike_45
def wo_k259_X1_nearestQuery : List Cond := [Cond.constant RX1 44 (2147483647), Cond.fieldLink RX1 43 "WarpDesk$Finder" "queries" "LWarpDesk$Queries;", Cond.fieldLink RX1 161 "WarpDesk$Queries" "size" "I", Cond.methodLink RX1 65 yX4_lengthOf, Cond.instanceMethod yX4_lengthOf, Cond.selects RX4 yX4_lengthOf yX4_lengthOf, Cond.initialized RX4, Cond.fieldLink RX1 28 "WarpDesk$Finder" "bench" "LWarpDesk$Bench;", Cond.methodLink RX1 162 yX0_openBoth, Cond.instanceMethod yX0_openBoth, Cond.selects RX0 yX0_openBoth yX0_openBoth, Cond.initialized RX0, Cond.fieldLink RX1 78 "WarpDesk$Bench" "fit" "LWarpDesk$Fit;", Cond.methodLink RX1 113 yX2_wholeDistance, Cond.instanceMethod yX2_wholeDistance, Cond.selects RX2 yX2_wholeDistance yX2_wholeDistance, Cond.initialized RX2]
def wz_k259_X1_nearestQuery : List Cond := .code yX1_nearestQuery cX1_nearestQuery 7 (some .int) :: (wo_k259_X1_nearestQuery ++ (wsX00 ++ (wsX10 ++ (wsX40 ++ (wz_k182_X4_lengthOf ++ (wz_k222_X0_openBoth ++ (wz_k232_X2_wholeDistance ++ ([] : List Cond))))))))
theorem zg_k259_X1_nearestQuery : ∀ w ∈ wz_k259_X1_nearestQuery, goodWord w = true := zg_cons rfl (zg_app (by decide +kernel) (zg_app zgU_wsX00 (zg_app zgU_wsX10 (zg_app zgU_wsX40 (zg_app zg_k182_X4_lengthOf (zg_app zg_k222_X0_openBoth (zg_app zg_k232_X2_wholeDistance zg_nil)))))))
theorem zi_k259_X1_nearestQuery : ∀ w ∈ wz_k259_X1_nearestQuery, w ∈ lw_tbl := zi_cons zw_1100 (zi_app (zi_cons zw_1101 (zi_cons zw_404 (zi_cons zw_221 (zi_cons zw_1102 (zi_cons zw_757 (zi_cons zw_758 (zi_cons zw_108 (zi_cons zw_402 (zi_cons zw_1103 (zi_cons zw_970 (zi_cons zw_971 (zi_cons zw_111 (zi_cons zw_382 (zi_cons zw_1104 (zi_cons zw_993 (zi_cons zw_994 (zi_cons zw_112 zi_nil))))))))))))))))) (zi_app inX0 (zi_app inX1 (zi_app inX4 (zi_app zi_k182_X4_lengthOf (zi_app zi_k222_X0_openBoth (zi_app zi_k232_X2_wholeDistance zi_nil)))))))
set_option maxHeartbeats 4000000 in
set_option maxRecDepth 100000 in
theorem k259_X1_nearestQuery (l : Launch) (D : va_G) (zt : Nat × Nat × Nat × (Nat → Nat) × (Nat → Nat)) (q : Nat → Nat) (d : Nat → ClassId) (I : Nat → Int32) (A : Nat → Nat → Int32) (z1 : Int32) (z2 : Int32) (hIv : IvX I A) : GM l D zt (tyX d) yX1_nearestQuery wz_k259_X1_nearestQuery ({ frames := 6, cells := 0, slots := 0, locals := 131 } : Room) [.ref (q 43), .int z1, .int z2] (wX q d I A) (fun v _ w' => ∃ (I' : Nat → Int32) (A' : Nat → Nat → Int32), Md [28, 30, 31, 32, 33, 34] I I' ∧ Md [21, 22, 23] A A' ∧ IvX I' A' ∧ ∃ y0 : Int32, ((-2) ≤ y0.toInt) ∧ (y0.toInt ≤ 2147483646) ∧ v = some (.int y0) ∧ w' = wX q d I' A') 0 0 := by
  refine GM.of (cc := cX1_nearestQuery) (maxL := 7) (ret := (some .int)) (own := RX1) (lv := [(0, .ref (q 43)), (1, .int z1), (2, .int z2)]) (by decide) rfl rfl (Nat.le_of_ble_eq_true rfl) rfl (fun κ sz hk hR hN => ?_)
  have hin0 : ∀ w ∈ u_ws RX0 TX0 5, w ∈ wz_k259_X1_nearestQuery := fun w h => (List.mem_cons_of_mem _ (List.mem_append_right _ (List.mem_append_left _ h)))
  have hin1 : ∀ w ∈ u_ws RX1 TX1 11, w ∈ wz_k259_X1_nearestQuery := fun w h => (List.mem_cons_of_mem _ (List.mem_append_right _ (List.mem_append_right _ (List.mem_append_left _ h))))
  have hin4 : ∀ w ∈ u_ws RX4 TX4 3, w ∈ wz_k259_X1_nearestQuery := fun w h => (List.mem_cons_of_mem _ (List.mem_append_right _ (List.mem_append_right _ (List.mem_append_right _ (List.mem_append_left _ h)))))
  refine g_bipush (v := (-2)) hk dX1_nearestQuery_0 (by decide) ?_
  refine g_istore_n (lv' := [(3, .int (-2)), (0, .ref (q 43)), (1, .int z1), (2, .int z2)]) hk dX1_nearestQuery_2 (by decide) rfl ?_
  refine g_ldc (v := 2147483647) hk (List.mem_cons_of_mem _ (List.mem_append_left _ (List.mem_of_getElem? (i := 0) rfl))) dX1_nearestQuery_3 ?_
  refine g_istore (lv' := [(4, .int 2147483647), (3, .int (-2)), (0, .ref (q 43)), (1, .int z1), (2, .int z2)]) hk dX1_nearestQuery_5 (by decide) rfl ?_
  refine g_iconst (v := 0) hk dX1_nearestQuery_7 (by decide) ?_
  refine g_istore (lv' := [(5, .int 0), (4, .int 2147483647), (3, .int (-2)), (0, .ref (q 43)), (1, .int z1), (2, .int z2)]) hk dX1_nearestQuery_8 (by decide) rfl ?_
  have lp5040 : ∀ (n5041 : Nat) (x4861 : Int32) (x4862 : Int32) (x4863 : Int32) (I4867 : Nat → Int32) (A4867 : Nat → Nat → Int32), (Md [28, 30, 31, 32, 33, 34] I I4867) → (Md [21, 22, 23] A A4867) → (IvX I4867 A4867) → (0 ≤ x4861.toInt) → ((-2) ≤ x4863.toInt) → (x4863.toInt ≤ 2147483646) → ((I 19).toInt + 1 - x4861.toInt < (n5041 : Int)) → (0 < n5041) → GW κ 7 0 0 (wX q d I4867 A4867) 10 [(5, .int x4861), (4, .int x4862), (3, .int x4863), (0, .ref (q 43)), (1, .int z1), (2, .int z2)] [] := by
    intro n5041
    induction n5041 with
    | zero =>
      intro x4861 x4862 x4863 I4867 A4867 hI4867 hA4867 hV4867 h5037 h5038 h5039 m5042 m5042z
      exact absurd m5042z (Nat.lt_irrefl 0)
    | succ n5041 ih =>
      intro x4861 x4862 x4863 I4867 A4867 hI4867 hA4867 hV4867 h5037 h5038 h5039 m5042 m5042z
      refine g_iload hk dX1_nearestQuery_10 rfl ?_
      refine g_aload_n hk dX1_nearestQuery_12 rfl ?_
      refine gX_r43_2 hk hin1 (List.mem_cons_of_mem _ (List.mem_append_left _ (List.mem_of_getElem? (i := 1) rfl))) dX1_nearestQuery_13 ?_
      refine gX_i19 (v := (I 19)) hk hin4 (List.mem_cons_of_mem _ (List.mem_append_left _ (List.mem_of_getElem? (i := 2) rfl))) dX1_nearestQuery_16 (hI4867 19 rfl) ?_
      have b5043l := Int32.le_toInt x4861
      have b5043h := Int32.toInt_lt x4861
      have b5044l := Int32.le_toInt (I 19)
      have b5044h := Int32.toInt_lt (I 19)
      refine g_icmp_ge (tgt := 80) (a := x4861.toInt) (b := (I 19).toInt) hk dX1_nearestQuery_19 (by decide) rfl rfl (fun c5045 => ?_) (fun c5045 => ?_)
      · skip
        refine g_iload_n hk dX1_nearestQuery_80 rfl ?_
        exact g_iret hk hR rfl ⟨I4867, A4867, (show Md [28, 30, 31, 32, 33, 34] I I4867 from (Md.tr Md.rf hI4867 rfl)), (show Md [21, 22, 23] A A4867 from (Md.tr Md.rf hA4867 rfl)), hV4867, x4863, (by omega), (by omega), rfl, rfl⟩ dX1_nearestQuery_81
      · skip
        refine g_aload_n hk dX1_nearestQuery_22 rfl ?_
        refine gX_r43_2 hk hin1 (List.mem_cons_of_mem _ (List.mem_append_left _ (List.mem_of_getElem? (i := 1) rfl))) dX1_nearestQuery_23 ?_
        refine g_iload hk dX1_nearestQuery_26 rfl ?_
        refine g_callV (n := 1) hk (k182_X4_lengthOf l D zt q d I4867 A4867 x4861 hV4867) (SP.same _) (fun _ h => h) (gi_V (List.mem_cons_of_mem _ (List.mem_append_left _ (List.mem_of_getElem? (i := 3) rfl))) (List.mem_cons_of_mem _ (List.mem_append_left _ (List.mem_of_getElem? (i := 4) rfl))) (List.mem_cons_of_mem _ (List.mem_append_left _ (List.mem_of_getElem? (i := 5) rfl))) (List.mem_cons_of_mem _ (List.mem_append_left _ (List.mem_of_getElem? (i := 6) rfl))) (gi_sub (fun w h => (List.mem_cons_of_mem _ (List.mem_append_right _ (List.mem_append_right _ (List.mem_append_right _ (List.mem_append_right _ (List.mem_append_left _ h))))))) zg_k182_X4_lengthOf)) rfl rfl rfl (by decide +kernel) ⟨Nat.le_of_ble_eq_true rfl, Nat.le_of_ble_eq_true rfl⟩ 15 rfl rfl rfl rfl (Nat.le_of_ble_eq_true rfl) ⟨Nat.le_of_ble_eq_true rfl, Nat.le_of_ble_eq_true rfl⟩ dX1_nearestQuery_28 (fun v ty' w' hp hk' => ?_)
        rcases hp with ⟨rfl, rfl⟩ | ⟨y5053, c5047, c5048, c5049, c5050, c5051, c5052, c5054, c5055, rfl, rfl⟩
        · skip
          show GW κ 7 0 0 (wX q d I4867 A4867) 31 [(5, .int x4861), (4, .int x4862), (3, .int x4863), (0, .ref (q 43)), (1, .int z1), (2, .int z2)] [.int 0]
          refine g_iload_n hk dX1_nearestQuery_31 rfl ?_
          have b5056l := Int32.le_toInt z2
          have b5056h := Int32.toInt_lt z2
          refine g_icmp_ne (tgt := 74) (a := 0) (b := z2.toInt) hk dX1_nearestQuery_32 (by decide) rfl rfl (fun c5057 => ?_) (fun c5057 => ?_)
          · skip
            obtain ⟨y5058, ey5058⟩ : ∃ y : Int32, y = x4861 + Int32.ofInt 1 := ⟨_, rfl⟩
            have hy5058 : y5058.toInt = x4861.toInt + 1 := i32_add ey5058 rfl (by decide) (by omega) (by omega)
            refine g_iinc (v := y5058) (lv' := [(5, .int y5058), (4, .int x4862), (3, .int x4863), (0, .ref (q 43)), (1, .int z1), (2, .int z2)]) hk 0 dX1_nearestQuery_74 rfl ey5058.symm (by decide) rfl ?_
            refine g_goto (tgt := 10) hk dX1_nearestQuery_77 (by decide) ?_
            exact g_lv (List.forall_mem_cons.mpr ⟨List.mem_of_getElem? (i := 0) rfl, (List.forall_mem_cons.mpr ⟨List.mem_of_getElem? (i := 1) rfl, (List.forall_mem_cons.mpr ⟨List.mem_of_getElem? (i := 2) rfl, (List.forall_mem_cons.mpr ⟨List.mem_of_getElem? (i := 3) rfl, (List.forall_mem_cons.mpr ⟨List.mem_of_getElem? (i := 4) rfl, (List.forall_mem_cons.mpr ⟨List.mem_of_getElem? (i := 5) rfl, (fun _ h => absurd h List.not_mem_nil)⟩)⟩)⟩)⟩)⟩)⟩) (ih y5058 x4862 x4863 I4867 A4867 (show Md [28, 30, 31, 32, 33, 34] I I4867 from Md.tr hI4867 (show Md [28, 30, 31, 32, 33, 34] I4867 I4867 from Md.rf) rfl) (show Md [21, 22, 23] A A4867 from Md.tr hA4867 (show Md [21, 22, 23] A4867 A4867 from Md.rf) rfl) hV4867 (by omega) (by omega) (by omega) (by omega) (by omega))
          · skip
            refine g_aload_n hk dX1_nearestQuery_35 rfl ?_
            refine gX_r43_0 hk hin1 (List.mem_cons_of_mem _ (List.mem_append_left _ (List.mem_of_getElem? (i := 7) rfl))) dX1_nearestQuery_36 ?_
            refine g_iload hk dX1_nearestQuery_39 rfl ?_
            refine g_iload_n hk dX1_nearestQuery_41 rfl ?_
            refine g_callV (n := 2) hk (k222_X0_openBoth l D zt q d I4867 A4867 x4861 z1 hV4867) (SP.same _) (fun _ h => h) (gi_V (List.mem_cons_of_mem _ (List.mem_append_left _ (List.mem_of_getElem? (i := 8) rfl))) (List.mem_cons_of_mem _ (List.mem_append_left _ (List.mem_of_getElem? (i := 9) rfl))) (List.mem_cons_of_mem _ (List.mem_append_left _ (List.mem_of_getElem? (i := 10) rfl))) (List.mem_cons_of_mem _ (List.mem_append_left _ (List.mem_of_getElem? (i := 11) rfl))) (gi_sub (fun w h => (List.mem_cons_of_mem _ (List.mem_append_right _ (List.mem_append_right _ (List.mem_append_right _ (List.mem_append_right _ (List.mem_append_right _ (List.mem_append_left _ h)))))))) zg_k222_X0_openBoth)) rfl rfl rfl (by decide +kernel) ⟨Nat.le_of_ble_eq_true rfl, Nat.le_of_ble_eq_true rfl⟩ 37 rfl rfl rfl rfl (Nat.le_of_ble_eq_true rfl) ⟨Nat.le_of_ble_eq_true rfl, Nat.le_of_ble_eq_true rfl⟩ dX1_nearestQuery_42 (fun v ty' w' hp hk' => ?_)
            obtain ⟨I5062, A5062, hI5062, hA5062, hV5062, y5059, c5060, c5061, rfl, rfl⟩ := hp
            show GW κ 7 0 0 (wX q d I5062 A5062) 45 [(5, .int x4861), (4, .int x4862), (3, .int x4863), (0, .ref (q 43)), (1, .int z1), (2, .int z2)] [.int y5059]
            refine g_if_eq (tgt := 74) (a := y5059.toInt) hk dX1_nearestQuery_45 (by decide) rfl (fun c5063 => ?_) (fun c5063 => ?_)
            · skip
              obtain ⟨y5064, ey5064⟩ : ∃ y : Int32, y = x4861 + Int32.ofInt 1 := ⟨_, rfl⟩
              have hy5064 : y5064.toInt = x4861.toInt + 1 := i32_add ey5064 rfl (by decide) (by omega) (by omega)
              refine g_iinc (v := y5064) (lv' := [(5, .int y5064), (4, .int x4862), (3, .int x4863), (0, .ref (q 43)), (1, .int z1), (2, .int z2)]) hk 0 dX1_nearestQuery_74 rfl ey5064.symm (by decide) rfl ?_
              refine g_goto (tgt := 10) hk dX1_nearestQuery_77 (by decide) ?_
              exact g_lv (List.forall_mem_cons.mpr ⟨List.mem_of_getElem? (i := 0) rfl, (List.forall_mem_cons.mpr ⟨List.mem_of_getElem? (i := 1) rfl, (List.forall_mem_cons.mpr ⟨List.mem_of_getElem? (i := 2) rfl, (List.forall_mem_cons.mpr ⟨List.mem_of_getElem? (i := 3) rfl, (List.forall_mem_cons.mpr ⟨List.mem_of_getElem? (i := 4) rfl, (List.forall_mem_cons.mpr ⟨List.mem_of_getElem? (i := 5) rfl, (fun _ h => absurd h List.not_mem_nil)⟩)⟩)⟩)⟩)⟩)⟩) (ih y5064 x4862 x4863 I5062 A5062 (show Md [28, 30, 31, 32, 33, 34] I I5062 from Md.tr hI4867 (show Md [28, 30, 31, 32, 33, 34] I4867 I5062 from (Md.tr Md.rf hI5062 rfl)) rfl) (show Md [21, 22, 23] A A5062 from Md.tr hA4867 (show Md [21, 22, 23] A4867 A5062 from (Md.tr Md.rf hA5062 rfl)) rfl) hV5062 (by omega) (by omega) (by omega) (by omega) (by omega))
            · skip
              refine g_aload_n hk dX1_nearestQuery_48 rfl ?_
              refine gX_r43_0 hk hin1 (List.mem_cons_of_mem _ (List.mem_append_left _ (List.mem_of_getElem? (i := 7) rfl))) dX1_nearestQuery_49 ?_
              refine gX_r37_3 hk hin0 (List.mem_cons_of_mem _ (List.mem_append_left _ (List.mem_of_getElem? (i := 12) rfl))) dX1_nearestQuery_52 ?_
              refine g_callV (n := 0) hk (k232_X2_wholeDistance l D zt q d I5062 A5062  hV5062) (SP.same _) (fun _ h => h) (gi_V (List.mem_cons_of_mem _ (List.mem_append_left _ (List.mem_of_getElem? (i := 13) rfl))) (List.mem_cons_of_mem _ (List.mem_append_left _ (List.mem_of_getElem? (i := 14) rfl))) (List.mem_cons_of_mem _ (List.mem_append_left _ (List.mem_of_getElem? (i := 15) rfl))) (List.mem_cons_of_mem _ (List.mem_append_left _ (List.mem_of_getElem? (i := 16) rfl))) (gi_sub (fun w h => (List.mem_cons_of_mem _ (List.mem_append_right _ (List.mem_append_right _ (List.mem_append_right _ (List.mem_append_right _ (List.mem_append_right _ (List.mem_append_right _ (List.mem_append_left _ h))))))))) zg_k232_X2_wholeDistance)) rfl rfl rfl (by decide +kernel) ⟨Nat.le_of_ble_eq_true rfl, Nat.le_of_ble_eq_true rfl⟩ 38 rfl rfl rfl rfl (Nat.le_of_ble_eq_true rfl) ⟨Nat.le_of_ble_eq_true rfl, Nat.le_of_ble_eq_true rfl⟩ dX1_nearestQuery_55 (fun v ty' w' hp hk' => ?_)
              obtain ⟨I5066, A5066, hI5066, hA5066, hV5066, y5065, rfl, rfl⟩ := hp
              show GW κ 7 0 0 (wX q d I5066 A5066) 58 [(5, .int x4861), (4, .int x4862), (3, .int x4863), (0, .ref (q 43)), (1, .int z1), (2, .int z2)] [.int y5065]
              refine g_istore (lv' := [(6, .int y5065), (5, .int x4861), (4, .int x4862), (3, .int x4863), (0, .ref (q 43)), (1, .int z1), (2, .int z2)]) hk dX1_nearestQuery_58 (by decide) rfl ?_
              refine g_iload hk dX1_nearestQuery_60 rfl ?_
              refine g_iload hk dX1_nearestQuery_62 rfl ?_
              have b5067l := Int32.le_toInt y5065
              have b5067h := Int32.toInt_lt y5065
              have b5068l := Int32.le_toInt x4862
              have b5068h := Int32.toInt_lt x4862
              refine g_icmp_ge (tgt := 74) (a := y5065.toInt) (b := x4862.toInt) hk dX1_nearestQuery_64 (by decide) rfl rfl (fun c5069 => ?_) (fun c5069 => ?_)
              · skip
                obtain ⟨y5070, ey5070⟩ : ∃ y : Int32, y = x4861 + Int32.ofInt 1 := ⟨_, rfl⟩
                have hy5070 : y5070.toInt = x4861.toInt + 1 := i32_add ey5070 rfl (by decide) (by omega) (by omega)
                refine g_iinc (v := y5070) (lv' := [(5, .int y5070), (6, .int y5065), (4, .int x4862), (3, .int x4863), (0, .ref (q 43)), (1, .int z1), (2, .int z2)]) hk 1 dX1_nearestQuery_74 rfl ey5070.symm (by decide) rfl ?_
                refine g_goto (tgt := 10) hk dX1_nearestQuery_77 (by decide) ?_
                exact g_lv (List.forall_mem_cons.mpr ⟨List.mem_of_getElem? (i := 0) rfl, (List.forall_mem_cons.mpr ⟨List.mem_of_getElem? (i := 2) rfl, (List.forall_mem_cons.mpr ⟨List.mem_of_getElem? (i := 3) rfl, (List.forall_mem_cons.mpr ⟨List.mem_of_getElem? (i := 4) rfl, (List.forall_mem_cons.mpr ⟨List.mem_of_getElem? (i := 5) rfl, (List.forall_mem_cons.mpr ⟨List.mem_of_getElem? (i := 6) rfl, (fun _ h => absurd h List.not_mem_nil)⟩)⟩)⟩)⟩)⟩)⟩) (ih y5070 x4862 x4863 I5066 A5066 (show Md [28, 30, 31, 32, 33, 34] I I5066 from Md.tr hI4867 (show Md [28, 30, 31, 32, 33, 34] I4867 I5066 from (Md.tr (Md.tr Md.rf hI5062 rfl) hI5066 rfl)) rfl) (show Md [21, 22, 23] A A5066 from Md.tr hA4867 (show Md [21, 22, 23] A4867 A5066 from (Md.tr (Md.tr Md.rf hA5062 rfl) hA5066 rfl)) rfl) hV5066 (by omega) (by omega) (by omega) (by omega) (by omega))
              · skip
                refine g_iload hk dX1_nearestQuery_67 rfl ?_
                refine g_istore (lv' := [(4, .int y5065), (6, .int y5065), (5, .int x4861), (3, .int x4863), (0, .ref (q 43)), (1, .int z1), (2, .int z2)]) hk dX1_nearestQuery_69 (by decide) rfl ?_
                refine g_iload hk dX1_nearestQuery_71 rfl ?_
                refine g_istore_n (lv' := [(3, .int x4861), (4, .int y5065), (6, .int y5065), (5, .int x4861), (0, .ref (q 43)), (1, .int z1), (2, .int z2)]) hk dX1_nearestQuery_73 (by decide) rfl ?_
                obtain ⟨y5071, ey5071⟩ : ∃ y : Int32, y = x4861 + Int32.ofInt 1 := ⟨_, rfl⟩
                have hy5071 : y5071.toInt = x4861.toInt + 1 := i32_add ey5071 rfl (by decide) (by omega) (by omega)
                refine g_iinc (v := y5071) (lv' := [(5, .int y5071), (3, .int x4861), (4, .int y5065), (6, .int y5065), (0, .ref (q 43)), (1, .int z1), (2, .int z2)]) hk 3 dX1_nearestQuery_74 rfl ey5071.symm (by decide) rfl ?_
                refine g_goto (tgt := 10) hk dX1_nearestQuery_77 (by decide) ?_
                exact g_lv (List.forall_mem_cons.mpr ⟨List.mem_of_getElem? (i := 0) rfl, (List.forall_mem_cons.mpr ⟨List.mem_of_getElem? (i := 2) rfl, (List.forall_mem_cons.mpr ⟨List.mem_of_getElem? (i := 1) rfl, (List.forall_mem_cons.mpr ⟨List.mem_of_getElem? (i := 4) rfl, (List.forall_mem_cons.mpr ⟨List.mem_of_getElem? (i := 5) rfl, (List.forall_mem_cons.mpr ⟨List.mem_of_getElem? (i := 6) rfl, (fun _ h => absurd h List.not_mem_nil)⟩)⟩)⟩)⟩)⟩)⟩) (ih y5071 y5065 x4861 I5066 A5066 (show Md [28, 30, 31, 32, 33, 34] I I5066 from Md.tr hI4867 (show Md [28, 30, 31, 32, 33, 34] I4867 I5066 from (Md.tr (Md.tr Md.rf hI5062 rfl) hI5066 rfl)) rfl) (show Md [21, 22, 23] A A5066 from Md.tr hA4867 (show Md [21, 22, 23] A4867 A5066 from (Md.tr (Md.tr Md.rf hA5062 rfl) hA5066 rfl)) rfl) hV5066 (by omega) (by omega) (by omega) (by omega) (by omega))
        · skip
          show GW κ 7 0 0 (wX q d I4867 A4867) 31 [(5, .int x4861), (4, .int x4862), (3, .int x4863), (0, .ref (q 43)), (1, .int z1), (2, .int z2)] [.int y5053]
          refine g_iload_n hk dX1_nearestQuery_31 rfl ?_
          have b5072l := Int32.le_toInt z2
          have b5072h := Int32.toInt_lt z2
          refine g_icmp_ne (tgt := 74) (a := y5053.toInt) (b := z2.toInt) hk dX1_nearestQuery_32 (by decide) rfl rfl (fun c5073 => ?_) (fun c5073 => ?_)
          · skip
            obtain ⟨y5074, ey5074⟩ : ∃ y : Int32, y = x4861 + Int32.ofInt 1 := ⟨_, rfl⟩
            have hy5074 : y5074.toInt = x4861.toInt + 1 := i32_add ey5074 rfl (by decide) (by omega) (by omega)
            refine g_iinc (v := y5074) (lv' := [(5, .int y5074), (4, .int x4862), (3, .int x4863), (0, .ref (q 43)), (1, .int z1), (2, .int z2)]) hk 0 dX1_nearestQuery_74 rfl ey5074.symm (by decide) rfl ?_
            refine g_goto (tgt := 10) hk dX1_nearestQuery_77 (by decide) ?_
            exact g_lv (List.forall_mem_cons.mpr ⟨List.mem_of_getElem? (i := 0) rfl, (List.forall_mem_cons.mpr ⟨List.mem_of_getElem? (i := 1) rfl, (List.forall_mem_cons.mpr ⟨List.mem_of_getElem? (i := 2) rfl, (List.forall_mem_cons.mpr ⟨List.mem_of_getElem? (i := 3) rfl, (List.forall_mem_cons.mpr ⟨List.mem_of_getElem? (i := 4) rfl, (List.forall_mem_cons.mpr ⟨List.mem_of_getElem? (i := 5) rfl, (fun _ h => absurd h List.not_mem_nil)⟩)⟩)⟩)⟩)⟩)⟩) (ih y5074 x4862 x4863 I4867 A4867 (show Md [28, 30, 31, 32, 33, 34] I I4867 from Md.tr hI4867 (show Md [28, 30, 31, 32, 33, 34] I4867 I4867 from Md.rf) rfl) (show Md [21, 22, 23] A A4867 from Md.tr hA4867 (show Md [21, 22, 23] A4867 A4867 from Md.rf) rfl) hV4867 (by omega) (by omega) (by omega) (by omega) (by omega))
          · skip
            refine g_aload_n hk dX1_nearestQuery_35 rfl ?_
            refine gX_r43_0 hk hin1 (List.mem_cons_of_mem _ (List.mem_append_left _ (List.mem_of_getElem? (i := 7) rfl))) dX1_nearestQuery_36 ?_
            refine g_iload hk dX1_nearestQuery_39 rfl ?_
            refine g_iload_n hk dX1_nearestQuery_41 rfl ?_
            refine g_callV (n := 2) hk (k222_X0_openBoth l D zt q d I4867 A4867 x4861 z1 hV4867) (SP.same _) (fun _ h => h) (gi_V (List.mem_cons_of_mem _ (List.mem_append_left _ (List.mem_of_getElem? (i := 8) rfl))) (List.mem_cons_of_mem _ (List.mem_append_left _ (List.mem_of_getElem? (i := 9) rfl))) (List.mem_cons_of_mem _ (List.mem_append_left _ (List.mem_of_getElem? (i := 10) rfl))) (List.mem_cons_of_mem _ (List.mem_append_left _ (List.mem_of_getElem? (i := 11) rfl))) (gi_sub (fun w h => (List.mem_cons_of_mem _ (List.mem_append_right _ (List.mem_append_right _ (List.mem_append_right _ (List.mem_append_right _ (List.mem_append_right _ (List.mem_append_left _ h)))))))) zg_k222_X0_openBoth)) rfl rfl rfl (by decide +kernel) ⟨Nat.le_of_ble_eq_true rfl, Nat.le_of_ble_eq_true rfl⟩ 37 rfl rfl rfl rfl (Nat.le_of_ble_eq_true rfl) ⟨Nat.le_of_ble_eq_true rfl, Nat.le_of_ble_eq_true rfl⟩ dX1_nearestQuery_42 (fun v ty' w' hp hk' => ?_)
            obtain ⟨I5078, A5078, hI5078, hA5078, hV5078, y5075, c5076, c5077, rfl, rfl⟩ := hp
            show GW κ 7 0 0 (wX q d I5078 A5078) 45 [(5, .int x4861), (4, .int x4862), (3, .int x4863), (0, .ref (q 43)), (1, .int z1), (2, .int z2)] [.int y5075]
            refine g_if_eq (tgt := 74) (a := y5075.toInt) hk dX1_nearestQuery_45 (by decide) rfl (fun c5079 => ?_) (fun c5079 => ?_)
            · skip
              obtain ⟨y5080, ey5080⟩ : ∃ y : Int32, y = x4861 + Int32.ofInt 1 := ⟨_, rfl⟩
              have hy5080 : y5080.toInt = x4861.toInt + 1 := i32_add ey5080 rfl (by decide) (by omega) (by omega)
              refine g_iinc (v := y5080) (lv' := [(5, .int y5080), (4, .int x4862), (3, .int x4863), (0, .ref (q 43)), (1, .int z1), (2, .int z2)]) hk 0 dX1_nearestQuery_74 rfl ey5080.symm (by decide) rfl ?_
              refine g_goto (tgt := 10) hk dX1_nearestQuery_77 (by decide) ?_
              exact g_lv (List.forall_mem_cons.mpr ⟨List.mem_of_getElem? (i := 0) rfl, (List.forall_mem_cons.mpr ⟨List.mem_of_getElem? (i := 1) rfl, (List.forall_mem_cons.mpr ⟨List.mem_of_getElem? (i := 2) rfl, (List.forall_mem_cons.mpr ⟨List.mem_of_getElem? (i := 3) rfl, (List.forall_mem_cons.mpr ⟨List.mem_of_getElem? (i := 4) rfl, (List.forall_mem_cons.mpr ⟨List.mem_of_getElem? (i := 5) rfl, (fun _ h => absurd h List.not_mem_nil)⟩)⟩)⟩)⟩)⟩)⟩) (ih y5080 x4862 x4863 I5078 A5078 (show Md [28, 30, 31, 32, 33, 34] I I5078 from Md.tr hI4867 (show Md [28, 30, 31, 32, 33, 34] I4867 I5078 from (Md.tr Md.rf hI5078 rfl)) rfl) (show Md [21, 22, 23] A A5078 from Md.tr hA4867 (show Md [21, 22, 23] A4867 A5078 from (Md.tr Md.rf hA5078 rfl)) rfl) hV5078 (by omega) (by omega) (by omega) (by omega) (by omega))
            · skip
              refine g_aload_n hk dX1_nearestQuery_48 rfl ?_
              refine gX_r43_0 hk hin1 (List.mem_cons_of_mem _ (List.mem_append_left _ (List.mem_of_getElem? (i := 7) rfl))) dX1_nearestQuery_49 ?_
              refine gX_r37_3 hk hin0 (List.mem_cons_of_mem _ (List.mem_append_left _ (List.mem_of_getElem? (i := 12) rfl))) dX1_nearestQuery_52 ?_
              refine g_callV (n := 0) hk (k232_X2_wholeDistance l D zt q d I5078 A5078  hV5078) (SP.same _) (fun _ h => h) (gi_V (List.mem_cons_of_mem _ (List.mem_append_left _ (List.mem_of_getElem? (i := 13) rfl))) (List.mem_cons_of_mem _ (List.mem_append_left _ (List.mem_of_getElem? (i := 14) rfl))) (List.mem_cons_of_mem _ (List.mem_append_left _ (List.mem_of_getElem? (i := 15) rfl))) (List.mem_cons_of_mem _ (List.mem_append_left _ (List.mem_of_getElem? (i := 16) rfl))) (gi_sub (fun w h => (List.mem_cons_of_mem _ (List.mem_append_right _ (List.mem_append_right _ (List.mem_append_right _ (List.mem_append_right _ (List.mem_append_right _ (List.mem_append_right _ (List.mem_append_left _ h))))))))) zg_k232_X2_wholeDistance)) rfl rfl rfl (by decide +kernel) ⟨Nat.le_of_ble_eq_true rfl, Nat.le_of_ble_eq_true rfl⟩ 38 rfl rfl rfl rfl (Nat.le_of_ble_eq_true rfl) ⟨Nat.le_of_ble_eq_true rfl, Nat.le_of_ble_eq_true rfl⟩ dX1_nearestQuery_55 (fun v ty' w' hp hk' => ?_)
              obtain ⟨I5082, A5082, hI5082, hA5082, hV5082, y5081, rfl, rfl⟩ := hp
              show GW κ 7 0 0 (wX q d I5082 A5082) 58 [(5, .int x4861), (4, .int x4862), (3, .int x4863), (0, .ref (q 43)), (1, .int z1), (2, .int z2)] [.int y5081]
              refine g_istore (lv' := [(6, .int y5081), (5, .int x4861), (4, .int x4862), (3, .int x4863), (0, .ref (q 43)), (1, .int z1), (2, .int z2)]) hk dX1_nearestQuery_58 (by decide) rfl ?_
              refine g_iload hk dX1_nearestQuery_60 rfl ?_
              refine g_iload hk dX1_nearestQuery_62 rfl ?_
              have b5083l := Int32.le_toInt y5081
              have b5083h := Int32.toInt_lt y5081
              have b5084l := Int32.le_toInt x4862
              have b5084h := Int32.toInt_lt x4862
              refine g_icmp_ge (tgt := 74) (a := y5081.toInt) (b := x4862.toInt) hk dX1_nearestQuery_64 (by decide) rfl rfl (fun c5085 => ?_) (fun c5085 => ?_)
              · skip
                obtain ⟨y5086, ey5086⟩ : ∃ y : Int32, y = x4861 + Int32.ofInt 1 := ⟨_, rfl⟩
                have hy5086 : y5086.toInt = x4861.toInt + 1 := i32_add ey5086 rfl (by decide) (by omega) (by omega)
                refine g_iinc (v := y5086) (lv' := [(5, .int y5086), (6, .int y5081), (4, .int x4862), (3, .int x4863), (0, .ref (q 43)), (1, .int z1), (2, .int z2)]) hk 1 dX1_nearestQuery_74 rfl ey5086.symm (by decide) rfl ?_
                refine g_goto (tgt := 10) hk dX1_nearestQuery_77 (by decide) ?_
                exact g_lv (List.forall_mem_cons.mpr ⟨List.mem_of_getElem? (i := 0) rfl, (List.forall_mem_cons.mpr ⟨List.mem_of_getElem? (i := 2) rfl, (List.forall_mem_cons.mpr ⟨List.mem_of_getElem? (i := 3) rfl, (List.forall_mem_cons.mpr ⟨List.mem_of_getElem? (i := 4) rfl, (List.forall_mem_cons.mpr ⟨List.mem_of_getElem? (i := 5) rfl, (List.forall_mem_cons.mpr ⟨List.mem_of_getElem? (i := 6) rfl, (fun _ h => absurd h List.not_mem_nil)⟩)⟩)⟩)⟩)⟩)⟩) (ih y5086 x4862 x4863 I5082 A5082 (show Md [28, 30, 31, 32, 33, 34] I I5082 from Md.tr hI4867 (show Md [28, 30, 31, 32, 33, 34] I4867 I5082 from (Md.tr (Md.tr Md.rf hI5078 rfl) hI5082 rfl)) rfl) (show Md [21, 22, 23] A A5082 from Md.tr hA4867 (show Md [21, 22, 23] A4867 A5082 from (Md.tr (Md.tr Md.rf hA5078 rfl) hA5082 rfl)) rfl) hV5082 (by omega) (by omega) (by omega) (by omega) (by omega))
              · skip
                refine g_iload hk dX1_nearestQuery_67 rfl ?_
                refine g_istore (lv' := [(4, .int y5081), (6, .int y5081), (5, .int x4861), (3, .int x4863), (0, .ref (q 43)), (1, .int z1), (2, .int z2)]) hk dX1_nearestQuery_69 (by decide) rfl ?_
                refine g_iload hk dX1_nearestQuery_71 rfl ?_
                refine g_istore_n (lv' := [(3, .int x4861), (4, .int y5081), (6, .int y5081), (5, .int x4861), (0, .ref (q 43)), (1, .int z1), (2, .int z2)]) hk dX1_nearestQuery_73 (by decide) rfl ?_
                obtain ⟨y5087, ey5087⟩ : ∃ y : Int32, y = x4861 + Int32.ofInt 1 := ⟨_, rfl⟩
                have hy5087 : y5087.toInt = x4861.toInt + 1 := i32_add ey5087 rfl (by decide) (by omega) (by omega)
                refine g_iinc (v := y5087) (lv' := [(5, .int y5087), (3, .int x4861), (4, .int y5081), (6, .int y5081), (0, .ref (q 43)), (1, .int z1), (2, .int z2)]) hk 3 dX1_nearestQuery_74 rfl ey5087.symm (by decide) rfl ?_
                refine g_goto (tgt := 10) hk dX1_nearestQuery_77 (by decide) ?_
                exact g_lv (List.forall_mem_cons.mpr ⟨List.mem_of_getElem? (i := 0) rfl, (List.forall_mem_cons.mpr ⟨List.mem_of_getElem? (i := 2) rfl, (List.forall_mem_cons.mpr ⟨List.mem_of_getElem? (i := 1) rfl, (List.forall_mem_cons.mpr ⟨List.mem_of_getElem? (i := 4) rfl, (List.forall_mem_cons.mpr ⟨List.mem_of_getElem? (i := 5) rfl, (List.forall_mem_cons.mpr ⟨List.mem_of_getElem? (i := 6) rfl, (fun _ h => absurd h List.not_mem_nil)⟩)⟩)⟩)⟩)⟩)⟩) (ih y5087 y5081 x4861 I5082 A5082 (show Md [28, 30, 31, 32, 33, 34] I I5082 from Md.tr hI4867 (show Md [28, 30, 31, 32, 33, 34] I4867 I5082 from (Md.tr (Md.tr Md.rf hI5078 rfl) hI5082 rfl)) rfl) (show Md [21, 22, 23] A A5082 from Md.tr hA4867 (show Md [21, 22, 23] A4867 A5082 from (Md.tr (Md.tr Md.rf hA5078 rfl) hA5082 rfl)) rfl) hV5082 (by omega) (by omega) (by omega) (by omega) (by omega))
  have k5089 : (0 : Int32).toInt = 0 := rfl
  have k5090 : (2147483647 : Int32).toInt = 2147483647 := rfl
  have k5091 : ((-2) : Int32).toInt = (-2) := rfl
  obtain ⟨n5088, n5088a, n5088b⟩ : ∃ n : Nat, (I 19).toInt + 1 - 0 < (n : Int) ∧ 0 < n := ⟨(((I 19).toInt + 1 - 0 : Int)).toNat + 1, by omega, by omega⟩
  exact lp5040 n5088 0 2147483647 (-2) I A Md.rf Md.rf hIv (by omega) (by omega) (by omega) n5088a n5088b
def wo_k258_X11_whose : List Cond := [Cond.fieldLink RX11 28 "WarpDesk" "series" "LWarpDesk$Series;", Cond.methodLink RX11 183 yX6_hasWindow, Cond.instanceMethod yX6_hasWindow, Cond.selects RX6 yX6_hasWindow yX6_hasWindow, Cond.initialized RX6, Cond.fieldLink RX11 74 "WarpDesk" "finder" "LWarpDesk$Finder;", Cond.methodLink RX11 263 yX1_nearestQuery, Cond.instanceMethod yX1_nearestQuery, Cond.selects RX1 yX1_nearestQuery yX1_nearestQuery, Cond.initialized RX1]
def wz_k258_X11_whose : List Cond := .code yX11_whose cX11_whose 3 (some .int) :: (wo_k258_X11_whose ++ (wsX110 ++ (wz_k207_X6_hasWindow ++ (wz_k259_X1_nearestQuery ++ ([] : List Cond)))))
theorem zg_k258_X11_whose : ∀ w ∈ wz_k258_X11_whose, goodWord w = true := zg_cons rfl (zg_app (by decide +kernel) (zg_app zgU_wsX110 (zg_app zg_k207_X6_hasWindow (zg_app zg_k259_X1_nearestQuery zg_nil))))
theorem zi_k258_X11_whose : ∀ w ∈ wz_k258_X11_whose, w ∈ lw_tbl := zi_cons zw_1096 (zi_app (zi_cons zw_489 (zi_cons zw_901 (zi_cons zw_902 (zi_cons zw_903 (zi_cons zw_109 (zi_cons zw_495 (zi_cons zw_1097 (zi_cons zw_1098 (zi_cons zw_1099 (zi_cons zw_113 zi_nil)))))))))) (zi_app inX11 (zi_app zi_k207_X6_hasWindow (zi_app zi_k259_X1_nearestQuery zi_nil))))
set_option maxHeartbeats 4000000 in
set_option maxRecDepth 100000 in
theorem k258_X11_whose (l : Launch) (D : va_G) (zt : Nat × Nat × Nat × (Nat → Nat) × (Nat → Nat)) (q : Nat → Nat) (d : Nat → ClassId) (I : Nat → Int32) (A : Nat → Nat → Int32) (z1 : Int32) (z2 : Int32) (hIv : IvX I A) : GM l D zt (tyX d) yX11_whose wz_k258_X11_whose ({ frames := 7, cells := 0, slots := 0, locals := 157 } : Room) [.ref (q 0), .int z1, .int z2] (wX q d I A) (fun v _ w' => ∃ (I' : Nat → Int32) (A' : Nat → Nat → Int32), Md [28, 30, 31, 32, 33, 34] I I' ∧ Md [21, 22, 23] A A' ∧ IvX I' A' ∧ ∃ y0 : Int32, ((-2) ≤ y0.toInt) ∧ (y0.toInt ≤ 2147483646) ∧ v = some (.int y0) ∧ w' = wX q d I' A') 0 0 := by
  refine GM.of (cc := cX11_whose) (maxL := 3) (ret := (some .int)) (own := RX11) (lv := [(0, .ref (q 0)), (1, .int z1), (2, .int z2)]) (by decide) rfl rfl (Nat.le_of_ble_eq_true rfl) rfl (fun κ sz hk hR hN => ?_)
  have hin11 : ∀ w ∈ u_ws RX11 TX11 10, w ∈ wz_k258_X11_whose := fun w h => (List.mem_cons_of_mem _ (List.mem_append_right _ (List.mem_append_left _ h)))
  refine g_aload_n hk dX11_whose_0 rfl ?_
  refine gX_r0_2 hk hin11 (List.mem_cons_of_mem _ (List.mem_append_left _ (List.mem_of_getElem? (i := 0) rfl))) dX11_whose_1 ?_
  refine g_iload_n hk dX11_whose_4 rfl ?_
  refine g_iload_n hk dX11_whose_5 rfl ?_
  refine g_callV (n := 2) hk (k207_X6_hasWindow l D zt q d I A z1 z2 hIv) (SP.same _) (fun _ h => h) (gi_V (List.mem_cons_of_mem _ (List.mem_append_left _ (List.mem_of_getElem? (i := 1) rfl))) (List.mem_cons_of_mem _ (List.mem_append_left _ (List.mem_of_getElem? (i := 2) rfl))) (List.mem_cons_of_mem _ (List.mem_append_left _ (List.mem_of_getElem? (i := 3) rfl))) (List.mem_cons_of_mem _ (List.mem_append_left _ (List.mem_of_getElem? (i := 4) rfl))) (gi_sub (fun w h => (List.mem_cons_of_mem _ (List.mem_append_right _ (List.mem_append_right _ (List.mem_append_left _ h))))) zg_k207_X6_hasWindow)) rfl rfl rfl (by decide +kernel) ⟨Nat.le_of_ble_eq_true rfl, Nat.le_of_ble_eq_true rfl⟩ 13 rfl rfl rfl rfl (Nat.le_of_ble_eq_true rfl) ⟨Nat.le_of_ble_eq_true rfl, Nat.le_of_ble_eq_true rfl⟩ dX11_whose_6 (fun v ty' w' hp hk' => ?_)
  rcases hp with ⟨rfl, rfl⟩ | ⟨c4854, c4855, c4856, c4857, c4858, c4859, rfl, rfl⟩
  · skip
    show GW κ 3 0 0 (wX q d I A) 9 [(0, .ref (q 0)), (1, .int z1), (2, .int z2)] [.int 0]
    refine g_if_eq (tgt := 24) (a := 0) hk dX11_whose_9 (by decide) rfl (fun _ => ?_) (fun z9 => absurd (show (0 : Int) = (0 : Int) from by decide) z9)
    refine g_iconst (v := (-1)) hk dX11_whose_24 (by decide) ?_
    exact g_iret hk hR rfl ⟨I, A, (show Md [28, 30, 31, 32, 33, 34] I I from Md.rf), (show Md [21, 22, 23] A A from Md.rf), hIv, (-1), (by decide), (by decide), rfl, rfl⟩ dX11_whose_25
  · skip
    show GW κ 3 0 0 (wX q d I A) 9 [(0, .ref (q 0)), (1, .int z1), (2, .int z2)] [.int 1]
    refine g_if_eq (tgt := 24) (a := 1) hk dX11_whose_9 (by decide) rfl (fun z9 => absurd z9 (show ¬ ((1 : Int) = (0 : Int)) from by decide)) (fun _ => ?_)
    refine g_aload_n hk dX11_whose_12 rfl ?_
    refine gX_r0_8 hk hin11 (List.mem_cons_of_mem _ (List.mem_append_left _ (List.mem_of_getElem? (i := 5) rfl))) dX11_whose_13 ?_
    refine g_iload_n hk dX11_whose_16 rfl ?_
    refine g_iload_n hk dX11_whose_17 rfl ?_
    refine g_callV (n := 2) hk (k259_X1_nearestQuery l D zt q d I A z1 z2 hIv) (SP.same _) (fun _ h => h) (gi_V (List.mem_cons_of_mem _ (List.mem_append_left _ (List.mem_of_getElem? (i := 6) rfl))) (List.mem_cons_of_mem _ (List.mem_append_left _ (List.mem_of_getElem? (i := 7) rfl))) (List.mem_cons_of_mem _ (List.mem_append_left _ (List.mem_of_getElem? (i := 8) rfl))) (List.mem_cons_of_mem _ (List.mem_append_left _ (List.mem_of_getElem? (i := 9) rfl))) (gi_sub (fun w h => (List.mem_cons_of_mem _ (List.mem_append_right _ (List.mem_append_right _ (List.mem_append_right _ (List.mem_append_left _ h)))))) zg_k259_X1_nearestQuery)) rfl rfl rfl (by decide +kernel) ⟨Nat.le_of_ble_eq_true rfl, Nat.le_of_ble_eq_true rfl⟩ 43 rfl rfl rfl rfl (Nat.le_of_ble_eq_true rfl) ⟨Nat.le_of_ble_eq_true rfl, Nat.le_of_ble_eq_true rfl⟩ dX11_whose_18 (fun v ty' w' hp hk' => ?_)
    obtain ⟨I5095, A5095, hI5095, hA5095, hV5095, y5092, c5093, c5094, rfl, rfl⟩ := hp
    show GW κ 3 0 0 (wX q d I5095 A5095) 21 [(0, .ref (q 0)), (1, .int z1), (2, .int z2)] [.int y5092]
    refine g_goto (tgt := 25) hk dX11_whose_21 (by decide) ?_
    exact g_iret hk hR rfl ⟨I5095, A5095, (show Md [28, 30, 31, 32, 33, 34] I I5095 from (Md.tr Md.rf hI5095 rfl)), (show Md [21, 22, 23] A A5095 from (Md.tr Md.rf hA5095 rfl)), hV5095, y5092, (by omega), (by omega), rfl, rfl⟩ dX11_whose_25
def wo_k261_X1_firedBits : List Cond := [Cond.fieldLink RX1 43 "WarpDesk$Finder" "queries" "LWarpDesk$Queries;", Cond.fieldLink RX1 161 "WarpDesk$Queries" "size" "I", Cond.fieldLink RX1 38 "WarpDesk$Finder" "series" "LWarpDesk$Series;", Cond.fieldLink RX1 59 "WarpDesk$Series" "size" "I", Cond.methodLink RX1 65 yX4_lengthOf, Cond.instanceMethod yX4_lengthOf, Cond.selects RX4 yX4_lengthOf yX4_lengthOf, Cond.initialized RX4, Cond.fieldLink RX1 28 "WarpDesk$Finder" "bench" "LWarpDesk$Bench;", Cond.methodLink RX1 162 yX0_openBoth, Cond.instanceMethod yX0_openBoth, Cond.selects RX0 yX0_openBoth yX0_openBoth, Cond.initialized RX0, Cond.fieldLink RX1 78 "WarpDesk$Bench" "fit" "LWarpDesk$Fit;", Cond.methodLink RX1 113 yX2_wholeDistance, Cond.instanceMethod yX2_wholeDistance, Cond.selects RX2 yX2_wholeDistance yX2_wholeDistance, Cond.initialized RX2]
def wz_k261_X1_firedBits : List Cond := .code yX1_firedBits cX1_firedBits 5 (some .int) :: (wo_k261_X1_firedBits ++ (wsX00 ++ (wsX10 ++ (wsX40 ++ (wsX60 ++ (wz_k182_X4_lengthOf ++ (wz_k222_X0_openBoth ++ (wz_k232_X2_wholeDistance ++ ([] : List Cond)))))))))
theorem zg_k261_X1_firedBits : ∀ w ∈ wz_k261_X1_firedBits, goodWord w = true := zg_cons rfl (zg_app (by decide +kernel) (zg_app zgU_wsX00 (zg_app zgU_wsX10 (zg_app zgU_wsX40 (zg_app zgU_wsX60 (zg_app zg_k182_X4_lengthOf (zg_app zg_k222_X0_openBoth (zg_app zg_k232_X2_wholeDistance zg_nil))))))))
theorem zi_k261_X1_firedBits : ∀ w ∈ wz_k261_X1_firedBits, w ∈ lw_tbl := zi_cons zw_1112 (zi_app (zi_cons zw_404 (zi_cons zw_221 (zi_cons zw_403 (zi_cons zw_283 (zi_cons zw_1102 (zi_cons zw_757 (zi_cons zw_758 (zi_cons zw_108 (zi_cons zw_402 (zi_cons zw_1103 (zi_cons zw_970 (zi_cons zw_971 (zi_cons zw_111 (zi_cons zw_382 (zi_cons zw_1104 (zi_cons zw_993 (zi_cons zw_994 (zi_cons zw_112 zi_nil)))))))))))))))))) (zi_app inX0 (zi_app inX1 (zi_app inX4 (zi_app inX6 (zi_app zi_k182_X4_lengthOf (zi_app zi_k222_X0_openBoth (zi_app zi_k232_X2_wholeDistance zi_nil))))))))
set_option maxHeartbeats 4000000 in
set_option maxRecDepth 100000 in
theorem k261_X1_firedBits (l : Launch) (D : va_G) (zt : Nat × Nat × Nat × (Nat → Nat) × (Nat → Nat)) (q : Nat → Nat) (d : Nat → ClassId) (I : Nat → Int32) (A : Nat → Nat → Int32) (z1 : Int32) (hIv : IvX I A) : GM l D zt (tyX d) yX1_firedBits wz_k261_X1_firedBits ({ frames := 6, cells := 0, slots := 0, locals := 131 } : Room) [.ref (q 43), .int z1] (wX q d I A) (fun v _ w' => ∃ (I' : Nat → Int32) (A' : Nat → Nat → Int32), Md [28, 30, 31, 32, 33, 34] I I' ∧ Md [21, 22, 23] A A' ∧ IvX I' A' ∧ ∃ y0 : Int32, v = some (.int y0) ∧ w' = wX q d I' A') 0 0 := by
  refine GM.of (cc := cX1_firedBits) (maxL := 5) (ret := (some .int)) (own := RX1) (lv := [(0, .ref (q 43)), (1, .int z1)]) (by decide) rfl rfl (Nat.le_of_ble_eq_true rfl) rfl (fun κ sz hk hR hN => ?_)
  have hin0 : ∀ w ∈ u_ws RX0 TX0 5, w ∈ wz_k261_X1_firedBits := fun w h => (List.mem_cons_of_mem _ (List.mem_append_right _ (List.mem_append_left _ h)))
  have hin1 : ∀ w ∈ u_ws RX1 TX1 11, w ∈ wz_k261_X1_firedBits := fun w h => (List.mem_cons_of_mem _ (List.mem_append_right _ (List.mem_append_right _ (List.mem_append_left _ h))))
  have hin4 : ∀ w ∈ u_ws RX4 TX4 3, w ∈ wz_k261_X1_firedBits := fun w h => (List.mem_cons_of_mem _ (List.mem_append_right _ (List.mem_append_right _ (List.mem_append_right _ (List.mem_append_left _ h)))))
  have hin6 : ∀ w ∈ u_ws RX6 TX6 3, w ∈ wz_k261_X1_firedBits := fun w h => (List.mem_cons_of_mem _ (List.mem_append_right _ (List.mem_append_right _ (List.mem_append_right _ (List.mem_append_right _ (List.mem_append_left _ h))))))
  refine g_iconst (v := 0) hk dX1_firedBits_0 (by decide) ?_
  refine g_istore_n (lv' := [(2, .int 0), (0, .ref (q 43)), (1, .int z1)]) hk dX1_firedBits_1 (by decide) rfl ?_
  refine g_iconst (v := 0) hk dX1_firedBits_2 (by decide) ?_
  refine g_istore_n (lv' := [(3, .int 0), (2, .int 0), (0, .ref (q 43)), (1, .int z1)]) hk dX1_firedBits_3 (by decide) rfl ?_
  have lp5235 : ∀ (n5236 : Nat) (x5098 : Int32) (x5099 : Int32) (I5102 : Nat → Int32) (A5102 : Nat → Nat → Int32), (Md [28, 30, 31, 32, 33, 34] I I5102) → (Md [21, 22, 23] A A5102) → (IvX I5102 A5102) → (0 ≤ x5098.toInt) → ((I 19).toInt + 1 - x5098.toInt < (n5236 : Int)) → (0 < n5236) → GW κ 5 0 0 (wX q d I5102 A5102) 4 [(3, .int x5098), (2, .int x5099), (0, .ref (q 43)), (1, .int z1)] [] := by
    intro n5236
    induction n5236 with
    | zero =>
      intro x5098 x5099 I5102 A5102 hI5102 hA5102 hV5102 h5234 m5237 m5237z
      exact absurd m5237z (Nat.lt_irrefl 0)
    | succ n5236 ih =>
      intro x5098 x5099 I5102 A5102 hI5102 hA5102 hV5102 h5234 m5237 m5237z
      refine g_iload_n hk dX1_firedBits_4 rfl ?_
      refine g_aload_n hk dX1_firedBits_5 rfl ?_
      refine gX_r43_2 hk hin1 (List.mem_cons_of_mem _ (List.mem_append_left _ (List.mem_of_getElem? (i := 0) rfl))) dX1_firedBits_6 ?_
      refine gX_i19 (v := (I 19)) hk hin4 (List.mem_cons_of_mem _ (List.mem_append_left _ (List.mem_of_getElem? (i := 1) rfl))) dX1_firedBits_9 (hI5102 19 rfl) ?_
      have b5238l := Int32.le_toInt x5098
      have b5238h := Int32.toInt_lt x5098
      have b5239l := Int32.le_toInt (I 19)
      have b5239h := Int32.toInt_lt (I 19)
      refine g_icmp_ge (tgt := 72) (a := x5098.toInt) (b := (I 19).toInt) hk dX1_firedBits_12 (by decide) rfl rfl (fun c5240 => ?_) (fun c5240 => ?_)
      · skip
        refine g_iload_n hk dX1_firedBits_72 rfl ?_
        have b5241l := Int32.le_toInt x5099
        have b5241h := Int32.toInt_lt x5099
        exact g_iret hk hR rfl ⟨I5102, A5102, (show Md [28, 30, 31, 32, 33, 34] I I5102 from (Md.tr Md.rf hI5102 rfl)), (show Md [21, 22, 23] A A5102 from (Md.tr Md.rf hA5102 rfl)), hV5102, x5099, rfl, rfl⟩ dX1_firedBits_73
      · skip
        refine g_aload_n hk dX1_firedBits_15 rfl ?_
        refine gX_r43_1 hk hin1 (List.mem_cons_of_mem _ (List.mem_append_left _ (List.mem_of_getElem? (i := 2) rfl))) dX1_firedBits_16 ?_
        refine gX_i18 (v := (I 18)) hk hin6 (List.mem_cons_of_mem _ (List.mem_append_left _ (List.mem_of_getElem? (i := 3) rfl))) dX1_firedBits_19 (hI5102 18 rfl) ?_
        have f5242 := IvX_f18 hIv
        refine g_aload_n hk dX1_firedBits_22 rfl ?_
        refine gX_r43_2 hk hin1 (List.mem_cons_of_mem _ (List.mem_append_left _ (List.mem_of_getElem? (i := 0) rfl))) dX1_firedBits_23 ?_
        refine g_iload_n hk dX1_firedBits_26 rfl ?_
        refine g_callV (n := 1) hk (k182_X4_lengthOf l D zt q d I5102 A5102 x5098 hV5102) (SP.same _) (fun _ h => h) (gi_V (List.mem_cons_of_mem _ (List.mem_append_left _ (List.mem_of_getElem? (i := 4) rfl))) (List.mem_cons_of_mem _ (List.mem_append_left _ (List.mem_of_getElem? (i := 5) rfl))) (List.mem_cons_of_mem _ (List.mem_append_left _ (List.mem_of_getElem? (i := 6) rfl))) (List.mem_cons_of_mem _ (List.mem_append_left _ (List.mem_of_getElem? (i := 7) rfl))) (gi_sub (fun w h => (List.mem_cons_of_mem _ (List.mem_append_right _ (List.mem_append_right _ (List.mem_append_right _ (List.mem_append_right _ (List.mem_append_right _ (List.mem_append_left _ h)))))))) zg_k182_X4_lengthOf)) rfl rfl rfl (by decide +kernel) ⟨Nat.le_of_ble_eq_true rfl, Nat.le_of_ble_eq_true rfl⟩ 15 rfl rfl rfl rfl (Nat.le_of_ble_eq_true rfl) ⟨Nat.le_of_ble_eq_true rfl, Nat.le_of_ble_eq_true rfl⟩ dX1_firedBits_27 (fun v ty' w' hp hk' => ?_)
        rcases hp with ⟨rfl, rfl⟩ | ⟨y5250, c5244, c5245, c5246, c5247, c5248, c5249, c5251, c5252, rfl, rfl⟩
        · skip
          show GW κ 5 0 0 (wX q d I5102 A5102) 30 [(3, .int x5098), (2, .int x5099), (0, .ref (q 43)), (1, .int z1)] [.int 0, .int (I 18)]
          refine g_isub hk dX1_firedBits_30 ?_
          refine g_topi (fun y5253 ey5253 => ?_)
          have hy5253 : y5253.toInt = (I 18).toInt - 0 := i32_sub ey5253 rfl rfl (by omega) (by omega)
          refine g_istore (lv' := [(4, .int y5253), (3, .int x5098), (2, .int x5099), (0, .ref (q 43)), (1, .int z1)]) hk dX1_firedBits_31 (by decide) rfl ?_
          refine g_aload_n hk dX1_firedBits_33 rfl ?_
          refine gX_r43_0 hk hin1 (List.mem_cons_of_mem _ (List.mem_append_left _ (List.mem_of_getElem? (i := 8) rfl))) dX1_firedBits_34 ?_
          refine g_iload_n hk dX1_firedBits_37 rfl ?_
          refine g_iload hk dX1_firedBits_38 rfl ?_
          refine g_callV (n := 2) hk (k222_X0_openBoth l D zt q d I5102 A5102 x5098 y5253 hV5102) (SP.same _) (fun _ h => h) (gi_V (List.mem_cons_of_mem _ (List.mem_append_left _ (List.mem_of_getElem? (i := 9) rfl))) (List.mem_cons_of_mem _ (List.mem_append_left _ (List.mem_of_getElem? (i := 10) rfl))) (List.mem_cons_of_mem _ (List.mem_append_left _ (List.mem_of_getElem? (i := 11) rfl))) (List.mem_cons_of_mem _ (List.mem_append_left _ (List.mem_of_getElem? (i := 12) rfl))) (gi_sub (fun w h => (List.mem_cons_of_mem _ (List.mem_append_right _ (List.mem_append_right _ (List.mem_append_right _ (List.mem_append_right _ (List.mem_append_right _ (List.mem_append_right _ (List.mem_append_left _ h))))))))) zg_k222_X0_openBoth)) rfl rfl rfl (by decide +kernel) ⟨Nat.le_of_ble_eq_true rfl, Nat.le_of_ble_eq_true rfl⟩ 37 rfl rfl rfl rfl (Nat.le_of_ble_eq_true rfl) ⟨Nat.le_of_ble_eq_true rfl, Nat.le_of_ble_eq_true rfl⟩ dX1_firedBits_40 (fun v ty' w' hp hk' => ?_)
          obtain ⟨I5257, A5257, hI5257, hA5257, hV5257, y5254, c5255, c5256, rfl, rfl⟩ := hp
          show GW κ 5 0 0 (wX q d I5257 A5257) 43 [(4, .int y5253), (3, .int x5098), (2, .int x5099), (0, .ref (q 43)), (1, .int z1)] [.int y5254]
          refine g_if_eq (tgt := 66) (a := y5254.toInt) hk dX1_firedBits_43 (by decide) rfl (fun c5258 => ?_) (fun c5258 => ?_)
          · skip
            obtain ⟨y5259, ey5259⟩ : ∃ y : Int32, y = x5098 + Int32.ofInt 1 := ⟨_, rfl⟩
            have hy5259 : y5259.toInt = x5098.toInt + 1 := i32_add ey5259 rfl (by decide) (by omega) (by omega)
            refine g_iinc (v := y5259) (lv' := [(3, .int y5259), (4, .int y5253), (2, .int x5099), (0, .ref (q 43)), (1, .int z1)]) hk 1 dX1_firedBits_66 rfl ey5259.symm (by decide) rfl ?_
            refine g_goto (tgt := 4) hk dX1_firedBits_69 (by decide) ?_
            exact g_lv (List.forall_mem_cons.mpr ⟨List.mem_of_getElem? (i := 0) rfl, (List.forall_mem_cons.mpr ⟨List.mem_of_getElem? (i := 2) rfl, (List.forall_mem_cons.mpr ⟨List.mem_of_getElem? (i := 3) rfl, (List.forall_mem_cons.mpr ⟨List.mem_of_getElem? (i := 4) rfl, (fun _ h => absurd h List.not_mem_nil)⟩)⟩)⟩)⟩) (ih y5259 x5099 I5257 A5257 (show Md [28, 30, 31, 32, 33, 34] I I5257 from Md.tr hI5102 (show Md [28, 30, 31, 32, 33, 34] I5102 I5257 from (Md.tr Md.rf hI5257 rfl)) rfl) (show Md [21, 22, 23] A A5257 from Md.tr hA5102 (show Md [21, 22, 23] A5102 A5257 from (Md.tr Md.rf hA5257 rfl)) rfl) hV5257 (by omega) (by omega) (by omega))
          · skip
            refine g_aload_n hk dX1_firedBits_46 rfl ?_
            refine gX_r43_0 hk hin1 (List.mem_cons_of_mem _ (List.mem_append_left _ (List.mem_of_getElem? (i := 8) rfl))) dX1_firedBits_47 ?_
            refine gX_r37_3 hk hin0 (List.mem_cons_of_mem _ (List.mem_append_left _ (List.mem_of_getElem? (i := 13) rfl))) dX1_firedBits_50 ?_
            refine g_callV (n := 0) hk (k232_X2_wholeDistance l D zt q d I5257 A5257  hV5257) (SP.same _) (fun _ h => h) (gi_V (List.mem_cons_of_mem _ (List.mem_append_left _ (List.mem_of_getElem? (i := 14) rfl))) (List.mem_cons_of_mem _ (List.mem_append_left _ (List.mem_of_getElem? (i := 15) rfl))) (List.mem_cons_of_mem _ (List.mem_append_left _ (List.mem_of_getElem? (i := 16) rfl))) (List.mem_cons_of_mem _ (List.mem_append_left _ (List.mem_of_getElem? (i := 17) rfl))) (gi_sub (fun w h => (List.mem_cons_of_mem _ (List.mem_append_right _ (List.mem_append_right _ (List.mem_append_right _ (List.mem_append_right _ (List.mem_append_right _ (List.mem_append_right _ (List.mem_append_right _ (List.mem_append_left _ h)))))))))) zg_k232_X2_wholeDistance)) rfl rfl rfl (by decide +kernel) ⟨Nat.le_of_ble_eq_true rfl, Nat.le_of_ble_eq_true rfl⟩ 38 rfl rfl rfl rfl (Nat.le_of_ble_eq_true rfl) ⟨Nat.le_of_ble_eq_true rfl, Nat.le_of_ble_eq_true rfl⟩ dX1_firedBits_53 (fun v ty' w' hp hk' => ?_)
            obtain ⟨I5261, A5261, hI5261, hA5261, hV5261, y5260, rfl, rfl⟩ := hp
            show GW κ 5 0 0 (wX q d I5261 A5261) 56 [(4, .int y5253), (3, .int x5098), (2, .int x5099), (0, .ref (q 43)), (1, .int z1)] [.int y5260]
            refine g_iload_n hk dX1_firedBits_56 rfl ?_
            have b5262l := Int32.le_toInt y5260
            have b5262h := Int32.toInt_lt y5260
            have b5263l := Int32.le_toInt z1
            have b5263h := Int32.toInt_lt z1
            refine g_icmp_gt (tgt := 66) (a := y5260.toInt) (b := z1.toInt) hk dX1_firedBits_57 (by decide) rfl rfl (fun c5264 => ?_) (fun c5264 => ?_)
            · skip
              obtain ⟨y5265, ey5265⟩ : ∃ y : Int32, y = x5098 + Int32.ofInt 1 := ⟨_, rfl⟩
              have hy5265 : y5265.toInt = x5098.toInt + 1 := i32_add ey5265 rfl (by decide) (by omega) (by omega)
              refine g_iinc (v := y5265) (lv' := [(3, .int y5265), (4, .int y5253), (2, .int x5099), (0, .ref (q 43)), (1, .int z1)]) hk 1 dX1_firedBits_66 rfl ey5265.symm (by decide) rfl ?_
              refine g_goto (tgt := 4) hk dX1_firedBits_69 (by decide) ?_
              exact g_lv (List.forall_mem_cons.mpr ⟨List.mem_of_getElem? (i := 0) rfl, (List.forall_mem_cons.mpr ⟨List.mem_of_getElem? (i := 2) rfl, (List.forall_mem_cons.mpr ⟨List.mem_of_getElem? (i := 3) rfl, (List.forall_mem_cons.mpr ⟨List.mem_of_getElem? (i := 4) rfl, (fun _ h => absurd h List.not_mem_nil)⟩)⟩)⟩)⟩) (ih y5265 x5099 I5261 A5261 (show Md [28, 30, 31, 32, 33, 34] I I5261 from Md.tr hI5102 (show Md [28, 30, 31, 32, 33, 34] I5102 I5261 from (Md.tr (Md.tr Md.rf hI5257 rfl) hI5261 rfl)) rfl) (show Md [21, 22, 23] A A5261 from Md.tr hA5102 (show Md [21, 22, 23] A5102 A5261 from (Md.tr (Md.tr Md.rf hA5257 rfl) hA5261 rfl)) rfl) hV5261 (by omega) (by omega) (by omega))
            · skip
              refine g_iload_n hk dX1_firedBits_60 rfl ?_
              refine g_iconst (v := 1) hk dX1_firedBits_61 (by decide) ?_
              refine g_iload_n hk dX1_firedBits_62 rfl ?_
              refine g_ishl hk dX1_firedBits_63 ?_
              refine g_topi (fun y5266 ey5266 => ?_)
              refine g_ior hk dX1_firedBits_64 ?_
              refine g_topi (fun y5267 ey5267 => ?_)
              refine g_istore_n (lv' := [(2, .int y5267), (4, .int y5253), (3, .int x5098), (0, .ref (q 43)), (1, .int z1)]) hk dX1_firedBits_65 (by decide) rfl ?_
              obtain ⟨y5268, ey5268⟩ : ∃ y : Int32, y = x5098 + Int32.ofInt 1 := ⟨_, rfl⟩
              have hy5268 : y5268.toInt = x5098.toInt + 1 := i32_add ey5268 rfl (by decide) (by omega) (by omega)
              refine g_iinc (v := y5268) (lv' := [(3, .int y5268), (2, .int y5267), (4, .int y5253), (0, .ref (q 43)), (1, .int z1)]) hk 2 dX1_firedBits_66 rfl ey5268.symm (by decide) rfl ?_
              refine g_goto (tgt := 4) hk dX1_firedBits_69 (by decide) ?_
              exact g_lv (List.forall_mem_cons.mpr ⟨List.mem_of_getElem? (i := 0) rfl, (List.forall_mem_cons.mpr ⟨List.mem_of_getElem? (i := 1) rfl, (List.forall_mem_cons.mpr ⟨List.mem_of_getElem? (i := 3) rfl, (List.forall_mem_cons.mpr ⟨List.mem_of_getElem? (i := 4) rfl, (fun _ h => absurd h List.not_mem_nil)⟩)⟩)⟩)⟩) (ih y5268 y5267 I5261 A5261 (show Md [28, 30, 31, 32, 33, 34] I I5261 from Md.tr hI5102 (show Md [28, 30, 31, 32, 33, 34] I5102 I5261 from (Md.tr (Md.tr Md.rf hI5257 rfl) hI5261 rfl)) rfl) (show Md [21, 22, 23] A A5261 from Md.tr hA5102 (show Md [21, 22, 23] A5102 A5261 from (Md.tr (Md.tr Md.rf hA5257 rfl) hA5261 rfl)) rfl) hV5261 (by omega) (by omega) (by omega))
        · skip
          show GW κ 5 0 0 (wX q d I5102 A5102) 30 [(3, .int x5098), (2, .int x5099), (0, .ref (q 43)), (1, .int z1)] [.int y5250, .int (I 18)]
          refine g_isub hk dX1_firedBits_30 ?_
          refine g_topi (fun y5269 ey5269 => ?_)
          have hy5269 : y5269.toInt = (I 18).toInt - y5250.toInt := i32_sub ey5269 rfl rfl (by omega) (by omega)
          refine g_istore (lv' := [(4, .int y5269), (3, .int x5098), (2, .int x5099), (0, .ref (q 43)), (1, .int z1)]) hk dX1_firedBits_31 (by decide) rfl ?_
          refine g_aload_n hk dX1_firedBits_33 rfl ?_
          refine gX_r43_0 hk hin1 (List.mem_cons_of_mem _ (List.mem_append_left _ (List.mem_of_getElem? (i := 8) rfl))) dX1_firedBits_34 ?_
          refine g_iload_n hk dX1_firedBits_37 rfl ?_
          refine g_iload hk dX1_firedBits_38 rfl ?_
          refine g_callV (n := 2) hk (k222_X0_openBoth l D zt q d I5102 A5102 x5098 y5269 hV5102) (SP.same _) (fun _ h => h) (gi_V (List.mem_cons_of_mem _ (List.mem_append_left _ (List.mem_of_getElem? (i := 9) rfl))) (List.mem_cons_of_mem _ (List.mem_append_left _ (List.mem_of_getElem? (i := 10) rfl))) (List.mem_cons_of_mem _ (List.mem_append_left _ (List.mem_of_getElem? (i := 11) rfl))) (List.mem_cons_of_mem _ (List.mem_append_left _ (List.mem_of_getElem? (i := 12) rfl))) (gi_sub (fun w h => (List.mem_cons_of_mem _ (List.mem_append_right _ (List.mem_append_right _ (List.mem_append_right _ (List.mem_append_right _ (List.mem_append_right _ (List.mem_append_right _ (List.mem_append_left _ h))))))))) zg_k222_X0_openBoth)) rfl rfl rfl (by decide +kernel) ⟨Nat.le_of_ble_eq_true rfl, Nat.le_of_ble_eq_true rfl⟩ 37 rfl rfl rfl rfl (Nat.le_of_ble_eq_true rfl) ⟨Nat.le_of_ble_eq_true rfl, Nat.le_of_ble_eq_true rfl⟩ dX1_firedBits_40 (fun v ty' w' hp hk' => ?_)
          obtain ⟨I5273, A5273, hI5273, hA5273, hV5273, y5270, c5271, c5272, rfl, rfl⟩ := hp
          show GW κ 5 0 0 (wX q d I5273 A5273) 43 [(4, .int y5269), (3, .int x5098), (2, .int x5099), (0, .ref (q 43)), (1, .int z1)] [.int y5270]
          refine g_if_eq (tgt := 66) (a := y5270.toInt) hk dX1_firedBits_43 (by decide) rfl (fun c5274 => ?_) (fun c5274 => ?_)
          · skip
            obtain ⟨y5275, ey5275⟩ : ∃ y : Int32, y = x5098 + Int32.ofInt 1 := ⟨_, rfl⟩
            have hy5275 : y5275.toInt = x5098.toInt + 1 := i32_add ey5275 rfl (by decide) (by omega) (by omega)
            refine g_iinc (v := y5275) (lv' := [(3, .int y5275), (4, .int y5269), (2, .int x5099), (0, .ref (q 43)), (1, .int z1)]) hk 1 dX1_firedBits_66 rfl ey5275.symm (by decide) rfl ?_
            refine g_goto (tgt := 4) hk dX1_firedBits_69 (by decide) ?_
            exact g_lv (List.forall_mem_cons.mpr ⟨List.mem_of_getElem? (i := 0) rfl, (List.forall_mem_cons.mpr ⟨List.mem_of_getElem? (i := 2) rfl, (List.forall_mem_cons.mpr ⟨List.mem_of_getElem? (i := 3) rfl, (List.forall_mem_cons.mpr ⟨List.mem_of_getElem? (i := 4) rfl, (fun _ h => absurd h List.not_mem_nil)⟩)⟩)⟩)⟩) (ih y5275 x5099 I5273 A5273 (show Md [28, 30, 31, 32, 33, 34] I I5273 from Md.tr hI5102 (show Md [28, 30, 31, 32, 33, 34] I5102 I5273 from (Md.tr Md.rf hI5273 rfl)) rfl) (show Md [21, 22, 23] A A5273 from Md.tr hA5102 (show Md [21, 22, 23] A5102 A5273 from (Md.tr Md.rf hA5273 rfl)) rfl) hV5273 (by omega) (by omega) (by omega))
          · skip
            refine g_aload_n hk dX1_firedBits_46 rfl ?_
            refine gX_r43_0 hk hin1 (List.mem_cons_of_mem _ (List.mem_append_left _ (List.mem_of_getElem? (i := 8) rfl))) dX1_firedBits_47 ?_
            refine gX_r37_3 hk hin0 (List.mem_cons_of_mem _ (List.mem_append_left _ (List.mem_of_getElem? (i := 13) rfl))) dX1_firedBits_50 ?_
            refine g_callV (n := 0) hk (k232_X2_wholeDistance l D zt q d I5273 A5273  hV5273) (SP.same _) (fun _ h => h) (gi_V (List.mem_cons_of_mem _ (List.mem_append_left _ (List.mem_of_getElem? (i := 14) rfl))) (List.mem_cons_of_mem _ (List.mem_append_left _ (List.mem_of_getElem? (i := 15) rfl))) (List.mem_cons_of_mem _ (List.mem_append_left _ (List.mem_of_getElem? (i := 16) rfl))) (List.mem_cons_of_mem _ (List.mem_append_left _ (List.mem_of_getElem? (i := 17) rfl))) (gi_sub (fun w h => (List.mem_cons_of_mem _ (List.mem_append_right _ (List.mem_append_right _ (List.mem_append_right _ (List.mem_append_right _ (List.mem_append_right _ (List.mem_append_right _ (List.mem_append_right _ (List.mem_append_left _ h)))))))))) zg_k232_X2_wholeDistance)) rfl rfl rfl (by decide +kernel) ⟨Nat.le_of_ble_eq_true rfl, Nat.le_of_ble_eq_true rfl⟩ 38 rfl rfl rfl rfl (Nat.le_of_ble_eq_true rfl) ⟨Nat.le_of_ble_eq_true rfl, Nat.le_of_ble_eq_true rfl⟩ dX1_firedBits_53 (fun v ty' w' hp hk' => ?_)
            obtain ⟨I5277, A5277, hI5277, hA5277, hV5277, y5276, rfl, rfl⟩ := hp
            show GW κ 5 0 0 (wX q d I5277 A5277) 56 [(4, .int y5269), (3, .int x5098), (2, .int x5099), (0, .ref (q 43)), (1, .int z1)] [.int y5276]
            refine g_iload_n hk dX1_firedBits_56 rfl ?_
            have b5278l := Int32.le_toInt y5276
            have b5278h := Int32.toInt_lt y5276
            have b5279l := Int32.le_toInt z1
            have b5279h := Int32.toInt_lt z1
            refine g_icmp_gt (tgt := 66) (a := y5276.toInt) (b := z1.toInt) hk dX1_firedBits_57 (by decide) rfl rfl (fun c5280 => ?_) (fun c5280 => ?_)
            · skip
              obtain ⟨y5281, ey5281⟩ : ∃ y : Int32, y = x5098 + Int32.ofInt 1 := ⟨_, rfl⟩
              have hy5281 : y5281.toInt = x5098.toInt + 1 := i32_add ey5281 rfl (by decide) (by omega) (by omega)
              refine g_iinc (v := y5281) (lv' := [(3, .int y5281), (4, .int y5269), (2, .int x5099), (0, .ref (q 43)), (1, .int z1)]) hk 1 dX1_firedBits_66 rfl ey5281.symm (by decide) rfl ?_
              refine g_goto (tgt := 4) hk dX1_firedBits_69 (by decide) ?_
              exact g_lv (List.forall_mem_cons.mpr ⟨List.mem_of_getElem? (i := 0) rfl, (List.forall_mem_cons.mpr ⟨List.mem_of_getElem? (i := 2) rfl, (List.forall_mem_cons.mpr ⟨List.mem_of_getElem? (i := 3) rfl, (List.forall_mem_cons.mpr ⟨List.mem_of_getElem? (i := 4) rfl, (fun _ h => absurd h List.not_mem_nil)⟩)⟩)⟩)⟩) (ih y5281 x5099 I5277 A5277 (show Md [28, 30, 31, 32, 33, 34] I I5277 from Md.tr hI5102 (show Md [28, 30, 31, 32, 33, 34] I5102 I5277 from (Md.tr (Md.tr Md.rf hI5273 rfl) hI5277 rfl)) rfl) (show Md [21, 22, 23] A A5277 from Md.tr hA5102 (show Md [21, 22, 23] A5102 A5277 from (Md.tr (Md.tr Md.rf hA5273 rfl) hA5277 rfl)) rfl) hV5277 (by omega) (by omega) (by omega))
            · skip
              refine g_iload_n hk dX1_firedBits_60 rfl ?_
              refine g_iconst (v := 1) hk dX1_firedBits_61 (by decide) ?_
              refine g_iload_n hk dX1_firedBits_62 rfl ?_
              refine g_ishl hk dX1_firedBits_63 ?_
              refine g_topi (fun y5282 ey5282 => ?_)
              refine g_ior hk dX1_firedBits_64 ?_
              refine g_topi (fun y5283 ey5283 => ?_)
              refine g_istore_n (lv' := [(2, .int y5283), (4, .int y5269), (3, .int x5098), (0, .ref (q 43)), (1, .int z1)]) hk dX1_firedBits_65 (by decide) rfl ?_
              obtain ⟨y5284, ey5284⟩ : ∃ y : Int32, y = x5098 + Int32.ofInt 1 := ⟨_, rfl⟩
              have hy5284 : y5284.toInt = x5098.toInt + 1 := i32_add ey5284 rfl (by decide) (by omega) (by omega)
              refine g_iinc (v := y5284) (lv' := [(3, .int y5284), (2, .int y5283), (4, .int y5269), (0, .ref (q 43)), (1, .int z1)]) hk 2 dX1_firedBits_66 rfl ey5284.symm (by decide) rfl ?_
              refine g_goto (tgt := 4) hk dX1_firedBits_69 (by decide) ?_
              exact g_lv (List.forall_mem_cons.mpr ⟨List.mem_of_getElem? (i := 0) rfl, (List.forall_mem_cons.mpr ⟨List.mem_of_getElem? (i := 1) rfl, (List.forall_mem_cons.mpr ⟨List.mem_of_getElem? (i := 3) rfl, (List.forall_mem_cons.mpr ⟨List.mem_of_getElem? (i := 4) rfl, (fun _ h => absurd h List.not_mem_nil)⟩)⟩)⟩)⟩) (ih y5284 y5283 I5277 A5277 (show Md [28, 30, 31, 32, 33, 34] I I5277 from Md.tr hI5102 (show Md [28, 30, 31, 32, 33, 34] I5102 I5277 from (Md.tr (Md.tr Md.rf hI5273 rfl) hI5277 rfl)) rfl) (show Md [21, 22, 23] A A5277 from Md.tr hA5102 (show Md [21, 22, 23] A5102 A5277 from (Md.tr (Md.tr Md.rf hA5273 rfl) hA5277 rfl)) rfl) hV5277 (by omega) (by omega) (by omega))
  have k5286 : (0 : Int32).toInt = 0 := rfl
  obtain ⟨n5285, n5285a, n5285b⟩ : ∃ n : Nat, (I 19).toInt + 1 - 0 < (n : Int) ∧ 0 < n := ⟨(((I 19).toInt + 1 - 0 : Int)).toNat + 1, by omega, by omega⟩
  exact lp5235 n5285 0 0 I A Md.rf Md.rf hIv (by omega) n5285a n5285b
def wo_k260_X11_fired : List Cond := [Cond.fieldLink RX11 74 "WarpDesk" "finder" "LWarpDesk$Finder;", Cond.methodLink RX11 266 yX1_firedBits, Cond.instanceMethod yX1_firedBits, Cond.selects RX1 yX1_firedBits yX1_firedBits, Cond.initialized RX1]
def wz_k260_X11_fired : List Cond := .code yX11_fired cX11_fired 2 (some .int) :: (wo_k260_X11_fired ++ (wsX110 ++ (wz_k261_X1_firedBits ++ ([] : List Cond))))
theorem zg_k260_X11_fired : ∀ w ∈ wz_k260_X11_fired, goodWord w = true := zg_cons rfl (zg_app (by decide +kernel) (zg_app zgU_wsX110 (zg_app zg_k261_X1_firedBits zg_nil)))
theorem zi_k260_X11_fired : ∀ w ∈ wz_k260_X11_fired, w ∈ lw_tbl := zi_cons zw_1108 (zi_app (zi_cons zw_495 (zi_cons zw_1109 (zi_cons zw_1110 (zi_cons zw_1111 (zi_cons zw_113 zi_nil))))) (zi_app inX11 (zi_app zi_k261_X1_firedBits zi_nil)))
set_option maxHeartbeats 4000000 in
set_option maxRecDepth 100000 in
theorem k260_X11_fired (l : Launch) (D : va_G) (zt : Nat × Nat × Nat × (Nat → Nat) × (Nat → Nat)) (q : Nat → Nat) (d : Nat → ClassId) (I : Nat → Int32) (A : Nat → Nat → Int32) (z1 : Int32) (hIv : IvX I A) : GM l D zt (tyX d) yX11_fired wz_k260_X11_fired ({ frames := 7, cells := 0, slots := 0, locals := 155 } : Room) [.ref (q 0), .int z1] (wX q d I A) (fun v _ w' => ∃ (I' : Nat → Int32) (A' : Nat → Nat → Int32), Md [28, 30, 31, 32, 33, 34] I I' ∧ Md [21, 22, 23] A A' ∧ IvX I' A' ∧ ∃ y0 : Int32, v = some (.int y0) ∧ w' = wX q d I' A') 0 0 := by
  refine GM.of (cc := cX11_fired) (maxL := 2) (ret := (some .int)) (own := RX11) (lv := [(0, .ref (q 0)), (1, .int z1)]) (by decide) rfl rfl (Nat.le_of_ble_eq_true rfl) rfl (fun κ sz hk hR hN => ?_)
  have hin11 : ∀ w ∈ u_ws RX11 TX11 10, w ∈ wz_k260_X11_fired := fun w h => (List.mem_cons_of_mem _ (List.mem_append_right _ (List.mem_append_left _ h)))
  refine g_iload_n hk dX11_fired_0 rfl ?_
  have b5096l := Int32.le_toInt z1
  have b5096h := Int32.toInt_lt z1
  refine g_if_ge (tgt := 8) (a := z1.toInt) hk dX11_fired_1 (by decide) rfl (fun c5097 => ?_) (fun c5097 => ?_)
  · skip
    refine g_aload_n hk dX11_fired_8 rfl ?_
    refine gX_r0_8 hk hin11 (List.mem_cons_of_mem _ (List.mem_append_left _ (List.mem_of_getElem? (i := 0) rfl))) dX11_fired_9 ?_
    refine g_iload_n hk dX11_fired_12 rfl ?_
    refine g_callV (n := 1) hk (k261_X1_firedBits l D zt q d I A z1 hIv) (SP.same _) (fun _ h => h) (gi_V (List.mem_cons_of_mem _ (List.mem_append_left _ (List.mem_of_getElem? (i := 1) rfl))) (List.mem_cons_of_mem _ (List.mem_append_left _ (List.mem_of_getElem? (i := 2) rfl))) (List.mem_cons_of_mem _ (List.mem_append_left _ (List.mem_of_getElem? (i := 3) rfl))) (List.mem_cons_of_mem _ (List.mem_append_left _ (List.mem_of_getElem? (i := 4) rfl))) (gi_sub (fun w h => (List.mem_cons_of_mem _ (List.mem_append_right _ (List.mem_append_right _ (List.mem_append_left _ h))))) zg_k261_X1_firedBits)) rfl rfl rfl (by decide +kernel) ⟨Nat.le_of_ble_eq_true rfl, Nat.le_of_ble_eq_true rfl⟩ 43 rfl rfl rfl rfl (Nat.le_of_ble_eq_true rfl) ⟨Nat.le_of_ble_eq_true rfl, Nat.le_of_ble_eq_true rfl⟩ dX11_fired_13 (fun v ty' w' hp hk' => ?_)
    obtain ⟨I5288, A5288, hI5288, hA5288, hV5288, y5287, rfl, rfl⟩ := hp
    show GW κ 2 0 0 (wX q d I5288 A5288) 16 [(0, .ref (q 0)), (1, .int z1)] [.int y5287]
    have b5289l := Int32.le_toInt y5287
    have b5289h := Int32.toInt_lt y5287
    exact g_iret hk hR rfl ⟨I5288, A5288, (show Md [28, 30, 31, 32, 33, 34] I I5288 from (Md.tr Md.rf hI5288 rfl)), (show Md [21, 22, 23] A A5288 from (Md.tr Md.rf hA5288 rfl)), hV5288, y5287, rfl, rfl⟩ dX11_fired_16
  · skip
    refine g_iconst (v := (-1)) hk dX11_fired_4 (by decide) ?_
    refine g_goto (tgt := 16) hk dX11_fired_5 (by decide) ?_
    exact g_iret hk hR rfl ⟨I, A, (show Md [28, 30, 31, 32, 33, 34] I I from Md.rf), (show Md [21, 22, 23] A A from Md.rf), hIv, (-1), rfl, rfl⟩ dX11_fired_16
def wo_k264_X2_isLess : List Cond := [Cond.methodLink RX2 82 yX2_endsBound, Cond.instanceMethod yX2_endsBound, Cond.selects RX2 yX2_endsBound yX2_endsBound, Cond.initialized RX2, Cond.methodLink RX2 86 yX2_layTable, Cond.instanceMethod yX2_layTable, Cond.selects RX2 yX2_layTable yX2_layTable, Cond.fieldLink RX2 79 "WarpDesk$Fit" "brokenRow" "I", Cond.methodLink RX2 90 yX2_laidDistance, Cond.instanceMethod yX2_laidDistance, Cond.selects RX2 yX2_laidDistance yX2_laidDistance]
def wz_k264_X2_isLess : List Cond := .code yX2_isLess cX2_isLess 2 (some .boolean) :: (wo_k264_X2_isLess ++ (wsX20 ++ (wz_k239_X2_endsBound ++ (wz_k233_X2_layTable ++ (wz_k237_X2_laidDistance ++ ([] : List Cond))))))
theorem zg_k264_X2_isLess : ∀ w ∈ wz_k264_X2_isLess, goodWord w = true := zg_cons rfl (zg_app (by decide +kernel) (zg_app zgU_wsX20 (zg_app zg_k239_X2_endsBound (zg_app zg_k233_X2_layTable (zg_app zg_k237_X2_laidDistance zg_nil)))))
theorem zi_k264_X2_isLess : ∀ w ∈ wz_k264_X2_isLess, w ∈ lw_tbl := zi_cons zw_1127 (zi_app (zi_cons zw_1049 (zi_cons zw_1022 (zi_cons zw_1023 (zi_cons zw_112 (zi_cons zw_997 (zi_cons zw_999 (zi_cons zw_28 (zi_cons zw_350 (zi_cons zw_1013 (zi_cons zw_1014 (zi_cons zw_1015 zi_nil))))))))))) (zi_app inX2 (zi_app zi_k239_X2_endsBound (zi_app zi_k233_X2_layTable (zi_app zi_k237_X2_laidDistance zi_nil)))))
set_option maxHeartbeats 4000000 in
set_option maxRecDepth 100000 in
theorem k264_X2_isLess (l : Launch) (D : va_G) (zt : Nat × Nat × Nat × (Nat → Nat) × (Nat → Nat)) (q : Nat → Nat) (d : Nat → ClassId) (I : Nat → Int32) (A : Nat → Nat → Int32) (z1 : Int32) (hIv : IvX I A) : GM l D zt (tyX d) yX2_isLess wz_k264_X2_isLess ({ frames := 3, cells := 0, slots := 0, locals := 72 } : Room) [.ref (q 38), .int z1] (wX q d I A) (fun v _ w' => ∃ (I' : Nat → Int32) (A' : Nat → Nat → Int32), Md [33, 34] I I' ∧ Md [23] A A' ∧ IvX I' A' ∧ ∃ y0 : Int32, (0 ≤ y0.toInt) ∧ (y0.toInt ≤ 1) ∧ v = some (.int y0) ∧ w' = wX q d I' A') 0 0 := by
  refine GM.of (cc := cX2_isLess) (maxL := 2) (ret := (some .boolean)) (own := RX2) (lv := [(0, .ref (q 38)), (1, .int z1)]) (by decide) rfl rfl (Nat.le_of_ble_eq_true rfl) rfl (fun κ sz hk hR hN => ?_)
  have hin2 : ∀ w ∈ u_ws RX2 TX2 10, w ∈ wz_k264_X2_isLess := fun w h => (List.mem_cons_of_mem _ (List.mem_append_right _ (List.mem_append_left _ h)))
  refine g_aload_n hk dX2_isLess_0 rfl ?_
  refine g_callV (n := 0) hk (k239_X2_endsBound l D zt q d I A  hIv) (SP.same _) (fun _ h => h) (gi_V (List.mem_cons_of_mem _ (List.mem_append_left _ (List.mem_of_getElem? (i := 0) rfl))) (List.mem_cons_of_mem _ (List.mem_append_left _ (List.mem_of_getElem? (i := 1) rfl))) (List.mem_cons_of_mem _ (List.mem_append_left _ (List.mem_of_getElem? (i := 2) rfl))) (List.mem_cons_of_mem _ (List.mem_append_left _ (List.mem_of_getElem? (i := 3) rfl))) (gi_sub (fun w h => (List.mem_cons_of_mem _ (List.mem_append_right _ (List.mem_append_right _ (List.mem_append_left _ h))))) zg_k239_X2_endsBound)) rfl rfl rfl (by decide +kernel) ⟨Nat.le_of_ble_eq_true rfl, Nat.le_of_ble_eq_true rfl⟩ 38 rfl rfl rfl rfl (Nat.le_of_ble_eq_true rfl) ⟨Nat.le_of_ble_eq_true rfl, Nat.le_of_ble_eq_true rfl⟩ dX2_isLess_1 (fun v ty' w' hp hk' => ?_)
  obtain ⟨y5332, rfl, rfl⟩ := hp
  show GW κ 2 0 0 (wX q d I A) 4 [(0, .ref (q 38)), (1, .int z1)] [.int y5332]
  refine g_iload_n hk dX2_isLess_4 rfl ?_
  have b5333l := Int32.le_toInt y5332
  have b5333h := Int32.toInt_lt y5332
  have b5334l := Int32.le_toInt z1
  have b5334h := Int32.toInt_lt z1
  refine g_icmp_lt (tgt := 10) (a := y5332.toInt) (b := z1.toInt) hk dX2_isLess_5 (by decide) rfl rfl (fun c5335 => ?_) (fun c5335 => ?_)
  · skip
    refine g_aload_n hk dX2_isLess_10 rfl ?_
    refine g_iload_n hk dX2_isLess_11 rfl ?_
    refine g_callV (n := 1) hk (k233_X2_layTable l D zt q d I A z1 hIv) (SP.same _) (fun _ h => h) (gi_V (List.mem_cons_of_mem _ (List.mem_append_left _ (List.mem_of_getElem? (i := 4) rfl))) (List.mem_cons_of_mem _ (List.mem_append_left _ (List.mem_of_getElem? (i := 5) rfl))) (List.mem_cons_of_mem _ (List.mem_append_left _ (List.mem_of_getElem? (i := 6) rfl))) (List.mem_cons_of_mem _ (List.mem_append_left _ (List.mem_of_getElem? (i := 3) rfl))) (gi_sub (fun w h => (List.mem_cons_of_mem _ (List.mem_append_right _ (List.mem_append_right _ (List.mem_append_right _ (List.mem_append_left _ h)))))) zg_k233_X2_layTable)) rfl rfl rfl (by decide +kernel) ⟨Nat.le_of_ble_eq_true rfl, Nat.le_of_ble_eq_true rfl⟩ 38 rfl rfl rfl rfl (Nat.le_of_ble_eq_true rfl) ⟨Nat.le_of_ble_eq_true rfl, Nat.le_of_ble_eq_true rfl⟩ dX2_isLess_12 (fun v ty' w' hp hk' => ?_)
    obtain ⟨I5337, A5337, hI5337, hA5337, hV5337, rfl, rfl⟩ := hp
    show GW κ 2 0 0 (wX q d I5337 A5337) 15 [(0, .ref (q 38)), (1, .int z1)] []
    refine g_aload_n hk dX2_isLess_15 rfl ?_
    refine gX_i34 (v := (I5337 34)) hk hin2 (List.mem_cons_of_mem _ (List.mem_append_left _ (List.mem_of_getElem? (i := 7) rfl))) dX2_isLess_16 rfl ?_
    refine g_bipush (v := (-2)) hk dX2_isLess_19 (by decide) ?_
    have b5338l := Int32.le_toInt (I5337 34)
    have b5338h := Int32.toInt_lt (I5337 34)
    refine g_icmp_ne (tgt := 36) (a := (I5337 34).toInt) (b := (-2)) hk dX2_isLess_21 (by decide) rfl rfl (fun c5339 => ?_) (fun c5339 => ?_)
    · skip
      refine g_iconst (v := 0) hk dX2_isLess_36 (by decide) ?_
      exact g_iret hk hR rfl ⟨I5337, A5337, (show Md [33, 34] I I5337 from (Md.tr Md.rf hI5337 rfl)), (show Md [23] A A5337 from (Md.tr Md.rf hA5337 rfl)), hV5337, 0, (by decide), (by decide), rfl, rfl⟩ dX2_isLess_37
    · skip
      refine g_aload_n hk dX2_isLess_24 rfl ?_
      refine g_callV (n := 0) hk (k237_X2_laidDistance l D zt q d I5337 A5337  hV5337) (SP.same _) (fun _ h => h) (gi_V (List.mem_cons_of_mem _ (List.mem_append_left _ (List.mem_of_getElem? (i := 8) rfl))) (List.mem_cons_of_mem _ (List.mem_append_left _ (List.mem_of_getElem? (i := 9) rfl))) (List.mem_cons_of_mem _ (List.mem_append_left _ (List.mem_of_getElem? (i := 10) rfl))) (List.mem_cons_of_mem _ (List.mem_append_left _ (List.mem_of_getElem? (i := 3) rfl))) (gi_sub (fun w h => (List.mem_cons_of_mem _ (List.mem_append_right _ (List.mem_append_right _ (List.mem_append_right _ (List.mem_append_right _ (List.mem_append_left _ h))))))) zg_k237_X2_laidDistance)) rfl rfl rfl (by decide +kernel) ⟨Nat.le_of_ble_eq_true rfl, Nat.le_of_ble_eq_true rfl⟩ 38 rfl rfl rfl rfl (Nat.le_of_ble_eq_true rfl) ⟨Nat.le_of_ble_eq_true rfl, Nat.le_of_ble_eq_true rfl⟩ dX2_isLess_25 (fun v ty' w' hp hk' => ?_)
      obtain ⟨y5340, rfl, rfl⟩ := hp
      show GW κ 2 0 0 (wX q d I5337 A5337) 28 [(0, .ref (q 38)), (1, .int z1)] [.int y5340]
      refine g_iload_n hk dX2_isLess_28 rfl ?_
      have b5341l := Int32.le_toInt y5340
      have b5341h := Int32.toInt_lt y5340
      refine g_icmp_ge (tgt := 36) (a := y5340.toInt) (b := z1.toInt) hk dX2_isLess_29 (by decide) rfl rfl (fun c5342 => ?_) (fun c5342 => ?_)
      · skip
        refine g_iconst (v := 0) hk dX2_isLess_36 (by decide) ?_
        exact g_iret hk hR rfl ⟨I5337, A5337, (show Md [33, 34] I I5337 from (Md.tr Md.rf hI5337 rfl)), (show Md [23] A A5337 from (Md.tr Md.rf hA5337 rfl)), hV5337, 0, (by decide), (by decide), rfl, rfl⟩ dX2_isLess_37
      · skip
        refine g_iconst (v := 1) hk dX2_isLess_32 (by decide) ?_
        refine g_goto (tgt := 37) hk dX2_isLess_33 (by decide) ?_
        exact g_iret hk hR rfl ⟨I5337, A5337, (show Md [33, 34] I I5337 from (Md.tr Md.rf hI5337 rfl)), (show Md [23] A A5337 from (Md.tr Md.rf hA5337 rfl)), hV5337, 1, (by decide), (by decide), rfl, rfl⟩ dX2_isLess_37
  · skip
    refine g_iconst (v := 0) hk dX2_isLess_8 (by decide) ?_
    exact g_iret hk hR rfl ⟨I, A, (show Md [33, 34] I I from Md.rf), (show Md [23] A A from Md.rf), hIv, 0, (by decide), (by decide), rfl, rfl⟩ dX2_isLess_9
