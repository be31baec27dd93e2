def wo_k247_X2_lookAt : List Cond := [Cond.fieldLink RX2 76 "WarpDesk$Fit" "cells" "I", Cond.fieldLink RX2 79 "WarpDesk$Fit" "brokenRow" "I", Cond.methodLink RX2 82 yX2_endsBound, Cond.instanceMethod yX2_endsBound, Cond.selects RX2 yX2_endsBound yX2_endsBound, Cond.initialized RX2, Cond.fieldLink RX2 15 "WarpDesk$Fit" "right" "[I", Cond.fieldLink RX2 9 "WarpDesk$Fit" "left" "[I", Cond.methodLink RX2 68 yX2_envelopeBound, Cond.instanceMethod yX2_envelopeBound, Cond.selects RX2 yX2_envelopeBound yX2_envelopeBound, Cond.methodLink RX2 86 yX2_layTable, Cond.instanceMethod yX2_layTable, Cond.selects RX2 yX2_layTable yX2_layTable, Cond.methodLink RX2 90 yX2_laidDistance, Cond.instanceMethod yX2_laidDistance, Cond.selects RX2 yX2_laidDistance yX2_laidDistance]
def wz_k247_X2_lookAt : List Cond := .code yX2_lookAt cX2_lookAt 2 (some .int) :: (wo_k247_X2_lookAt ++ (wsX20 ++ (wz_k239_X2_endsBound ++ (wz_k241_X2_envelopeBound ++ (wz_k244_X2_envelopeBound ++ (wz_k233_X2_layTable ++ (wz_k237_X2_laidDistance ++ ([] : List Cond))))))))
theorem zg_k247_X2_lookAt : ∀ w ∈ wz_k247_X2_lookAt, goodWord w = true := zg_cons rfl (zg_app (by decide +kernel) (zg_app zgU_wsX20 (zg_app zg_k239_X2_endsBound (zg_app zg_k241_X2_envelopeBound (zg_app zg_k244_X2_envelopeBound (zg_app zg_k233_X2_layTable (zg_app zg_k237_X2_laidDistance zg_nil)))))))
theorem zi_k247_X2_lookAt : ∀ w ∈ wz_k247_X2_lookAt, w ∈ lw_tbl := zi_cons zw_1048 (zi_app (zi_cons zw_347 (zi_cons zw_350 (zi_cons zw_1049 (zi_cons zw_1022 (zi_cons zw_1023 (zi_cons zw_112 (zi_cons zw_337 (zi_cons zw_334 (zi_cons zw_1029 (zi_cons zw_1031 (zi_cons zw_32 (zi_cons zw_997 (zi_cons zw_999 (zi_cons zw_28 (zi_cons zw_1013 (zi_cons zw_1014 (zi_cons zw_1015 zi_nil))))))))))))))))) (zi_app inX2 (zi_app zi_k239_X2_endsBound (zi_app zi_k241_X2_envelopeBound (zi_app zi_k244_X2_envelopeBound (zi_app zi_k233_X2_layTable (zi_app zi_k237_X2_laidDistance zi_nil)))))))
set_option maxHeartbeats 4000000 in
set_option maxRecDepth 100000 in
theorem k247_X2_lookAt (l : Launch) (D : va_G) (zt : Nat × Nat × Nat × (Nat → Nat) × (Nat → Nat)) (q : Nat → Nat) (d : Nat → ClassId) (I : Nat → Int32) (A : Nat → Nat → Int32) (z1 : Int32) (hIv : IvX I A) : GM l D zt (tyX d) yX2_lookAt wz_k247_X2_lookAt ({ frames := 3, cells := 0, slots := 0, locals := 76 } : Room) [.ref (q 38), .int z1] (wX q d I A) (fun v _ w' => ∃ (I' : Nat → Int32) (A' : Nat → Nat → Int32), Md [33, 34] I I' ∧ Md [23] A A' ∧ IvX I' A' ∧ ∃ y0 : Int32, (0 ≤ y0.toInt) ∧ (y0.toInt ≤ 5) ∧ v = some (.int y0) ∧ w' = wX q d I' A') 0 0 := by
  refine GM.of (cc := cX2_lookAt) (maxL := 2) (ret := (some .int)) (own := RX2) (lv := [(0, .ref (q 38)), (1, .int z1)]) (by decide) rfl rfl (Nat.le_of_ble_eq_true rfl) rfl (fun κ sz hk hR hN => ?_)
  have hin2 : ∀ w ∈ u_ws RX2 TX2 10, w ∈ wz_k247_X2_lookAt := fun w h => (List.mem_cons_of_mem _ (List.mem_append_right _ (List.mem_append_left _ h)))
  refine g_aload_n hk dX2_lookAt_0 rfl ?_
  refine g_iconst (v := 0) hk dX2_lookAt_1 (by decide) ?_
  refine pX_i33 hk hin2 (List.mem_cons_of_mem _ (List.mem_append_left _ (List.mem_of_getElem? (i := 0) rfl))) dX2_lookAt_2 ?_
  refine g_aload_n hk dX2_lookAt_5 rfl ?_
  refine g_bipush (v := (-2)) hk dX2_lookAt_6 (by decide) ?_
  refine pX_i34 hk hin2 (List.mem_cons_of_mem _ (List.mem_append_left _ (List.mem_of_getElem? (i := 1) rfl))) dX2_lookAt_8 ?_
  refine g_aload_n hk dX2_lookAt_11 rfl ?_
  refine g_callV (n := 0) hk (k239_X2_endsBound l D zt q d (upd (upd I 33 0) 34 (-2)) A  ⟨(IvX_f0 (I := I) (A := A) hIv), (IvX_f18 (I := I) (A := A) hIv), (IvX_f30 (I := I) (A := A) hIv), (IvX_f31 (I := I) (A := A) hIv), (IvX_a4 (I := I) (A := A) hIv), (IvX_a9 (I := I) (A := A) hIv), trivial⟩) (SP.same _) (fun _ h => h) (gi_V (List.mem_cons_of_mem _ (List.mem_append_left _ (List.mem_of_getElem? (i := 2) rfl))) (List.mem_cons_of_mem _ (List.mem_append_left _ (List.mem_of_getElem? (i := 3) rfl))) (List.mem_cons_of_mem _ (List.mem_append_left _ (List.mem_of_getElem? (i := 4) rfl))) (List.mem_cons_of_mem _ (List.mem_append_left _ (List.mem_of_getElem? (i := 5) rfl))) (gi_sub (fun w h => (List.mem_cons_of_mem _ (List.mem_append_right _ (List.mem_append_right _ (List.mem_append_left _ h))))) zg_k239_X2_endsBound)) rfl rfl rfl (by decide +kernel) ⟨Nat.le_of_ble_eq_true rfl, Nat.le_of_ble_eq_true rfl⟩ 38 rfl rfl rfl rfl (Nat.le_of_ble_eq_true rfl) ⟨Nat.le_of_ble_eq_true rfl, Nat.le_of_ble_eq_true rfl⟩ dX2_lookAt_12 (fun v ty' w' hp hk' => ?_)
  obtain ⟨y4327, rfl, rfl⟩ := hp
  show GW κ 2 0 0 (wX q d (upd (upd I 33 0) 34 (-2)) A) 15 [(0, .ref (q 38)), (1, .int z1)] [.int y4327]
  refine g_iload_n hk dX2_lookAt_15 rfl ?_
  have b4328l := Int32.le_toInt y4327
  have b4328h := Int32.toInt_lt y4327
  have b4329l := Int32.le_toInt z1
  have b4329h := Int32.toInt_lt z1
  refine g_icmp_lt (tgt := 21) (a := y4327.toInt) (b := z1.toInt) hk dX2_lookAt_16 (by decide) rfl rfl (fun c4330 => ?_) (fun c4330 => ?_)
  · skip
    refine g_aload_n hk dX2_lookAt_21 rfl ?_
    refine g_aload_n hk dX2_lookAt_22 rfl ?_
    refine gX_r38_1 hk hin2 (List.mem_cons_of_mem _ (List.mem_append_left _ (List.mem_of_getElem? (i := 6) rfl))) dX2_lookAt_23 ?_
    refine g_aload_n hk dX2_lookAt_26 rfl ?_
    refine gX_r38_0 hk hin2 (List.mem_cons_of_mem _ (List.mem_append_left _ (List.mem_of_getElem? (i := 7) rfl))) dX2_lookAt_27 ?_
    refine g_callV (n := 2) hk (k241_X2_envelopeBound l D zt q d (upd (upd I 33 0) 34 (-2)) A  ⟨(IvX_f0 (I := I) (A := A) hIv), (IvX_f18 (I := I) (A := A) hIv), (IvX_f30 (I := I) (A := A) hIv), (IvX_f31 (I := I) (A := A) hIv), (IvX_a4 (I := I) (A := A) hIv), (IvX_a9 (I := I) (A := A) hIv), trivial⟩) (SP.same _) (fun _ h => h) (gi_V (List.mem_cons_of_mem _ (List.mem_append_left _ (List.mem_of_getElem? (i := 8) rfl))) (List.mem_cons_of_mem _ (List.mem_append_left _ (List.mem_of_getElem? (i := 9) rfl))) (List.mem_cons_of_mem _ (List.mem_append_left _ (List.mem_of_getElem? (i := 10) rfl))) (List.mem_cons_of_mem _ (List.mem_append_left _ (List.mem_of_getElem? (i := 5) rfl))) (gi_sub (fun w h => (List.mem_cons_of_mem _ (List.mem_append_right _ (List.mem_append_right _ (List.mem_append_right _ (List.mem_append_left _ h)))))) zg_k241_X2_envelopeBound)) rfl rfl rfl (by decide +kernel) ⟨Nat.le_of_ble_eq_true rfl, Nat.le_of_ble_eq_true rfl⟩ 38 rfl rfl rfl rfl (Nat.le_of_ble_eq_true rfl) ⟨Nat.le_of_ble_eq_true rfl, Nat.le_of_ble_eq_true rfl⟩ dX2_lookAt_30 (fun v ty' w' hp hk' => ?_)
    obtain ⟨y4331, rfl, rfl⟩ := hp
    show GW κ 2 0 0 (wX q d (upd (upd I 33 0) 34 (-2)) A) 33 [(0, .ref (q 38)), (1, .int z1)] [.int y4331]
    refine g_iload_n hk dX2_lookAt_33 rfl ?_
    have b4332l := Int32.le_toInt y4331
    have b4332h := Int32.toInt_lt y4331
    refine g_icmp_lt (tgt := 39) (a := y4331.toInt) (b := z1.toInt) hk dX2_lookAt_34 (by decide) rfl rfl (fun c4333 => ?_) (fun c4333 => ?_)
    · skip
      refine g_aload_n hk dX2_lookAt_39 rfl ?_
      refine g_aload_n hk dX2_lookAt_40 rfl ?_
      refine gX_r38_0 hk hin2 (List.mem_cons_of_mem _ (List.mem_append_left _ (List.mem_of_getElem? (i := 7) rfl))) dX2_lookAt_41 ?_
      refine g_aload_n hk dX2_lookAt_44 rfl ?_
      refine gX_r38_1 hk hin2 (List.mem_cons_of_mem _ (List.mem_append_left _ (List.mem_of_getElem? (i := 6) rfl))) dX2_lookAt_45 ?_
      refine g_callV (n := 2) hk (k244_X2_envelopeBound l D zt q d (upd (upd I 33 0) 34 (-2)) A  ⟨(IvX_f0 (I := I) (A := A) hIv), (IvX_f18 (I := I) (A := A) hIv), (IvX_f30 (I := I) (A := A) hIv), (IvX_f31 (I := I) (A := A) hIv), (IvX_a4 (I := I) (A := A) hIv), (IvX_a9 (I := I) (A := A) hIv), trivial⟩) (SP.same _) (fun _ h => h) (gi_V (List.mem_cons_of_mem _ (List.mem_append_left _ (List.mem_of_getElem? (i := 8) rfl))) (List.mem_cons_of_mem _ (List.mem_append_left _ (List.mem_of_getElem? (i := 9) rfl))) (List.mem_cons_of_mem _ (List.mem_append_left _ (List.mem_of_getElem? (i := 10) rfl))) (List.mem_cons_of_mem _ (List.mem_append_left _ (List.mem_of_getElem? (i := 5) rfl))) (gi_sub (fun w h => (List.mem_cons_of_mem _ (List.mem_append_right _ (List.mem_append_right _ (List.mem_append_right _ (List.mem_append_right _ (List.mem_append_left _ h))))))) zg_k244_X2_envelopeBound)) rfl rfl rfl (by decide +kernel) ⟨Nat.le_of_ble_eq_true rfl, Nat.le_of_ble_eq_true rfl⟩ 38 rfl rfl rfl rfl (Nat.le_of_ble_eq_true rfl) ⟨Nat.le_of_ble_eq_true rfl, Nat.le_of_ble_eq_true rfl⟩ dX2_lookAt_48 (fun v ty' w' hp hk' => ?_)
      obtain ⟨y4334, rfl, rfl⟩ := hp
      show GW κ 2 0 0 (wX q d (upd (upd I 33 0) 34 (-2)) A) 51 [(0, .ref (q 38)), (1, .int z1)] [.int y4334]
      refine g_iload_n hk dX2_lookAt_51 rfl ?_
      have b4335l := Int32.le_toInt y4334
      have b4335h := Int32.toInt_lt y4334
      refine g_icmp_lt (tgt := 57) (a := y4334.toInt) (b := z1.toInt) hk dX2_lookAt_52 (by decide) rfl rfl (fun c4336 => ?_) (fun c4336 => ?_)
      · skip
        refine g_aload_n hk dX2_lookAt_57 rfl ?_
        refine g_iload_n hk dX2_lookAt_58 rfl ?_
        refine g_callV (n := 1) hk (k233_X2_layTable l D zt q d (upd (upd I 33 0) 34 (-2)) A z1 ⟨(IvX_f0 (I := I) (A := A) hIv), (IvX_f18 (I := I) (A := A) hIv), (IvX_f30 (I := I) (A := A) hIv), (IvX_f31 (I := I) (A := A) hIv), (IvX_a4 (I := I) (A := A) hIv), (IvX_a9 (I := I) (A := A) hIv), trivial⟩) (SP.same _) (fun _ h => h) (gi_V (List.mem_cons_of_mem _ (List.mem_append_left _ (List.mem_of_getElem? (i := 11) rfl))) (List.mem_cons_of_mem _ (List.mem_append_left _ (List.mem_of_getElem? (i := 12) rfl))) (List.mem_cons_of_mem _ (List.mem_append_left _ (List.mem_of_getElem? (i := 13) rfl))) (List.mem_cons_of_mem _ (List.mem_append_left _ (List.mem_of_getElem? (i := 5) rfl))) (gi_sub (fun w h => (List.mem_cons_of_mem _ (List.mem_append_right _ (List.mem_append_right _ (List.mem_append_right _ (List.mem_append_right _ (List.mem_append_right _ (List.mem_append_left _ h)))))))) zg_k233_X2_layTable)) rfl rfl rfl (by decide +kernel) ⟨Nat.le_of_ble_eq_true rfl, Nat.le_of_ble_eq_true rfl⟩ 38 rfl rfl rfl rfl (Nat.le_of_ble_eq_true rfl) ⟨Nat.le_of_ble_eq_true rfl, Nat.le_of_ble_eq_true rfl⟩ dX2_lookAt_59 (fun v ty' w' hp hk' => ?_)
        obtain ⟨I4338, A4338, hI4338, hA4338, hV4338, rfl, rfl⟩ := hp
        show GW κ 2 0 0 (wX q d I4338 A4338) 62 [(0, .ref (q 38)), (1, .int z1)] []
        refine g_aload_n hk dX2_lookAt_62 rfl ?_
        refine gX_i34 (v := (I4338 34)) hk hin2 (List.mem_cons_of_mem _ (List.mem_append_left _ (List.mem_of_getElem? (i := 1) rfl))) dX2_lookAt_63 rfl ?_
        refine g_bipush (v := (-2)) hk dX2_lookAt_66 (by decide) ?_
        have b4339l := Int32.le_toInt (I4338 34)
        have b4339h := Int32.toInt_lt (I4338 34)
        refine g_icmp_eq (tgt := 73) (a := (I4338 34).toInt) (b := (-2)) hk dX2_lookAt_68 (by decide) rfl rfl (fun c4340 => ?_) (fun c4340 => ?_)
        · skip
          refine g_aload_n hk dX2_lookAt_73 rfl ?_
          refine g_callV (n := 0) hk (k237_X2_laidDistance l D zt q d I4338 A4338  hV4338) (SP.same _) (fun _ h => h) (gi_V (List.mem_cons_of_mem _ (List.mem_append_left _ (List.mem_of_getElem? (i := 14) rfl))) (List.mem_cons_of_mem _ (List.mem_append_left _ (List.mem_of_getElem? (i := 15) rfl))) (List.mem_cons_of_mem _ (List.mem_append_left _ (List.mem_of_getElem? (i := 16) rfl))) (List.mem_cons_of_mem _ (List.mem_append_left _ (List.mem_of_getElem? (i := 5) rfl))) (gi_sub (fun w h => (List.mem_cons_of_mem _ (List.mem_append_right _ (List.mem_append_right _ (List.mem_append_right _ (List.mem_append_right _ (List.mem_append_right _ (List.mem_append_right _ (List.mem_append_left _ h))))))))) zg_k237_X2_laidDistance)) rfl rfl rfl (by decide +kernel) ⟨Nat.le_of_ble_eq_true rfl, Nat.le_of_ble_eq_true rfl⟩ 38 rfl rfl rfl rfl (Nat.le_of_ble_eq_true rfl) ⟨Nat.le_of_ble_eq_true rfl, Nat.le_of_ble_eq_true rfl⟩ dX2_lookAt_74 (fun v ty' w' hp hk' => ?_)
          obtain ⟨y4341, rfl, rfl⟩ := hp
          show GW κ 2 0 0 (wX q d I4338 A4338) 77 [(0, .ref (q 38)), (1, .int z1)] [.int y4341]
          refine g_iload_n hk dX2_lookAt_77 rfl ?_
          have b4342l := Int32.le_toInt y4341
          have b4342h := Int32.toInt_lt y4341
          refine g_icmp_lt (tgt := 85) (a := y4341.toInt) (b := z1.toInt) hk dX2_lookAt_78 (by decide) rfl rfl (fun c4343 => ?_) (fun c4343 => ?_)
          · skip
            refine g_iconst (v := 0) hk dX2_lookAt_85 (by decide) ?_
            exact g_iret hk hR rfl ⟨I4338, A4338, (show Md [33, 34] I I4338 from (Md.tr (Md.up (Md.up Md.rf rfl) rfl) hI4338 rfl)), (show Md [23] A A4338 from (Md.tr Md.rf hA4338 rfl)), hV4338, 0, (by decide), (by decide), rfl, rfl⟩ dX2_lookAt_86
          · skip
            refine g_iconst (v := 5) hk dX2_lookAt_81 (by decide) ?_
            refine g_goto (tgt := 86) hk dX2_lookAt_82 (by decide) ?_
            exact g_iret hk hR rfl ⟨I4338, A4338, (show Md [33, 34] I I4338 from (Md.tr (Md.up (Md.up Md.rf rfl) rfl) hI4338 rfl)), (show Md [23] A A4338 from (Md.tr Md.rf hA4338 rfl)), hV4338, 5, (by decide), (by decide), rfl, rfl⟩ dX2_lookAt_86
        · skip
          refine g_iconst (v := 4) hk dX2_lookAt_71 (by decide) ?_
          exact g_iret hk hR rfl ⟨I4338, A4338, (show Md [33, 34] I I4338 from (Md.tr (Md.up (Md.up Md.rf rfl) rfl) hI4338 rfl)), (show Md [23] A A4338 from (Md.tr Md.rf hA4338 rfl)), hV4338, 4, (by decide), (by decide), rfl, rfl⟩ dX2_lookAt_72
      · skip
        refine g_iconst (v := 3) hk dX2_lookAt_55 (by decide) ?_
        exact g_iret hk hR rfl ⟨(upd (upd I 33 0) 34 (-2)), A, (show Md [33, 34] I (upd (upd I 33 0) 34 (-2)) from (Md.up (Md.up Md.rf rfl) rfl)), (show Md [23] A A from Md.rf), ⟨(IvX_f0 (I := I) (A := A) hIv), (IvX_f18 (I := I) (A := A) hIv), (IvX_f30 (I := I) (A := A) hIv), (IvX_f31 (I := I) (A := A) hIv), (IvX_a4 (I := I) (A := A) hIv), (IvX_a9 (I := I) (A := A) hIv), trivial⟩, 3, (by decide), (by decide), rfl, rfl⟩ dX2_lookAt_56
    · skip
      refine g_iconst (v := 2) hk dX2_lookAt_37 (by decide) ?_
      exact g_iret hk hR rfl ⟨(upd (upd I 33 0) 34 (-2)), A, (show Md [33, 34] I (upd (upd I 33 0) 34 (-2)) from (Md.up (Md.up Md.rf rfl) rfl)), (show Md [23] A A from Md.rf), ⟨(IvX_f0 (I := I) (A := A) hIv), (IvX_f18 (I := I) (A := A) hIv), (IvX_f30 (I := I) (A := A) hIv), (IvX_f31 (I := I) (A := A) hIv), (IvX_a4 (I := I) (A := A) hIv), (IvX_a9 (I := I) (A := A) hIv), trivial⟩, 2, (by decide), (by decide), rfl, rfl⟩ dX2_lookAt_38
  · skip
    refine g_iconst (v := 1) hk dX2_lookAt_19 (by decide) ?_
    exact g_iret hk hR rfl ⟨(upd (upd I 33 0) 34 (-2)), A, (show Md [33, 34] I (upd (upd I 33 0) 34 (-2)) from (Md.up (Md.up Md.rf rfl) rfl)), (show Md [23] A A from Md.rf), ⟨(IvX_f0 (I := I) (A := A) hIv), (IvX_f18 (I := I) (A := A) hIv), (IvX_f30 (I := I) (A := A) hIv), (IvX_f31 (I := I) (A := A) hIv), (IvX_a4 (I := I) (A := A) hIv), (IvX_a9 (I := I) (A := A) hIv), trivial⟩, 1, (by decide), (by decide), rfl, rfl⟩ dX2_lookAt_20
def wo_k246_X11_look : List Cond := [Cond.fieldLink RX11 65 "WarpDesk" "bench" "LWarpDesk$Bench;", Cond.methodLink RX11 212 yX0_openBoth, Cond.instanceMethod yX0_openBoth, Cond.selects RX0 yX0_openBoth yX0_openBoth, Cond.initialized RX0, Cond.fieldLink RX11 202 "WarpDesk$Bench" "fit" "LWarpDesk$Fit;", Cond.methodLink RX11 227 yX2_lookAt, Cond.instanceMethod yX2_lookAt, Cond.selects RX2 yX2_lookAt yX2_lookAt, Cond.initialized RX2, Cond.fieldLink RX11 233 "WarpDesk$Fit" "brokenRow" "I", Cond.fieldLink RX11 230 "WarpDesk$Fit" "cells" "I"]
def wz_k246_X11_look : List Cond := .code yX11_look cX11_look 6 (some .int) :: (wo_k246_X11_look ++ (wsX00 ++ (wsX20 ++ (wsX110 ++ (wz_k222_X0_openBoth ++ (wz_k247_X2_lookAt ++ ([] : List Cond)))))))
theorem zg_k246_X11_look : ∀ w ∈ wz_k246_X11_look, goodWord w = true := zg_cons rfl (zg_app (by decide +kernel) (zg_app zgU_wsX00 (zg_app zgU_wsX20 (zg_app zgU_wsX110 (zg_app zg_k222_X0_openBoth (zg_app zg_k247_X2_lookAt zg_nil))))))
theorem zi_k246_X11_look : ∀ w ∈ wz_k246_X11_look, w ∈ lw_tbl := zi_cons zw_1044 (zi_app (zi_cons zw_494 (zi_cons zw_969 (zi_cons zw_970 (zi_cons zw_971 (zi_cons zw_111 (zi_cons zw_383 (zi_cons zw_1045 (zi_cons zw_1046 (zi_cons zw_1047 (zi_cons zw_112 (zi_cons zw_351 (zi_cons zw_348 zi_nil)))))))))))) (zi_app inX0 (zi_app inX2 (zi_app inX11 (zi_app zi_k222_X0_openBoth (zi_app zi_k247_X2_lookAt zi_nil))))))
set_option maxHeartbeats 4000000 in
set_option maxRecDepth 100000 in
theorem k246_X11_look (l : Launch) (D : va_G) (zt : Nat × Nat × Nat × (Nat → Nat) × (Nat → Nat)) (q : Nat → Nat) (d : Nat → ClassId) (I : Nat → Int32) (A : Nat → Nat → Int32) (z1 : Int32) (z2 : Int32) (z3 : Int32) (z4 : Int32) (hIv : IvX I A) : GM l D zt (tyX d) yX11_look wz_k246_X11_look ({ frames := 6, cells := 0, slots := 0, locals := 131 } : Room) [.ref (q 0), .int z1, .int z2, .int z3, .int z4] (wX q d I A) (fun v _ w' => ∃ (I' : Nat → Int32) (A' : Nat → Nat → Int32), Md [28, 30, 31, 32, 33, 34] I I' ∧ Md [21, 22, 23] A A' ∧ IvX I' A' ∧ ∃ y0 : Int32, v = some (.int y0) ∧ w' = wX q d I' A') 0 0 := by
  refine GM.of (cc := cX11_look) (maxL := 6) (ret := (some .int)) (own := RX11) (lv := [(0, .ref (q 0)), (1, .int z1), (2, .int z2), (3, .int z3), (4, .int z4)]) (by decide) rfl rfl (Nat.le_of_ble_eq_true rfl) rfl (fun κ sz hk hR hN => ?_)
  have hin0 : ∀ w ∈ u_ws RX0 TX0 5, w ∈ wz_k246_X11_look := fun w h => (List.mem_cons_of_mem _ (List.mem_append_right _ (List.mem_append_left _ h)))
  have hin2 : ∀ w ∈ u_ws RX2 TX2 10, w ∈ wz_k246_X11_look := fun w h => (List.mem_cons_of_mem _ (List.mem_append_right _ (List.mem_append_right _ (List.mem_append_left _ h))))
  have hin11 : ∀ w ∈ u_ws RX11 TX11 10, w ∈ wz_k246_X11_look := fun w h => (List.mem_cons_of_mem _ (List.mem_append_right _ (List.mem_append_right _ (List.mem_append_right _ (List.mem_append_left _ h)))))
  refine g_iload_n hk dX11_look_0 rfl ?_
  have b4317l := Int32.le_toInt z3
  have b4317h := Int32.toInt_lt z3
  refine g_if_lt (tgt := 27) (a := z3.toInt) hk dX11_look_1 (by decide) rfl (fun c4318 => ?_) (fun c4318 => ?_)
  · skip
    refine g_iconst (v := (-1)) hk dX11_look_27 (by decide) ?_
    exact g_iret hk hR rfl ⟨I, A, (show Md [28, 30, 31, 32, 33, 34] I I from Md.rf), (show Md [21, 22, 23] A A from Md.rf), hIv, (-1), rfl, rfl⟩ dX11_look_28
  · skip
    refine g_iload hk dX11_look_4 rfl ?_
    have b4319l := Int32.le_toInt z4
    have b4319h := Int32.toInt_lt z4
    refine g_if_lt (tgt := 27) (a := z4.toInt) hk dX11_look_6 (by decide) rfl (fun c4320 => ?_) (fun c4320 => ?_)
    · skip
      refine g_iconst (v := (-1)) hk dX11_look_27 (by decide) ?_
      exact g_iret hk hR rfl ⟨I, A, (show Md [28, 30, 31, 32, 33, 34] I I from Md.rf), (show Md [21, 22, 23] A A from Md.rf), hIv, (-1), rfl, rfl⟩ dX11_look_28
    · skip
      refine g_iload hk dX11_look_9 rfl ?_
      refine g_iconst (v := 2) hk dX11_look_11 (by decide) ?_
      refine g_icmp_gt (tgt := 27) (a := z4.toInt) (b := 2) hk dX11_look_12 (by decide) rfl rfl (fun c4321 => ?_) (fun c4321 => ?_)
      · skip
        refine g_iconst (v := (-1)) hk dX11_look_27 (by decide) ?_
        exact g_iret hk hR rfl ⟨I, A, (show Md [28, 30, 31, 32, 33, 34] I I from Md.rf), (show Md [21, 22, 23] A A from Md.rf), hIv, (-1), rfl, rfl⟩ dX11_look_28
      · skip
        refine g_aload_n hk dX11_look_15 rfl ?_
        refine gX_r0_7 hk hin11 (List.mem_cons_of_mem _ (List.mem_append_left _ (List.mem_of_getElem? (i := 0) rfl))) dX11_look_16 ?_
        refine g_iload_n hk dX11_look_19 rfl ?_
        refine g_iload_n hk dX11_look_20 rfl ?_
        refine g_callV (n := 2) hk (k222_X0_openBoth l D zt q d I A z1 z2 hIv) (SP.same _) (fun _ h => h) (gi_V (List.mem_cons_of_mem _ (List.mem_append_left _ (List.mem_of_getElem? (i := 1) rfl))) (List.mem_cons_of_mem _ (List.mem_append_left _ (List.mem_of_getElem? (i := 2) rfl))) (List.mem_cons_of_mem _ (List.mem_append_left _ (List.mem_of_getElem? (i := 3) rfl))) (List.mem_cons_of_mem _ (List.mem_append_left _ (List.mem_of_getElem? (i := 4) rfl))) (gi_sub (fun w h => (List.mem_cons_of_mem _ (List.mem_append_right _ (List.mem_append_right _ (List.mem_append_right _ (List.mem_append_right _ (List.mem_append_left _ h))))))) zg_k222_X0_openBoth)) rfl rfl rfl (by decide +kernel) ⟨Nat.le_of_ble_eq_true rfl, Nat.le_of_ble_eq_true rfl⟩ 37 rfl rfl rfl rfl (Nat.le_of_ble_eq_true rfl) ⟨Nat.le_of_ble_eq_true rfl, Nat.le_of_ble_eq_true rfl⟩ dX11_look_21 (fun v ty' w' hp hk' => ?_)
        obtain ⟨I4325, A4325, hI4325, hA4325, hV4325, y4322, c4323, c4324, rfl, rfl⟩ := hp
        show GW κ 6 0 0 (wX q d I4325 A4325) 24 [(0, .ref (q 0)), (1, .int z1), (2, .int z2), (3, .int z3), (4, .int z4)] [.int y4322]
        refine g_if_ne (tgt := 29) (a := y4322.toInt) hk dX11_look_24 (by decide) rfl (fun c4326 => ?_) (fun c4326 => ?_)
        · skip
          refine g_aload_n hk dX11_look_29 rfl ?_
          refine gX_r0_7 hk hin11 (List.mem_cons_of_mem _ (List.mem_append_left _ (List.mem_of_getElem? (i := 0) rfl))) dX11_look_30 ?_
          refine gX_r37_3 hk hin0 (List.mem_cons_of_mem _ (List.mem_append_left _ (List.mem_of_getElem? (i := 5) rfl))) dX11_look_33 ?_
          refine g_iload_n hk dX11_look_36 rfl ?_
          refine g_callV (n := 1) hk (k247_X2_lookAt l D zt q d I4325 A4325 z3 hV4325) (SP.same _) (fun _ h => h) (gi_V (List.mem_cons_of_mem _ (List.mem_append_left _ (List.mem_of_getElem? (i := 6) rfl))) (List.mem_cons_of_mem _ (List.mem_append_left _ (List.mem_of_getElem? (i := 7) rfl))) (List.mem_cons_of_mem _ (List.mem_append_left _ (List.mem_of_getElem? (i := 8) rfl))) (List.mem_cons_of_mem _ (List.mem_append_left _ (List.mem_of_getElem? (i := 9) rfl))) (gi_sub (fun w h => (List.mem_cons_of_mem _ (List.mem_append_right _ (List.mem_append_right _ (List.mem_append_right _ (List.mem_append_right _ (List.mem_append_right _ (List.mem_append_left _ h)))))))) zg_k247_X2_lookAt)) rfl rfl rfl (by decide +kernel) ⟨Nat.le_of_ble_eq_true rfl, Nat.le_of_ble_eq_true rfl⟩ 38 rfl rfl rfl rfl (Nat.le_of_ble_eq_true rfl) ⟨Nat.le_of_ble_eq_true rfl, Nat.le_of_ble_eq_true rfl⟩ dX11_look_37 (fun v ty' w' hp hk' => ?_)
          obtain ⟨I4347, A4347, hI4347, hA4347, hV4347, y4344, c4345, c4346, rfl, rfl⟩ := hp
          show GW κ 6 0 0 (wX q d I4347 A4347) 40 [(0, .ref (q 0)), (1, .int z1), (2, .int z2), (3, .int z3), (4, .int z4)] [.int y4344]
          refine g_istore (lv' := [(5, .int y4344), (0, .ref (q 0)), (1, .int z1), (2, .int z2), (3, .int z3), (4, .int z4)]) hk dX11_look_40 (by decide) rfl ?_
          refine g_iload hk dX11_look_42 rfl ?_
          refine g_if_ne (tgt := 50) (a := z4.toInt) hk dX11_look_44 (by decide) rfl (fun c4348 => ?_) (fun c4348 => ?_)
          · skip
            refine g_iload hk dX11_look_50 rfl ?_
            refine g_iconst (v := 1) hk dX11_look_52 (by decide) ?_
            refine g_icmp_ne (tgt := 69) (a := z4.toInt) (b := 1) hk dX11_look_53 (by decide) rfl rfl (fun c4349 => ?_) (fun c4349 => ?_)
            · skip
              refine g_aload_n hk dX11_look_69 rfl ?_
              refine gX_r0_7 hk hin11 (List.mem_cons_of_mem _ (List.mem_append_left _ (List.mem_of_getElem? (i := 0) rfl))) dX11_look_70 ?_
              refine gX_r37_3 hk hin0 (List.mem_cons_of_mem _ (List.mem_append_left _ (List.mem_of_getElem? (i := 5) rfl))) dX11_look_73 ?_
              refine gX_i34 (v := (I4347 34)) hk hin2 (List.mem_cons_of_mem _ (List.mem_append_left _ (List.mem_of_getElem? (i := 10) rfl))) dX11_look_76 rfl ?_
              have b4350l := Int32.le_toInt (I4347 34)
              have b4350h := Int32.toInt_lt (I4347 34)
              exact g_iret hk hR rfl ⟨I4347, A4347, (show Md [28, 30, 31, 32, 33, 34] I I4347 from (Md.tr (Md.tr Md.rf hI4325 rfl) hI4347 rfl)), (show Md [21, 22, 23] A A4347 from (Md.tr (Md.tr Md.rf hA4325 rfl) hA4347 rfl)), hV4347, (I4347 34), rfl, rfl⟩ dX11_look_79
            · skip
              refine g_aload_n hk dX11_look_56 rfl ?_
              refine gX_r0_7 hk hin11 (List.mem_cons_of_mem _ (List.mem_append_left _ (List.mem_of_getElem? (i := 0) rfl))) dX11_look_57 ?_
              refine gX_r37_3 hk hin0 (List.mem_cons_of_mem _ (List.mem_append_left _ (List.mem_of_getElem? (i := 5) rfl))) dX11_look_60 ?_
              refine gX_i33 (v := (I4347 33)) hk hin2 (List.mem_cons_of_mem _ (List.mem_append_left _ (List.mem_of_getElem? (i := 11) rfl))) dX11_look_63 rfl ?_
              refine g_goto (tgt := 79) hk dX11_look_66 (by decide) ?_
              have b4351l := Int32.le_toInt (I4347 33)
              have b4351h := Int32.toInt_lt (I4347 33)
              exact g_iret hk hR rfl ⟨I4347, A4347, (show Md [28, 30, 31, 32, 33, 34] I I4347 from (Md.tr (Md.tr Md.rf hI4325 rfl) hI4347 rfl)), (show Md [21, 22, 23] A A4347 from (Md.tr (Md.tr Md.rf hA4325 rfl) hA4347 rfl)), hV4347, (I4347 33), rfl, rfl⟩ dX11_look_79
          · skip
            refine g_iload hk dX11_look_47 rfl ?_
            exact g_iret hk hR rfl ⟨I4347, A4347, (show Md [28, 30, 31, 32, 33, 34] I I4347 from (Md.tr (Md.tr Md.rf hI4325 rfl) hI4347 rfl)), (show Md [21, 22, 23] A A4347 from (Md.tr (Md.tr Md.rf hA4325 rfl) hA4347 rfl)), hV4347, y4344, rfl, rfl⟩ dX11_look_49
        · skip
          refine g_iconst (v := (-1)) hk dX11_look_27 (by decide) ?_
          exact g_iret hk hR rfl ⟨I4325, A4325, (show Md [28, 30, 31, 32, 33, 34] I I4325 from (Md.tr Md.rf hI4325 rfl)), (show Md [21, 22, 23] A A4325 from (Md.tr Md.rf hA4325 rfl)), hV4325, (-1), rfl, rfl⟩ dX11_look_28
def wo_k250_X2_cellAt : List Cond := [Cond.constant RX2 93 (2147483647), Cond.fieldLink RX2 24 "WarpDesk$Fit" "length" "I", Cond.fieldLink RX2 37 "WarpDesk$Fit" "band" "I", Cond.fieldLink RX2 18 "WarpDesk$Fit" "table" "[I"]
def wz_k250_X2_cellAt : List Cond := .code yX2_cellAt cX2_cellAt 4 (some .int) :: (wo_k250_X2_cellAt ++ (wsX20 ++ ([] : List Cond)))
theorem zg_k250_X2_cellAt : ∀ w ∈ wz_k250_X2_cellAt, goodWord w = true := zg_cons rfl (zg_app (by decide +kernel) (zg_app zgU_wsX20 zg_nil))
theorem zi_k250_X2_cellAt : ∀ w ∈ wz_k250_X2_cellAt, w ∈ lw_tbl := zi_cons zw_1061 (zi_app (zi_cons zw_996 (zi_cons zw_343 (zi_cons zw_344 (zi_cons zw_339 zi_nil)))) (zi_app inX2 zi_nil))
set_option maxHeartbeats 4000000 in
set_option maxRecDepth 100000 in
theorem k250_X2_cellAt (l : Launch) (D : va_G) (zt : Nat × Nat × Nat × (Nat → Nat) × (Nat → Nat)) (q : Nat → Nat) (d : Nat → ClassId) (I : Nat → Int32) (A : Nat → Nat → Int32) (z1 : Int32) (z2 : Int32) (hIv : IvX I A) : GM l D zt (tyX d) yX2_cellAt wz_k250_X2_cellAt ({ frames := 0, cells := 0, slots := 0, locals := 0 } : Room) [.ref (q 38), .int z1, .int z2] (wX q d I A) (fun v _ w' => ∃ y0 : Int32, v = some (.int y0) ∧ w' = wX q d I A) 0 0 := by
  refine GM.of (cc := cX2_cellAt) (maxL := 4) (ret := (some .int)) (own := RX2) (lv := [(0, .ref (q 38)), (1, .int z1), (2, .int z2)]) (by decide) rfl rfl (Nat.le_of_ble_eq_true rfl) rfl (fun κ sz hk hR hN => ?_)
  have hin2 : ∀ w ∈ u_ws RX2 TX2 10, w ∈ wz_k250_X2_cellAt := fun w h => (List.mem_cons_of_mem _ (List.mem_append_right _ (List.mem_append_left _ h)))
  refine g_iload_n hk dX2_cellAt_0 rfl ?_
  have b4372l := Int32.le_toInt z1
  have b4372h := Int32.toInt_lt z1
  refine g_if_lt (tgt := 48) (a := z1.toInt) hk dX2_cellAt_1 (by decide) rfl (fun c4373 => ?_) (fun c4373 => ?_)
  · skip
    refine g_iconst (v := 0) hk dX2_cellAt_48 (by decide) ?_
    refine g_istore_n (lv' := [(3, .int 0), (0, .ref (q 38)), (1, .int z1), (2, .int z2)]) hk dX2_cellAt_49 (by decide) rfl ?_
    refine g_iload_n hk dX2_cellAt_50 rfl ?_
    refine g_if_eq (tgt := 68) (a := 0) hk dX2_cellAt_51 (by decide) rfl (fun _ => ?_) (fun z9 => absurd (show (0 : Int) = (0 : Int) from by decide) z9)
    refine g_ldc (v := 2147483647) hk (List.mem_cons_of_mem _ (List.mem_append_left _ (List.mem_of_getElem? (i := 0) rfl))) dX2_cellAt_68 ?_
    exact g_iret hk hR rfl ⟨2147483647, rfl, rfl⟩ dX2_cellAt_70
  · skip
    refine g_iload_n hk dX2_cellAt_4 rfl ?_
    have b4374l := Int32.le_toInt z2
    have b4374h := Int32.toInt_lt z2
    refine g_if_lt (tgt := 48) (a := z2.toInt) hk dX2_cellAt_5 (by decide) rfl (fun c4375 => ?_) (fun c4375 => ?_)
    · skip
      refine g_iconst (v := 0) hk dX2_cellAt_48 (by decide) ?_
      refine g_istore_n (lv' := [(3, .int 0), (0, .ref (q 38)), (1, .int z1), (2, .int z2)]) hk dX2_cellAt_49 (by decide) rfl ?_
      refine g_iload_n hk dX2_cellAt_50 rfl ?_
      refine g_if_eq (tgt := 68) (a := 0) hk dX2_cellAt_51 (by decide) rfl (fun _ => ?_) (fun z9 => absurd (show (0 : Int) = (0 : Int) from by decide) z9)
      refine g_ldc (v := 2147483647) hk (List.mem_cons_of_mem _ (List.mem_append_left _ (List.mem_of_getElem? (i := 0) rfl))) dX2_cellAt_68 ?_
      exact g_iret hk hR rfl ⟨2147483647, rfl, rfl⟩ dX2_cellAt_70
    · skip
      refine g_iload_n hk dX2_cellAt_8 rfl ?_
      refine g_aload_n hk dX2_cellAt_9 rfl ?_
      refine gX_i30 (v := (I 30)) hk hin2 (List.mem_cons_of_mem _ (List.mem_append_left _ (List.mem_of_getElem? (i := 1) rfl))) dX2_cellAt_10 rfl ?_
      have f4376 := IvX_f30 hIv
      refine g_icmp_ge (tgt := 48) (a := z1.toInt) (b := (I 30).toInt) hk dX2_cellAt_13 (by decide) rfl rfl (fun c4377 => ?_) (fun c4377 => ?_)
      · skip
        refine g_iconst (v := 0) hk dX2_cellAt_48 (by decide) ?_
        refine g_istore_n (lv' := [(3, .int 0), (0, .ref (q 38)), (1, .int z1), (2, .int z2)]) hk dX2_cellAt_49 (by decide) rfl ?_
        refine g_iload_n hk dX2_cellAt_50 rfl ?_
        refine g_if_eq (tgt := 68) (a := 0) hk dX2_cellAt_51 (by decide) rfl (fun _ => ?_) (fun z9 => absurd (show (0 : Int) = (0 : Int) from by decide) z9)
        refine g_ldc (v := 2147483647) hk (List.mem_cons_of_mem _ (List.mem_append_left _ (List.mem_of_getElem? (i := 0) rfl))) dX2_cellAt_68 ?_
        exact g_iret hk hR rfl ⟨2147483647, rfl, rfl⟩ dX2_cellAt_70
      · skip
        refine g_iload_n hk dX2_cellAt_16 rfl ?_
        refine g_aload_n hk dX2_cellAt_17 rfl ?_
        refine gX_i30 (v := (I 30)) hk hin2 (List.mem_cons_of_mem _ (List.mem_append_left _ (List.mem_of_getElem? (i := 1) rfl))) dX2_cellAt_18 rfl ?_
        refine g_icmp_ge (tgt := 48) (a := z2.toInt) (b := (I 30).toInt) hk dX2_cellAt_21 (by decide) rfl rfl (fun c4378 => ?_) (fun c4378 => ?_)
        · skip
          refine g_iconst (v := 0) hk dX2_cellAt_48 (by decide) ?_
          refine g_istore_n (lv' := [(3, .int 0), (0, .ref (q 38)), (1, .int z1), (2, .int z2)]) hk dX2_cellAt_49 (by decide) rfl ?_
          refine g_iload_n hk dX2_cellAt_50 rfl ?_
          refine g_if_eq (tgt := 68) (a := 0) hk dX2_cellAt_51 (by decide) rfl (fun _ => ?_) (fun z9 => absurd (show (0 : Int) = (0 : Int) from by decide) z9)
          refine g_ldc (v := 2147483647) hk (List.mem_cons_of_mem _ (List.mem_append_left _ (List.mem_of_getElem? (i := 0) rfl))) dX2_cellAt_68 ?_
          exact g_iret hk hR rfl ⟨2147483647, rfl, rfl⟩ dX2_cellAt_70
        · skip
          refine g_iload_n hk dX2_cellAt_24 rfl ?_
          refine g_iload_n hk dX2_cellAt_25 rfl ?_
          refine g_isub hk dX2_cellAt_26 ?_
          refine g_topi (fun y4379 ey4379 => ?_)
          have hy4379 : y4379.toInt = z1.toInt - z2.toInt := i32_sub ey4379 rfl rfl (by omega) (by omega)
          refine g_aload_n hk dX2_cellAt_27 rfl ?_
          refine gX_i31 (v := (I 31)) hk hin2 (List.mem_cons_of_mem _ (List.mem_append_left _ (List.mem_of_getElem? (i := 2) rfl))) dX2_cellAt_28 rfl ?_
          have f4380 := IvX_f31 hIv
          have b4381l := Int32.le_toInt (I 31)
          have b4381h := Int32.toInt_lt (I 31)
          refine g_icmp_gt (tgt := 48) (a := y4379.toInt) (b := (I 31).toInt) hk dX2_cellAt_31 (by decide) rfl rfl (fun c4382 => ?_) (fun c4382 => ?_)
          · skip
            refine g_iconst (v := 0) hk dX2_cellAt_48 (by decide) ?_
            refine g_istore_n (lv' := [(3, .int 0), (0, .ref (q 38)), (1, .int z1), (2, .int z2)]) hk dX2_cellAt_49 (by decide) rfl ?_
            refine g_iload_n hk dX2_cellAt_50 rfl ?_
            refine g_if_eq (tgt := 68) (a := 0) hk dX2_cellAt_51 (by decide) rfl (fun _ => ?_) (fun z9 => absurd (show (0 : Int) = (0 : Int) from by decide) z9)
            refine g_ldc (v := 2147483647) hk (List.mem_cons_of_mem _ (List.mem_append_left _ (List.mem_of_getElem? (i := 0) rfl))) dX2_cellAt_68 ?_
            exact g_iret hk hR rfl ⟨2147483647, rfl, rfl⟩ dX2_cellAt_70
          · skip
            refine g_iload_n hk dX2_cellAt_34 rfl ?_
            refine g_iload_n hk dX2_cellAt_35 rfl ?_
            refine g_isub hk dX2_cellAt_36 ?_
            refine g_topi (fun y4383 ey4383 => ?_)
            have hy4383 : y4383.toInt = z2.toInt - z1.toInt := i32_sub ey4383 rfl rfl (by omega) (by omega)
            refine g_aload_n hk dX2_cellAt_37 rfl ?_
            refine gX_i31 (v := (I 31)) hk hin2 (List.mem_cons_of_mem _ (List.mem_append_left _ (List.mem_of_getElem? (i := 2) rfl))) dX2_cellAt_38 rfl ?_
            refine g_icmp_gt (tgt := 48) (a := y4383.toInt) (b := (I 31).toInt) hk dX2_cellAt_41 (by decide) rfl rfl (fun c4384 => ?_) (fun c4384 => ?_)
            · skip
              refine g_iconst (v := 0) hk dX2_cellAt_48 (by decide) ?_
              refine g_istore_n (lv' := [(3, .int 0), (0, .ref (q 38)), (1, .int z1), (2, .int z2)]) hk dX2_cellAt_49 (by decide) rfl ?_
              refine g_iload_n hk dX2_cellAt_50 rfl ?_
              refine g_if_eq (tgt := 68) (a := 0) hk dX2_cellAt_51 (by decide) rfl (fun _ => ?_) (fun z9 => absurd (show (0 : Int) = (0 : Int) from by decide) z9)
              refine g_ldc (v := 2147483647) hk (List.mem_cons_of_mem _ (List.mem_append_left _ (List.mem_of_getElem? (i := 0) rfl))) dX2_cellAt_68 ?_
              exact g_iret hk hR rfl ⟨2147483647, rfl, rfl⟩ dX2_cellAt_70
            · skip
              refine g_iconst (v := 1) hk dX2_cellAt_44 (by decide) ?_
              refine g_goto (tgt := 49) hk dX2_cellAt_45 (by decide) ?_
              refine g_istore_n (lv' := [(3, .int 1), (0, .ref (q 38)), (1, .int z1), (2, .int z2)]) hk dX2_cellAt_49 (by decide) rfl ?_
              refine g_iload_n hk dX2_cellAt_50 rfl ?_
              refine g_if_eq (tgt := 68) (a := 1) hk dX2_cellAt_51 (by decide) rfl (fun z9 => absurd z9 (show ¬ ((1 : Int) = (0 : Int)) from by decide)) (fun _ => ?_)
              refine g_aload_n hk dX2_cellAt_54 rfl ?_
              refine gX_r38_2 hk hin2 (List.mem_cons_of_mem _ (List.mem_append_left _ (List.mem_of_getElem? (i := 3) rfl))) dX2_cellAt_55 ?_
              refine g_iload_n hk dX2_cellAt_58 rfl ?_
              refine g_bipush (v := 16) hk dX2_cellAt_59 (by decide) ?_
              refine g_imul hk dX2_cellAt_61 ?_
              refine g_topi (fun y4385 ey4385 => ?_)
              have hy4385 : y4385.toInt = z1.toInt * 16 := i32_mul ey4385 rfl rfl (by omega) (by omega)
              refine g_iload_n hk dX2_cellAt_62 rfl ?_
              refine g_iadd hk dX2_cellAt_63 ?_
              refine g_topi (fun y4386 ey4386 => ?_)
              have hy4386 : y4386.toInt = y4385.toInt + z2.toInt := i32_add ey4386 rfl rfl (by omega) (by omega)
              refine lX_23 (v := (A 23 y4386.toNatClampNeg)) hk (vp_in_iff.mpr ⟨by omega, by omega⟩) rfl dX2_cellAt_64 ?_
              refine g_goto (tgt := 70) hk dX2_cellAt_65 (by decide) ?_
              have b4387l := Int32.le_toInt (A 23 y4386.toNatClampNeg)
              have b4387h := Int32.toInt_lt (A 23 y4386.toNatClampNeg)
              exact g_iret hk hR rfl ⟨(A 23 y4386.toNatClampNeg), rfl, rfl⟩ dX2_cellAt_70
def wo_k249_X2_traceWay : List Cond := [Cond.constant RX2 93 (2147483647), Cond.methodLink RX2 86 yX2_layTable, Cond.instanceMethod yX2_layTable, Cond.selects RX2 yX2_layTable yX2_layTable, Cond.initialized RX2, Cond.fieldLink RX2 101 "WarpDesk$Fit" "wayLength" "I", Cond.fieldLink RX2 24 "WarpDesk$Fit" "length" "I", Cond.fieldLink RX2 21 "WarpDesk$Fit" "steps" "[I", Cond.methodLink RX2 104 yX2_cellAt, Cond.instanceMethod yX2_cellAt, Cond.selects RX2 yX2_cellAt yX2_cellAt]
def wz_k249_X2_traceWay : List Cond := .code yX2_traceWay cX2_traceWay 7 none :: (wo_k249_X2_traceWay ++ (wsX20 ++ (wz_k233_X2_layTable ++ (wz_k250_X2_cellAt ++ ([] : List Cond)))))
theorem zg_k249_X2_traceWay : ∀ w ∈ wz_k249_X2_traceWay, goodWord w = true := zg_cons rfl (zg_app (by decide +kernel) (zg_app zgU_wsX20 (zg_app zg_k233_X2_layTable (zg_app zg_k250_X2_cellAt zg_nil))))
theorem zi_k249_X2_traceWay : ∀ w ∈ wz_k249_X2_traceWay, w ∈ lw_tbl := zi_cons zw_1057 (zi_app (zi_cons zw_996 (zi_cons zw_997 (zi_cons zw_999 (zi_cons zw_28 (zi_cons zw_112 (zi_cons zw_342 (zi_cons zw_343 (zi_cons zw_340 (zi_cons zw_1058 (zi_cons zw_1060 (zi_cons zw_34 zi_nil))))))))))) (zi_app inX2 (zi_app zi_k233_X2_layTable (zi_app zi_k250_X2_cellAt zi_nil))))
set_option maxHeartbeats 4000000 in
set_option maxRecDepth 100000 in
theorem k249_X2_traceWay (l : Launch) (D : va_G) (zt : Nat × Nat × Nat × (Nat → Nat) × (Nat → Nat)) (q : Nat → Nat) (d : Nat → ClassId) (I : Nat → Int32) (A : Nat → Nat → Int32) (hIv : IvX I A) : GM l D zt (tyX d) yX2_traceWay wz_k249_X2_traceWay ({ frames := 3, cells := 0, slots := 0, locals := 72 } : Room) [.ref (q 38)] (wX q d I A) (fun v _ w' => ∃ (I' : Nat → Int32) (A' : Nat → Nat → Int32), Md [29, 33, 34] I I' ∧ Md [23, 24] A A' ∧ IvX I' A' ∧ v = none ∧ w' = wX q d I' A') 0 0 := by
  refine GM.of (cc := cX2_traceWay) (maxL := 7) (ret := none) (own := RX2) (lv := [(0, .ref (q 38))]) (by decide) rfl rfl (Nat.le_of_ble_eq_true rfl) rfl (fun κ sz hk hR hN => ?_)
  have hin2 : ∀ w ∈ u_ws RX2 TX2 10, w ∈ wz_k249_X2_traceWay := fun w h => (List.mem_cons_of_mem _ (List.mem_append_right _ (List.mem_append_left _ h)))
  refine g_aload_n hk dX2_traceWay_0 rfl ?_
  refine g_ldc (v := 2147483647) hk (List.mem_cons_of_mem _ (List.mem_append_left _ (List.mem_of_getElem? (i := 0) rfl))) dX2_traceWay_1 ?_
  have k4357 : (2147483647 : Int32).toInt = 2147483647 := rfl
  refine g_callV (n := 1) hk (k233_X2_layTable l D zt q d I A 2147483647 hIv) (SP.same _) (fun _ h => h) (gi_V (List.mem_cons_of_mem _ (List.mem_append_left _ (List.mem_of_getElem? (i := 1) rfl))) (List.mem_cons_of_mem _ (List.mem_append_left _ (List.mem_of_getElem? (i := 2) rfl))) (List.mem_cons_of_mem _ (List.mem_append_left _ (List.mem_of_getElem? (i := 3) rfl))) (List.mem_cons_of_mem _ (List.mem_append_left _ (List.mem_of_getElem? (i := 4) rfl))) (gi_sub (fun w h => (List.mem_cons_of_mem _ (List.mem_append_right _ (List.mem_append_right _ (List.mem_append_left _ h))))) zg_k233_X2_layTable)) rfl rfl rfl (by decide +kernel) ⟨Nat.le_of_ble_eq_true rfl, Nat.le_of_ble_eq_true rfl⟩ 38 rfl rfl rfl rfl (Nat.le_of_ble_eq_true rfl) ⟨Nat.le_of_ble_eq_true rfl, Nat.le_of_ble_eq_true rfl⟩ dX2_traceWay_3 (fun v ty' w' hp hk' => ?_)
  obtain ⟨I4359, A4359, hI4359, hA4359, hV4359, rfl, rfl⟩ := hp
  show GW κ 7 0 0 (wX q d I4359 A4359) 6 [(0, .ref (q 38))] []
  refine g_aload_n hk dX2_traceWay_6 rfl ?_
  refine g_iconst (v := 0) hk dX2_traceWay_7 (by decide) ?_
  refine pX_i29 hk hin2 (List.mem_cons_of_mem _ (List.mem_append_left _ (List.mem_of_getElem? (i := 5) rfl))) dX2_traceWay_8 ?_
  refine g_aload_n hk dX2_traceWay_11 rfl ?_
  refine gX_i30 (v := (I 30)) hk hin2 (List.mem_cons_of_mem _ (List.mem_append_left _ (List.mem_of_getElem? (i := 6) rfl))) dX2_traceWay_12 (hI4359 30 rfl) ?_
  have f4360 := IvX_f30 hIv
  refine g_iconst (v := 1) hk dX2_traceWay_15 (by decide) ?_
  refine g_isub hk dX2_traceWay_16 ?_
  refine g_topi (fun y4361 ey4361 => ?_)
  have hy4361 : y4361.toInt = (I 30).toInt - 1 := i32_sub ey4361 rfl rfl (by omega) (by omega)
  refine g_istore_n (lv' := [(1, .int y4361), (0, .ref (q 38))]) hk dX2_traceWay_17 (by decide) rfl ?_
  refine g_aload_n hk dX2_traceWay_18 rfl ?_
  refine gX_i30 (v := (I 30)) hk hin2 (List.mem_cons_of_mem _ (List.mem_append_left _ (List.mem_of_getElem? (i := 6) rfl))) dX2_traceWay_19 (hI4359 30 rfl) ?_
  refine g_iconst (v := 1) hk dX2_traceWay_22 (by decide) ?_
  refine g_isub hk dX2_traceWay_23 ?_
  refine g_topi (fun y4362 ey4362 => ?_)
  have hy4362 : y4362.toInt = (I 30).toInt - 1 := i32_sub ey4362 rfl rfl (by omega) (by omega)
  refine g_istore_n (lv' := [(2, .int y4362), (1, .int y4361), (0, .ref (q 38))]) hk dX2_traceWay_24 (by decide) rfl ?_
  refine g_iconst (v := 0) hk dX2_traceWay_25 (by decide) ?_
  refine g_istore_n (lv' := [(3, .int 0), (2, .int y4362), (1, .int y4361), (0, .ref (q 38))]) hk dX2_traceWay_26 (by decide) rfl ?_
  have lp4509 : ∀ (n4510 : Nat) (x4363 : Int32) (x4364 : Int32) (x4365 : Int32) (I4367 : Nat → Int32) (A4367 : Nat → Nat → Int32), (Md [29] (upd I4359 29 0) I4367) → (Md [24] A4359 A4367) → (IvX I4367 A4367) → (0 ≤ x4363.toInt) → (x4363.toInt ≤ 32) → ((-1) ≤ x4364.toInt) → (x4364.toInt ≤ 15) → ((-1) ≤ x4365.toInt) → (x4365.toInt ≤ 15) → (33 - x4363.toInt < (n4510 : Int)) → (0 < n4510) → GW κ 7 0 0 (wX q d I4367 A4367) 27 [(3, .int x4363), (2, .int x4364), (1, .int x4365), (0, .ref (q 38))] [] := by
    intro n4510
    induction n4510 with
    | zero =>
      intro x4363 x4364 x4365 I4367 A4367 hI4367 hA4367 hV4367 h4503 h4504 h4505 h4506 h4507 h4508 m4511 m4511z
      exact absurd m4511z (Nat.lt_irrefl 0)
    | succ n4510 ih4512 =>
      intro x4363 x4364 x4365 I4367 A4367 hI4367 hA4367 hV4367 h4503 h4504 h4505 h4506 h4507 h4508 m4511 m4511z
      refine g_iload_n hk dX2_traceWay_27 rfl ?_
      refine g_aload_n hk dX2_traceWay_28 rfl ?_
      refine gX_r38_3 hk hin2 (List.mem_cons_of_mem _ (List.mem_append_left _ (List.mem_of_getElem? (i := 7) rfl))) dX2_traceWay_29 ?_
      refine nX_24 hk dX2_traceWay_32 ?_
      refine g_icmp_ge (tgt := 140) (a := x4363.toInt) (b := 32) hk dX2_traceWay_33 (by decide) rfl rfl (fun c4513 => ?_) (fun c4513 => ?_)
      · skip
        exact g_vret hk hR ⟨I4367, A4367, (show Md [29, 33, 34] I I4367 from (Md.tr (Md.up (Md.tr Md.rf hI4359 rfl) rfl) hI4367 rfl)), (show Md [23, 24] A A4367 from (Md.tr (Md.tr Md.rf hA4359 rfl) hA4367 rfl)), hV4367, rfl, rfl⟩ dX2_traceWay_140
      · skip
        refine g_iload_n hk dX2_traceWay_36 rfl ?_
        refine g_if_lt (tgt := 140) (a := x4365.toInt) hk dX2_traceWay_37 (by decide) rfl (fun c4514 => ?_) (fun c4514 => ?_)
        · skip
          exact g_vret hk hR ⟨I4367, A4367, (show Md [29, 33, 34] I I4367 from (Md.tr (Md.up (Md.tr Md.rf hI4359 rfl) rfl) hI4367 rfl)), (show Md [23, 24] A A4367 from (Md.tr (Md.tr Md.rf hA4359 rfl) hA4367 rfl)), hV4367, rfl, rfl⟩ dX2_traceWay_140
        · skip
          refine g_iload_n hk dX2_traceWay_40 rfl ?_
          refine g_if_lt (tgt := 140) (a := x4364.toInt) hk dX2_traceWay_41 (by decide) rfl (fun c4515 => ?_) (fun c4515 => ?_)
          · skip
            exact g_vret hk hR ⟨I4367, A4367, (show Md [29, 33, 34] I I4367 from (Md.tr (Md.up (Md.tr Md.rf hI4359 rfl) rfl) hI4367 rfl)), (show Md [23, 24] A A4367 from (Md.tr (Md.tr Md.rf hA4359 rfl) hA4367 rfl)), hV4367, rfl, rfl⟩ dX2_traceWay_140
          · skip
            refine g_aload_n hk dX2_traceWay_44 rfl ?_
            refine gX_r38_3 hk hin2 (List.mem_cons_of_mem _ (List.mem_append_left _ (List.mem_of_getElem? (i := 7) rfl))) dX2_traceWay_45 ?_
            refine g_iload_n hk dX2_traceWay_48 rfl ?_
            refine g_bipush (v := 100) hk dX2_traceWay_49 (by decide) ?_
            refine g_iload_n hk dX2_traceWay_51 rfl ?_
            refine g_imul hk dX2_traceWay_52 ?_
            refine g_topi (fun y4516 ey4516 => ?_)
            have hy4516 : y4516.toInt = 100 * x4365.toInt := i32_mul ey4516 rfl rfl (by omega) (by omega)
            refine g_iload_n hk dX2_traceWay_53 rfl ?_
            refine g_iadd hk dX2_traceWay_54 ?_
            refine g_topi (fun y4517 ey4517 => ?_)
            have hy4517 : y4517.toInt = y4516.toInt + x4364.toInt := i32_add ey4517 rfl rfl (by omega) (by omega)
            refine sX_24 (j := x4363.toNatClampNeg) hk (vp_in_iff.mpr ⟨by omega, by omega⟩) rfl dX2_traceWay_55 ?_
            refine g_aload_n hk dX2_traceWay_56 rfl ?_
            refine g_iload_n hk dX2_traceWay_57 rfl ?_
            refine g_iconst (v := 1) hk dX2_traceWay_58 (by decide) ?_
            refine g_iadd hk dX2_traceWay_59 ?_
            refine g_topi (fun y4518 ey4518 => ?_)
            have hy4518 : y4518.toInt = x4363.toInt + 1 := i32_add ey4518 rfl rfl (by omega) (by omega)
            refine pX_i29 hk hin2 (List.mem_cons_of_mem _ (List.mem_append_left _ (List.mem_of_getElem? (i := 5) rfl))) dX2_traceWay_60 ?_
            refine g_aload_n hk dX2_traceWay_63 rfl ?_
            refine g_iload_n hk dX2_traceWay_64 rfl ?_
            refine g_iconst (v := 1) hk dX2_traceWay_65 (by decide) ?_
            refine g_isub hk dX2_traceWay_66 ?_
            refine g_topi (fun y4519 ey4519 => ?_)
            have hy4519 : y4519.toInt = x4365.toInt - 1 := i32_sub ey4519 rfl rfl (by omega) (by omega)
            refine g_iload_n hk dX2_traceWay_67 rfl ?_
            refine g_iconst (v := 1) hk dX2_traceWay_68 (by decide) ?_
            refine g_isub hk dX2_traceWay_69 ?_
            refine g_topi (fun y4520 ey4520 => ?_)
            have hy4520 : y4520.toInt = x4364.toInt - 1 := i32_sub ey4520 rfl rfl (by omega) (by omega)
            refine g_callV (n := 2) hk (k250_X2_cellAt l D zt q d (upd I4367 29 y4518) (up3 A4367 24 (x4363.toNatClampNeg) y4517) y4519 y4520 ⟨(IvX_f0 (I := I4367) (A := A4367) hV4367), (IvX_f18 (I := I4367) (A := A4367) hV4367), (IvX_f30 (I := I4367) (A := A4367) hV4367), (IvX_f31 (I := I4367) (A := A4367) hV4367), (IvX_a4 (I := I4367) (A := A4367) hV4367), (IvX_a9 (I := I4367) (A := A4367) hV4367), trivial⟩) (SP.same _) (fun _ h => h) (gi_V (List.mem_cons_of_mem _ (List.mem_append_left _ (List.mem_of_getElem? (i := 8) rfl))) (List.mem_cons_of_mem _ (List.mem_append_left _ (List.mem_of_getElem? (i := 9) rfl))) (List.mem_cons_of_mem _ (List.mem_append_left _ (List.mem_of_getElem? (i := 10) rfl))) (List.mem_cons_of_mem _ (List.mem_append_left _ (List.mem_of_getElem? (i := 4) rfl))) (gi_sub (fun w h => (List.mem_cons_of_mem _ (List.mem_append_right _ (List.mem_append_right _ (List.mem_append_right _ (List.mem_append_left _ h)))))) zg_k250_X2_cellAt)) rfl rfl rfl (by decide +kernel) ⟨Nat.le_of_ble_eq_true rfl, Nat.le_of_ble_eq_true rfl⟩ 38 rfl rfl rfl rfl (Nat.le_of_ble_eq_true rfl) ⟨Nat.le_of_ble_eq_true rfl, Nat.le_of_ble_eq_true rfl⟩ dX2_traceWay_70 (fun v ty' w' hp hk' => ?_)
            obtain ⟨y4521, rfl, rfl⟩ := hp
            show GW κ 7 0 0 (wX q d (upd I4367 29 y4518) (up3 A4367 24 (x4363.toNatClampNeg) y4517)) 73 [(3, .int x4363), (2, .int x4364), (1, .int x4365), (0, .ref (q 38))] [.int y4521]
            refine g_istore (lv' := [(4, .int y4521), (3, .int x4363), (2, .int x4364), (1, .int x4365), (0, .ref (q 38))]) hk dX2_traceWay_73 (by decide) rfl ?_
            refine g_aload_n hk dX2_traceWay_75 rfl ?_
            refine g_iload_n hk dX2_traceWay_76 rfl ?_
            refine g_iconst (v := 1) hk dX2_traceWay_77 (by decide) ?_
            refine g_isub hk dX2_traceWay_78 ?_
            refine g_topi (fun y4522 ey4522 => ?_)
            have hy4522 : y4522.toInt = x4365.toInt - 1 := i32_sub ey4522 rfl rfl (by omega) (by omega)
            refine g_iload_n hk dX2_traceWay_79 rfl ?_
            refine g_callV (n := 2) hk (k250_X2_cellAt l D zt q d (upd I4367 29 y4518) (up3 A4367 24 (x4363.toNatClampNeg) y4517) y4522 x4364 ⟨(IvX_f0 (I := I4367) (A := A4367) hV4367), (IvX_f18 (I := I4367) (A := A4367) hV4367), (IvX_f30 (I := I4367) (A := A4367) hV4367), (IvX_f31 (I := I4367) (A := A4367) hV4367), (IvX_a4 (I := I4367) (A := A4367) hV4367), (IvX_a9 (I := I4367) (A := A4367) hV4367), trivial⟩) (SP.same _) (fun _ h => h) (gi_V (List.mem_cons_of_mem _ (List.mem_append_left _ (List.mem_of_getElem? (i := 8) rfl))) (List.mem_cons_of_mem _ (List.mem_append_left _ (List.mem_of_getElem? (i := 9) rfl))) (List.mem_cons_of_mem _ (List.mem_append_left _ (List.mem_of_getElem? (i := 10) rfl))) (List.mem_cons_of_mem _ (List.mem_append_left _ (List.mem_of_getElem? (i := 4) rfl))) (gi_sub (fun w h => (List.mem_cons_of_mem _ (List.mem_append_right _ (List.mem_append_right _ (List.mem_append_right _ (List.mem_append_left _ h)))))) zg_k250_X2_cellAt)) rfl rfl rfl (by decide +kernel) ⟨Nat.le_of_ble_eq_true rfl, Nat.le_of_ble_eq_true rfl⟩ 38 rfl rfl rfl rfl (Nat.le_of_ble_eq_true rfl) ⟨Nat.le_of_ble_eq_true rfl, Nat.le_of_ble_eq_true rfl⟩ dX2_traceWay_80 (fun v ty' w' hp hk' => ?_)
            obtain ⟨y4523, rfl, rfl⟩ := hp
            show GW κ 7 0 0 (wX q d (upd I4367 29 y4518) (up3 A4367 24 (x4363.toNatClampNeg) y4517)) 83 [(4, .int y4521), (3, .int x4363), (2, .int x4364), (1, .int x4365), (0, .ref (q 38))] [.int y4523]
            refine g_istore (lv' := [(5, .int y4523), (4, .int y4521), (3, .int x4363), (2, .int x4364), (1, .int x4365), (0, .ref (q 38))]) hk dX2_traceWay_83 (by decide) rfl ?_
            refine g_aload_n hk dX2_traceWay_85 rfl ?_
            refine g_iload_n hk dX2_traceWay_86 rfl ?_
            refine g_iload_n hk dX2_traceWay_87 rfl ?_
            refine g_iconst (v := 1) hk dX2_traceWay_88 (by decide) ?_
            refine g_isub hk dX2_traceWay_89 ?_
            refine g_topi (fun y4524 ey4524 => ?_)
            have hy4524 : y4524.toInt = x4364.toInt - 1 := i32_sub ey4524 rfl rfl (by omega) (by omega)
            refine g_callV (n := 2) hk (k250_X2_cellAt l D zt q d (upd I4367 29 y4518) (up3 A4367 24 (x4363.toNatClampNeg) y4517) x4365 y4524 ⟨(IvX_f0 (I := I4367) (A := A4367) hV4367), (IvX_f18 (I := I4367) (A := A4367) hV4367), (IvX_f30 (I := I4367) (A := A4367) hV4367), (IvX_f31 (I := I4367) (A := A4367) hV4367), (IvX_a4 (I := I4367) (A := A4367) hV4367), (IvX_a9 (I := I4367) (A := A4367) hV4367), trivial⟩) (SP.same _) (fun _ h => h) (gi_V (List.mem_cons_of_mem _ (List.mem_append_left _ (List.mem_of_getElem? (i := 8) rfl))) (List.mem_cons_of_mem _ (List.mem_append_left _ (List.mem_of_getElem? (i := 9) rfl))) (List.mem_cons_of_mem _ (List.mem_append_left _ (List.mem_of_getElem? (i := 10) rfl))) (List.mem_cons_of_mem _ (List.mem_append_left _ (List.mem_of_getElem? (i := 4) rfl))) (gi_sub (fun w h => (List.mem_cons_of_mem _ (List.mem_append_right _ (List.mem_append_right _ (List.mem_append_right _ (List.mem_append_left _ h)))))) zg_k250_X2_cellAt)) rfl rfl rfl (by decide +kernel) ⟨Nat.le_of_ble_eq_true rfl, Nat.le_of_ble_eq_true rfl⟩ 38 rfl rfl rfl rfl (Nat.le_of_ble_eq_true rfl) ⟨Nat.le_of_ble_eq_true rfl, Nat.le_of_ble_eq_true rfl⟩ dX2_traceWay_90 (fun v ty' w' hp hk' => ?_)
            obtain ⟨y4525, rfl, rfl⟩ := hp
            show GW κ 7 0 0 (wX q d (upd I4367 29 y4518) (up3 A4367 24 (x4363.toNatClampNeg) y4517)) 93 [(5, .int y4523), (4, .int y4521), (3, .int x4363), (2, .int x4364), (1, .int x4365), (0, .ref (q 38))] [.int y4525]
            refine g_istore (lv' := [(6, .int y4525), (5, .int y4523), (4, .int y4521), (3, .int x4363), (2, .int x4364), (1, .int x4365), (0, .ref (q 38))]) hk dX2_traceWay_93 (by decide) rfl ?_
            refine g_iload hk dX2_traceWay_95 rfl ?_
            refine g_iload hk dX2_traceWay_97 rfl ?_
            have b4526l := Int32.le_toInt y4521
            have b4526h := Int32.toInt_lt y4521
            have b4527l := Int32.le_toInt y4523
            have b4527h := Int32.toInt_lt y4523
            refine g_icmp_gt (tgt := 118) (a := y4521.toInt) (b := y4523.toInt) hk dX2_traceWay_99 (by decide) rfl rfl (fun c4528 => ?_) (fun c4528 => ?_)
            · skip
              refine g_iload hk dX2_traceWay_118 rfl ?_
              refine g_iload hk dX2_traceWay_120 rfl ?_
              have b4529l := Int32.le_toInt y4525
              have b4529h := Int32.toInt_lt y4525
              refine g_icmp_gt (tgt := 131) (a := y4523.toInt) (b := y4525.toInt) hk dX2_traceWay_122 (by decide) rfl rfl (fun c4530 => ?_) (fun c4530 => ?_)
              · skip
                obtain ⟨y4531, ey4531⟩ : ∃ y : Int32, y = x4364 + Int32.ofInt (-1) := ⟨_, rfl⟩
                have hy4531 : y4531.toInt = x4364.toInt + (-1) := i32_add ey4531 rfl (by decide) (by omega) (by omega)
                refine g_iinc (v := y4531) (lv' := [(2, .int y4531), (6, .int y4525), (5, .int y4523), (4, .int y4521), (3, .int x4363), (1, .int x4365), (0, .ref (q 38))]) hk 4 dX2_traceWay_131 rfl ey4531.symm (by decide) rfl ?_
                obtain ⟨y4532, ey4532⟩ : ∃ y : Int32, y = x4363 + Int32.ofInt 1 := ⟨_, rfl⟩
                have hy4532 : y4532.toInt = x4363.toInt + 1 := i32_add ey4532 rfl (by decide) (by omega) (by omega)
                refine g_iinc (v := y4532) (lv' := [(3, .int y4532), (2, .int y4531), (6, .int y4525), (5, .int y4523), (4, .int y4521), (1, .int x4365), (0, .ref (q 38))]) hk 4 dX2_traceWay_134 rfl ey4532.symm (by decide) rfl ?_
                refine g_goto (tgt := 27) hk dX2_traceWay_137 (by decide) ?_
                exact g_lv (List.forall_mem_cons.mpr ⟨List.mem_of_getElem? (i := 0) rfl, (List.forall_mem_cons.mpr ⟨List.mem_of_getElem? (i := 1) rfl, (List.forall_mem_cons.mpr ⟨List.mem_of_getElem? (i := 5) rfl, (List.forall_mem_cons.mpr ⟨List.mem_of_getElem? (i := 6) rfl, (fun _ h => absurd h List.not_mem_nil)⟩)⟩)⟩)⟩) (ih4512 y4532 y4531 x4365 (upd I4367 29 y4518) (up3 A4367 24 (x4363.toNatClampNeg) y4517) (show Md [29] (upd I4359 29 0) (upd I4367 29 y4518) from Md.tr hI4367 (show Md [29] I4367 (upd I4367 29 y4518) from (Md.up Md.rf rfl)) rfl) (show Md [24] A4359 (up3 A4367 24 (x4363.toNatClampNeg) y4517) from Md.tr hA4367 (show Md [24] A4367 (up3 A4367 24 (x4363.toNatClampNeg) y4517) from (Md.up3 Md.rf rfl)) rfl) ⟨(IvX_f0 (I := I4367) (A := A4367) hV4367), (IvX_f18 (I := I4367) (A := A4367) hV4367), (IvX_f30 (I := I4367) (A := A4367) hV4367), (IvX_f31 (I := I4367) (A := A4367) hV4367), (IvX_a4 (I := I4367) (A := A4367) hV4367), (IvX_a9 (I := I4367) (A := A4367) hV4367), trivial⟩ (by omega) (by omega) (by omega) (by omega) (by omega) (by omega) (by omega) (by omega))
              · skip
                obtain ⟨y4533, ey4533⟩ : ∃ y : Int32, y = x4365 + Int32.ofInt (-1) := ⟨_, rfl⟩
                have hy4533 : y4533.toInt = x4365.toInt + (-1) := i32_add ey4533 rfl (by decide) (by omega) (by omega)
                refine g_iinc (v := y4533) (lv' := [(1, .int y4533), (6, .int y4525), (5, .int y4523), (4, .int y4521), (3, .int x4363), (2, .int x4364), (0, .ref (q 38))]) hk 5 dX2_traceWay_125 rfl ey4533.symm (by decide) rfl ?_
                refine g_goto (tgt := 134) hk dX2_traceWay_128 (by decide) ?_
                obtain ⟨y4534, ey4534⟩ : ∃ y : Int32, y = x4363 + Int32.ofInt 1 := ⟨_, rfl⟩
                have hy4534 : y4534.toInt = x4363.toInt + 1 := i32_add ey4534 rfl (by decide) (by omega) (by omega)
                refine g_iinc (v := y4534) (lv' := [(3, .int y4534), (1, .int y4533), (6, .int y4525), (5, .int y4523), (4, .int y4521), (2, .int x4364), (0, .ref (q 38))]) hk 4 dX2_traceWay_134 rfl ey4534.symm (by decide) rfl ?_
                refine g_goto (tgt := 27) hk dX2_traceWay_137 (by decide) ?_
                exact g_lv (List.forall_mem_cons.mpr ⟨List.mem_of_getElem? (i := 0) rfl, (List.forall_mem_cons.mpr ⟨List.mem_of_getElem? (i := 5) rfl, (List.forall_mem_cons.mpr ⟨List.mem_of_getElem? (i := 1) rfl, (List.forall_mem_cons.mpr ⟨List.mem_of_getElem? (i := 6) rfl, (fun _ h => absurd h List.not_mem_nil)⟩)⟩)⟩)⟩) (ih4512 y4534 x4364 y4533 (upd I4367 29 y4518) (up3 A4367 24 (x4363.toNatClampNeg) y4517) (show Md [29] (upd I4359 29 0) (upd I4367 29 y4518) from Md.tr hI4367 (show Md [29] I4367 (upd I4367 29 y4518) from (Md.up Md.rf rfl)) rfl) (show Md [24] A4359 (up3 A4367 24 (x4363.toNatClampNeg) y4517) from Md.tr hA4367 (show Md [24] A4367 (up3 A4367 24 (x4363.toNatClampNeg) y4517) from (Md.up3 Md.rf rfl)) rfl) ⟨(IvX_f0 (I := I4367) (A := A4367) hV4367), (IvX_f18 (I := I4367) (A := A4367) hV4367), (IvX_f30 (I := I4367) (A := A4367) hV4367), (IvX_f31 (I := I4367) (A := A4367) hV4367), (IvX_a4 (I := I4367) (A := A4367) hV4367), (IvX_a9 (I := I4367) (A := A4367) hV4367), trivial⟩ (by omega) (by omega) (by omega) (by omega) (by omega) (by omega) (by omega) (by omega))
            · skip
              refine g_iload hk dX2_traceWay_102 rfl ?_
              refine g_iload hk dX2_traceWay_104 rfl ?_
              have b4535l := Int32.le_toInt y4525
              have b4535h := Int32.toInt_lt y4525
              refine g_icmp_gt (tgt := 118) (a := y4521.toInt) (b := y4525.toInt) hk dX2_traceWay_106 (by decide) rfl rfl (fun c4536 => ?_) (fun c4536 => ?_)
              · skip
                refine g_iload hk dX2_traceWay_118 rfl ?_
                refine g_iload hk dX2_traceWay_120 rfl ?_
                refine g_icmp_gt (tgt := 131) (a := y4523.toInt) (b := y4525.toInt) hk dX2_traceWay_122 (by decide) rfl rfl (fun c4537 => ?_) (fun c4537 => ?_)
                · skip
                  obtain ⟨y4538, ey4538⟩ : ∃ y : Int32, y = x4364 + Int32.ofInt (-1) := ⟨_, rfl⟩
                  have hy4538 : y4538.toInt = x4364.toInt + (-1) := i32_add ey4538 rfl (by decide) (by omega) (by omega)
                  refine g_iinc (v := y4538) (lv' := [(2, .int y4538), (6, .int y4525), (5, .int y4523), (4, .int y4521), (3, .int x4363), (1, .int x4365), (0, .ref (q 38))]) hk 4 dX2_traceWay_131 rfl ey4538.symm (by decide) rfl ?_
                  obtain ⟨y4539, ey4539⟩ : ∃ y : Int32, y = x4363 + Int32.ofInt 1 := ⟨_, rfl⟩
                  have hy4539 : y4539.toInt = x4363.toInt + 1 := i32_add ey4539 rfl (by decide) (by omega) (by omega)
                  refine g_iinc (v := y4539) (lv' := [(3, .int y4539), (2, .int y4538), (6, .int y4525), (5, .int y4523), (4, .int y4521), (1, .int x4365), (0, .ref (q 38))]) hk 4 dX2_traceWay_134 rfl ey4539.symm (by decide) rfl ?_
                  refine g_goto (tgt := 27) hk dX2_traceWay_137 (by decide) ?_
                  exact g_lv (List.forall_mem_cons.mpr ⟨List.mem_of_getElem? (i := 0) rfl, (List.forall_mem_cons.mpr ⟨List.mem_of_getElem? (i := 1) rfl, (List.forall_mem_cons.mpr ⟨List.mem_of_getElem? (i := 5) rfl, (List.forall_mem_cons.mpr ⟨List.mem_of_getElem? (i := 6) rfl, (fun _ h => absurd h List.not_mem_nil)⟩)⟩)⟩)⟩) (ih4512 y4539 y4538 x4365 (upd I4367 29 y4518) (up3 A4367 24 (x4363.toNatClampNeg) y4517) (show Md [29] (upd I4359 29 0) (upd I4367 29 y4518) from Md.tr hI4367 (show Md [29] I4367 (upd I4367 29 y4518) from (Md.up Md.rf rfl)) rfl) (show Md [24] A4359 (up3 A4367 24 (x4363.toNatClampNeg) y4517) from Md.tr hA4367 (show Md [24] A4367 (up3 A4367 24 (x4363.toNatClampNeg) y4517) from (Md.up3 Md.rf rfl)) rfl) ⟨(IvX_f0 (I := I4367) (A := A4367) hV4367), (IvX_f18 (I := I4367) (A := A4367) hV4367), (IvX_f30 (I := I4367) (A := A4367) hV4367), (IvX_f31 (I := I4367) (A := A4367) hV4367), (IvX_a4 (I := I4367) (A := A4367) hV4367), (IvX_a9 (I := I4367) (A := A4367) hV4367), trivial⟩ (by omega) (by omega) (by omega) (by omega) (by omega) (by omega) (by omega) (by omega))
                · skip
                  obtain ⟨y4540, ey4540⟩ : ∃ y : Int32, y = x4365 + Int32.ofInt (-1) := ⟨_, rfl⟩
                  have hy4540 : y4540.toInt = x4365.toInt + (-1) := i32_add ey4540 rfl (by decide) (by omega) (by omega)
                  refine g_iinc (v := y4540) (lv' := [(1, .int y4540), (6, .int y4525), (5, .int y4523), (4, .int y4521), (3, .int x4363), (2, .int x4364), (0, .ref (q 38))]) hk 5 dX2_traceWay_125 rfl ey4540.symm (by decide) rfl ?_
                  refine g_goto (tgt := 134) hk dX2_traceWay_128 (by decide) ?_
                  obtain ⟨y4541, ey4541⟩ : ∃ y : Int32, y = x4363 + Int32.ofInt 1 := ⟨_, rfl⟩
                  have hy4541 : y4541.toInt = x4363.toInt + 1 := i32_add ey4541 rfl (by decide) (by omega) (by omega)
                  refine g_iinc (v := y4541) (lv' := [(3, .int y4541), (1, .int y4540), (6, .int y4525), (5, .int y4523), (4, .int y4521), (2, .int x4364), (0, .ref (q 38))]) hk 4 dX2_traceWay_134 rfl ey4541.symm (by decide) rfl ?_
                  refine g_goto (tgt := 27) hk dX2_traceWay_137 (by decide) ?_
                  exact g_lv (List.forall_mem_cons.mpr ⟨List.mem_of_getElem? (i := 0) rfl, (List.forall_mem_cons.mpr ⟨List.mem_of_getElem? (i := 5) rfl, (List.forall_mem_cons.mpr ⟨List.mem_of_getElem? (i := 1) rfl, (List.forall_mem_cons.mpr ⟨List.mem_of_getElem? (i := 6) rfl, (fun _ h => absurd h List.not_mem_nil)⟩)⟩)⟩)⟩) (ih4512 y4541 x4364 y4540 (upd I4367 29 y4518) (up3 A4367 24 (x4363.toNatClampNeg) y4517) (show Md [29] (upd I4359 29 0) (upd I4367 29 y4518) from Md.tr hI4367 (show Md [29] I4367 (upd I4367 29 y4518) from (Md.up Md.rf rfl)) rfl) (show Md [24] A4359 (up3 A4367 24 (x4363.toNatClampNeg) y4517) from Md.tr hA4367 (show Md [24] A4367 (up3 A4367 24 (x4363.toNatClampNeg) y4517) from (Md.up3 Md.rf rfl)) rfl) ⟨(IvX_f0 (I := I4367) (A := A4367) hV4367), (IvX_f18 (I := I4367) (A := A4367) hV4367), (IvX_f30 (I := I4367) (A := A4367) hV4367), (IvX_f31 (I := I4367) (A := A4367) hV4367), (IvX_a4 (I := I4367) (A := A4367) hV4367), (IvX_a9 (I := I4367) (A := A4367) hV4367), trivial⟩ (by omega) (by omega) (by omega) (by omega) (by omega) (by omega) (by omega) (by omega))
              · skip
                obtain ⟨y4542, ey4542⟩ : ∃ y : Int32, y = x4365 + Int32.ofInt (-1) := ⟨_, rfl⟩
                have hy4542 : y4542.toInt = x4365.toInt + (-1) := i32_add ey4542 rfl (by decide) (by omega) (by omega)
                refine g_iinc (v := y4542) (lv' := [(1, .int y4542), (6, .int y4525), (5, .int y4523), (4, .int y4521), (3, .int x4363), (2, .int x4364), (0, .ref (q 38))]) hk 5 dX2_traceWay_109 rfl ey4542.symm (by decide) rfl ?_
                obtain ⟨y4543, ey4543⟩ : ∃ y : Int32, y = x4364 + Int32.ofInt (-1) := ⟨_, rfl⟩
                have hy4543 : y4543.toInt = x4364.toInt + (-1) := i32_add ey4543 rfl (by decide) (by omega) (by omega)
                refine g_iinc (v := y4543) (lv' := [(2, .int y4543), (1, .int y4542), (6, .int y4525), (5, .int y4523), (4, .int y4521), (3, .int x4363), (0, .ref (q 38))]) hk 5 dX2_traceWay_112 rfl ey4543.symm (by decide) rfl ?_
                refine g_goto (tgt := 134) hk dX2_traceWay_115 (by decide) ?_
                obtain ⟨y4544, ey4544⟩ : ∃ y : Int32, y = x4363 + Int32.ofInt 1 := ⟨_, rfl⟩
                have hy4544 : y4544.toInt = x4363.toInt + 1 := i32_add ey4544 rfl (by decide) (by omega) (by omega)
                refine g_iinc (v := y4544) (lv' := [(3, .int y4544), (2, .int y4543), (1, .int y4542), (6, .int y4525), (5, .int y4523), (4, .int y4521), (0, .ref (q 38))]) hk 5 dX2_traceWay_134 rfl ey4544.symm (by decide) rfl ?_
                refine g_goto (tgt := 27) hk dX2_traceWay_137 (by decide) ?_
                exact g_lv (List.forall_mem_cons.mpr ⟨List.mem_of_getElem? (i := 0) rfl, (List.forall_mem_cons.mpr ⟨List.mem_of_getElem? (i := 1) rfl, (List.forall_mem_cons.mpr ⟨List.mem_of_getElem? (i := 2) rfl, (List.forall_mem_cons.mpr ⟨List.mem_of_getElem? (i := 6) rfl, (fun _ h => absurd h List.not_mem_nil)⟩)⟩)⟩)⟩) (ih4512 y4544 y4543 y4542 (upd I4367 29 y4518) (up3 A4367 24 (x4363.toNatClampNeg) y4517) (show Md [29] (upd I4359 29 0) (upd I4367 29 y4518) from Md.tr hI4367 (show Md [29] I4367 (upd I4367 29 y4518) from (Md.up Md.rf rfl)) rfl) (show Md [24] A4359 (up3 A4367 24 (x4363.toNatClampNeg) y4517) from Md.tr hA4367 (show Md [24] A4367 (up3 A4367 24 (x4363.toNatClampNeg) y4517) from (Md.up3 Md.rf rfl)) rfl) ⟨(IvX_f0 (I := I4367) (A := A4367) hV4367), (IvX_f18 (I := I4367) (A := A4367) hV4367), (IvX_f30 (I := I4367) (A := A4367) hV4367), (IvX_f31 (I := I4367) (A := A4367) hV4367), (IvX_a4 (I := I4367) (A := A4367) hV4367), (IvX_a9 (I := I4367) (A := A4367) hV4367), trivial⟩ (by omega) (by omega) (by omega) (by omega) (by omega) (by omega) (by omega) (by omega))
  have k4546 : (0 : Int32).toInt = 0 := rfl
  obtain ⟨n4545, n4545a, n4545b⟩ : ∃ n : Nat, 33 - 0 < (n : Int) ∧ 0 < n := ⟨((33 - 0 : Int)).toNat + 1, by omega, by omega⟩
  exact lp4509 n4545 0 y4362 y4361 (upd I4359 29 0) A4359 Md.rf Md.rf ⟨(IvX_f0 (I := I4359) (A := A4359) hV4359), (IvX_f18 (I := I4359) (A := A4359) hV4359), (IvX_f30 (I := I4359) (A := A4359) hV4359), (IvX_f31 (I := I4359) (A := A4359) hV4359), (IvX_a4 (I := I4359) (A := A4359) hV4359), (IvX_a9 (I := I4359) (A := A4359) hV4359), trivial⟩ (by omega) (by omega) (by omega) (by omega) (by omega) (by omega) n4545a n4545b
def wo_k251_X2_wayPlace : List Cond := [Cond.fieldLink RX2 101 "WarpDesk$Fit" "wayLength" "I", Cond.fieldLink RX2 21 "WarpDesk$Fit" "steps" "[I"]
def wz_k251_X2_wayPlace : List Cond := .code yX2_wayPlace cX2_wayPlace 3 (some .int) :: (wo_k251_X2_wayPlace ++ (wsX20 ++ ([] : List Cond)))
theorem zg_k251_X2_wayPlace : ∀ w ∈ wz_k251_X2_wayPlace, goodWord w = true := zg_cons rfl (zg_app (by decide +kernel) (zg_app zgU_wsX20 zg_nil))
theorem zi_k251_X2_wayPlace : ∀ w ∈ wz_k251_X2_wayPlace, w ∈ lw_tbl := zi_cons zw_1065 (zi_app (zi_cons zw_342 (zi_cons zw_340 zi_nil)) (zi_app inX2 zi_nil))
set_option maxHeartbeats 4000000 in
set_option maxRecDepth 100000 in
theorem k251_X2_wayPlace (l : Launch) (D : va_G) (zt : Nat × Nat × Nat × (Nat → Nat) × (Nat → Nat)) (q : Nat → Nat) (d : Nat → ClassId) (I : Nat → Int32) (A : Nat → Nat → Int32) (z1 : Int32) (hIv : IvX I A) : GM l D zt (tyX d) yX2_wayPlace wz_k251_X2_wayPlace ({ frames := 0, cells := 0, slots := 0, locals := 0 } : Room) [.ref (q 38), .int z1] (wX q d I A) (fun v _ w' => ∃ y0 : Int32, v = some (.int y0) ∧ w' = wX q d I A) 0 0 := by
  refine GM.of (cc := cX2_wayPlace) (maxL := 3) (ret := (some .int)) (own := RX2) (lv := [(0, .ref (q 38)), (1, .int z1)]) (by decide) rfl rfl (Nat.le_of_ble_eq_true rfl) rfl (fun κ sz hk hR hN => ?_)
  have hin2 : ∀ w ∈ u_ws RX2 TX2 10, w ∈ wz_k251_X2_wayPlace := fun w h => (List.mem_cons_of_mem _ (List.mem_append_right _ (List.mem_append_left _ h)))
  refine g_aload_n hk dX2_wayPlace_0 rfl ?_
  refine gX_i29 (v := (I 29)) hk hin2 (List.mem_cons_of_mem _ (List.mem_append_left _ (List.mem_of_getElem? (i := 0) rfl))) dX2_wayPlace_1 rfl ?_
  refine g_iconst (v := 1) hk dX2_wayPlace_4 (by decide) ?_
  have b4551l := Int32.le_toInt (I 29)
  have b4551h := Int32.toInt_lt (I 29)
  refine g_isub hk dX2_wayPlace_5 ?_
  refine g_topi (fun y4552 ey4552 => ?_)
  have hy4552 := i32_sub0 ey4552
  refine g_iload_n hk dX2_wayPlace_6 rfl ?_
  have b4553l := Int32.le_toInt y4552
  have b4553h := Int32.toInt_lt y4552
  have b4554l := Int32.le_toInt z1
  have b4554h := Int32.toInt_lt z1
  refine g_isub hk dX2_wayPlace_7 ?_
  refine g_topi (fun y4555 ey4555 => ?_)
  have hy4555 := i32_sub0 ey4555
  refine g_istore_n (lv' := [(2, .int y4555), (0, .ref (q 38)), (1, .int z1)]) hk dX2_wayPlace_8 (by decide) rfl ?_
  refine g_iload_n hk dX2_wayPlace_9 rfl ?_
  refine g_if_lt (tgt := 35) (a := z1.toInt) hk dX2_wayPlace_10 (by decide) rfl (fun c4556 => ?_) (fun c4556 => ?_)
  · skip
    refine g_iconst (v := (-1)) hk dX2_wayPlace_35 (by decide) ?_
    exact g_iret hk hR rfl ⟨(-1), rfl, rfl⟩ dX2_wayPlace_36
  · skip
    refine g_iload_n hk dX2_wayPlace_13 rfl ?_
    have b4557l := Int32.le_toInt y4555
    have b4557h := Int32.toInt_lt y4555
    refine g_if_lt (tgt := 35) (a := y4555.toInt) hk dX2_wayPlace_14 (by decide) rfl (fun c4558 => ?_) (fun c4558 => ?_)
    · skip
      refine g_iconst (v := (-1)) hk dX2_wayPlace_35 (by decide) ?_
      exact g_iret hk hR rfl ⟨(-1), rfl, rfl⟩ dX2_wayPlace_36
    · skip
      refine g_iload_n hk dX2_wayPlace_17 rfl ?_
      refine g_aload_n hk dX2_wayPlace_18 rfl ?_
      refine gX_r38_3 hk hin2 (List.mem_cons_of_mem _ (List.mem_append_left _ (List.mem_of_getElem? (i := 1) rfl))) dX2_wayPlace_19 ?_
      refine nX_24 hk dX2_wayPlace_22 ?_
      refine g_icmp_ge (tgt := 35) (a := y4555.toInt) (b := 32) hk dX2_wayPlace_23 (by decide) rfl rfl (fun c4559 => ?_) (fun c4559 => ?_)
      · skip
        refine g_iconst (v := (-1)) hk dX2_wayPlace_35 (by decide) ?_
        exact g_iret hk hR rfl ⟨(-1), rfl, rfl⟩ dX2_wayPlace_36
      · skip
        refine g_aload_n hk dX2_wayPlace_26 rfl ?_
        refine gX_r38_3 hk hin2 (List.mem_cons_of_mem _ (List.mem_append_left _ (List.mem_of_getElem? (i := 1) rfl))) dX2_wayPlace_27 ?_
        refine g_iload_n hk dX2_wayPlace_30 rfl ?_
        refine lX_24 (v := (A 24 y4555.toNatClampNeg)) hk (vp_in_iff.mpr ⟨by omega, by omega⟩) rfl dX2_wayPlace_31 ?_
        refine g_goto (tgt := 36) hk dX2_wayPlace_32 (by decide) ?_
        have b4560l := Int32.le_toInt (A 24 y4555.toNatClampNeg)
        have b4560h := Int32.toInt_lt (A 24 y4555.toNatClampNeg)
        exact g_iret hk hR rfl ⟨(A 24 y4555.toNatClampNeg), rfl, rfl⟩ dX2_wayPlace_36
def wo_k248_X11_way : List Cond := [Cond.fieldLink RX11 65 "WarpDesk" "bench" "LWarpDesk$Bench;", Cond.methodLink RX11 212 yX0_openBoth, Cond.instanceMethod yX0_openBoth, Cond.selects RX0 yX0_openBoth yX0_openBoth, Cond.initialized RX0, Cond.fieldLink RX11 202 "WarpDesk$Bench" "fit" "LWarpDesk$Fit;", Cond.methodLink RX11 236 yX2_traceWay, Cond.instanceMethod yX2_traceWay, Cond.selects RX2 yX2_traceWay yX2_traceWay, Cond.initialized RX2, Cond.methodLink RX11 242 yX2_wayPlace, Cond.instanceMethod yX2_wayPlace, Cond.selects RX2 yX2_wayPlace yX2_wayPlace, Cond.fieldLink RX11 239 "WarpDesk$Fit" "wayLength" "I"]
def wz_k248_X11_way : List Cond := .code yX11_way cX11_way 4 (some .int) :: (wo_k248_X11_way ++ (wsX00 ++ (wsX20 ++ (wsX110 ++ (wz_k222_X0_openBoth ++ (wz_k249_X2_traceWay ++ (wz_k251_X2_wayPlace ++ ([] : List Cond))))))))
theorem zg_k248_X11_way : ∀ w ∈ wz_k248_X11_way, goodWord w = true := zg_cons rfl (zg_app (by decide +kernel) (zg_app zgU_wsX00 (zg_app zgU_wsX20 (zg_app zgU_wsX110 (zg_app zg_k222_X0_openBoth (zg_app zg_k249_X2_traceWay (zg_app zg_k251_X2_wayPlace zg_nil)))))))
theorem zi_k248_X11_way : ∀ w ∈ wz_k248_X11_way, w ∈ lw_tbl := zi_cons zw_1053 (zi_app (zi_cons zw_494 (zi_cons zw_969 (zi_cons zw_970 (zi_cons zw_971 (zi_cons zw_111 (zi_cons zw_383 (zi_cons zw_1054 (zi_cons zw_1055 (zi_cons zw_1056 (zi_cons zw_112 (zi_cons zw_1062 (zi_cons zw_1063 (zi_cons zw_1064 (zi_cons zw_341 zi_nil)))))))))))))) (zi_app inX0 (zi_app inX2 (zi_app inX11 (zi_app zi_k222_X0_openBoth (zi_app zi_k249_X2_traceWay (zi_app zi_k251_X2_wayPlace zi_nil)))))))
set_option maxHeartbeats 4000000 in
set_option maxRecDepth 100000 in
theorem k248_X11_way (l : Launch) (D : va_G) (zt : Nat × Nat × Nat × (Nat → Nat) × (Nat → Nat)) (q : Nat → Nat) (d : Nat → ClassId) (I : Nat → Int32) (A : Nat → Nat → Int32) (z1 : Int32) (z2 : Int32) (z3 : Int32) (hIv : IvX I A) : GM l D zt (tyX d) yX11_way wz_k248_X11_way ({ frames := 6, cells := 0, slots := 0, locals := 131 } : Room) [.ref (q 0), .int z1, .int z2, .int z3] (wX q d I A) (fun v _ w' => ∃ (I' : Nat → Int32) (A' : Nat → Nat → Int32), Md [28, 29, 30, 31, 32, 33, 34] I I' ∧ Md [21, 22, 23, 24] A A' ∧ IvX I' A' ∧ ∃ y0 : Int32, v = some (.int y0) ∧ w' = wX q d I' A') 0 0 := by
  refine GM.of (cc := cX11_way) (maxL := 4) (ret := (some .int)) (own := RX11) (lv := [(0, .ref (q 0)), (1, .int z1), (2, .int z2), (3, .int z3)]) (by decide) rfl rfl (Nat.le_of_ble_eq_true rfl) rfl (fun κ sz hk hR hN => ?_)
  have hin0 : ∀ w ∈ u_ws RX0 TX0 5, w ∈ wz_k248_X11_way := fun w h => (List.mem_cons_of_mem _ (List.mem_append_right _ (List.mem_append_left _ h)))
  have hin2 : ∀ w ∈ u_ws RX2 TX2 10, w ∈ wz_k248_X11_way := fun w h => (List.mem_cons_of_mem _ (List.mem_append_right _ (List.mem_append_right _ (List.mem_append_left _ h))))
  have hin11 : ∀ w ∈ u_ws RX11 TX11 10, w ∈ wz_k248_X11_way := fun w h => (List.mem_cons_of_mem _ (List.mem_append_right _ (List.mem_append_right _ (List.mem_append_right _ (List.mem_append_left _ h)))))
  refine g_aload_n hk dX11_way_0 rfl ?_
  refine gX_r0_7 hk hin11 (List.mem_cons_of_mem _ (List.mem_append_left _ (List.mem_of_getElem? (i := 0) rfl))) dX11_way_1 ?_
  refine g_iload_n hk dX11_way_4 rfl ?_
  refine g_iload_n hk dX11_way_5 rfl ?_
  refine g_callV (n := 2) hk (k222_X0_openBoth l D zt q d I A z1 z2 hIv) (SP.same _) (fun _ h => h) (gi_V (List.mem_cons_of_mem _ (List.mem_append_left _ (List.mem_of_getElem? (i := 1) rfl))) (List.mem_cons_of_mem _ (List.mem_append_left _ (List.mem_of_getElem? (i := 2) rfl))) (List.mem_cons_of_mem _ (List.mem_append_left _ (List.mem_of_getElem? (i := 3) rfl))) (List.mem_cons_of_mem _ (List.mem_append_left _ (List.mem_of_getElem? (i := 4) rfl))) (gi_sub (fun w h => (List.mem_cons_of_mem _ (List.mem_append_right _ (List.mem_append_right _ (List.mem_append_right _ (List.mem_append_right _ (List.mem_append_left _ h))))))) zg_k222_X0_openBoth)) rfl rfl rfl (by decide +kernel) ⟨Nat.le_of_ble_eq_true rfl, Nat.le_of_ble_eq_true rfl⟩ 37 rfl rfl rfl rfl (Nat.le_of_ble_eq_true rfl) ⟨Nat.le_of_ble_eq_true rfl, Nat.le_of_ble_eq_true rfl⟩ dX11_way_6 (fun v ty' w' hp hk' => ?_)
  obtain ⟨I4355, A4355, hI4355, hA4355, hV4355, y4352, c4353, c4354, rfl, rfl⟩ := hp
  show GW κ 4 0 0 (wX q d I4355 A4355) 9 [(0, .ref (q 0)), (1, .int z1), (2, .int z2), (3, .int z3)] [.int y4352]
  refine g_if_ne (tgt := 14) (a := y4352.toInt) hk dX11_way_9 (by decide) rfl (fun c4356 => ?_) (fun c4356 => ?_)
  · skip
    refine g_aload_n hk dX11_way_14 rfl ?_
    refine gX_r0_7 hk hin11 (List.mem_cons_of_mem _ (List.mem_append_left _ (List.mem_of_getElem? (i := 0) rfl))) dX11_way_15 ?_
    refine gX_r37_3 hk hin0 (List.mem_cons_of_mem _ (List.mem_append_left _ (List.mem_of_getElem? (i := 5) rfl))) dX11_way_18 ?_
    refine g_callV (n := 0) hk (k249_X2_traceWay l D zt q d I4355 A4355  hV4355) (SP.same _) (fun _ h => h) (gi_V (List.mem_cons_of_mem _ (List.mem_append_left _ (List.mem_of_getElem? (i := 6) rfl))) (List.mem_cons_of_mem _ (List.mem_append_left _ (List.mem_of_getElem? (i := 7) rfl))) (List.mem_cons_of_mem _ (List.mem_append_left _ (List.mem_of_getElem? (i := 8) rfl))) (List.mem_cons_of_mem _ (List.mem_append_left _ (List.mem_of_getElem? (i := 9) rfl))) (gi_sub (fun w h => (List.mem_cons_of_mem _ (List.mem_append_right _ (List.mem_append_right _ (List.mem_append_right _ (List.mem_append_right _ (List.mem_append_right _ (List.mem_append_left _ h)))))))) zg_k249_X2_traceWay)) rfl rfl rfl (by decide +kernel) ⟨Nat.le_of_ble_eq_true rfl, Nat.le_of_ble_eq_true rfl⟩ 38 rfl rfl rfl rfl (Nat.le_of_ble_eq_true rfl) ⟨Nat.le_of_ble_eq_true rfl, Nat.le_of_ble_eq_true rfl⟩ dX11_way_21 (fun v ty' w' hp hk' => ?_)
    obtain ⟨I4548, A4548, hI4548, hA4548, hV4548, rfl, rfl⟩ := hp
    show GW κ 4 0 0 (wX q d I4548 A4548) 24 [(0, .ref (q 0)), (1, .int z1), (2, .int z2), (3, .int z3)] []
    refine g_iload_n hk dX11_way_24 rfl ?_
    refine g_iconst (v := (-1)) hk dX11_way_25 (by decide) ?_
    have b4549l := Int32.le_toInt z3
    have b4549h := Int32.toInt_lt z3
    refine g_icmp_ne (tgt := 42) (a := z3.toInt) (b := (-1)) hk dX11_way_26 (by decide) rfl rfl (fun c4550 => ?_) (fun c4550 => ?_)
    · skip
      refine g_aload_n hk dX11_way_42 rfl ?_
      refine gX_r0_7 hk hin11 (List.mem_cons_of_mem _ (List.mem_append_left _ (List.mem_of_getElem? (i := 0) rfl))) dX11_way_43 ?_
      refine gX_r37_3 hk hin0 (List.mem_cons_of_mem _ (List.mem_append_left _ (List.mem_of_getElem? (i := 5) rfl))) dX11_way_46 ?_
      refine g_iload_n hk dX11_way_49 rfl ?_
      refine g_callV (n := 1) hk (k251_X2_wayPlace l D zt q d I4548 A4548 z3 hV4548) (SP.same _) (fun _ h => h) (gi_V (List.mem_cons_of_mem _ (List.mem_append_left _ (List.mem_of_getElem? (i := 10) rfl))) (List.mem_cons_of_mem _ (List.mem_append_left _ (List.mem_of_getElem? (i := 11) rfl))) (List.mem_cons_of_mem _ (List.mem_append_left _ (List.mem_of_getElem? (i := 12) rfl))) (List.mem_cons_of_mem _ (List.mem_append_left _ (List.mem_of_getElem? (i := 9) rfl))) (gi_sub (fun w h => (List.mem_cons_of_mem _ (List.mem_append_right _ (List.mem_append_right _ (List.mem_append_right _ (List.mem_append_right _ (List.mem_append_right _ (List.mem_append_right _ (List.mem_append_left _ h))))))))) zg_k251_X2_wayPlace)) rfl rfl rfl (by decide +kernel) ⟨Nat.le_of_ble_eq_true rfl, Nat.le_of_ble_eq_true rfl⟩ 38 rfl rfl rfl rfl (Nat.le_of_ble_eq_true rfl) ⟨Nat.le_of_ble_eq_true rfl, Nat.le_of_ble_eq_true rfl⟩ dX11_way_50 (fun v ty' w' hp hk' => ?_)
      obtain ⟨y4561, rfl, rfl⟩ := hp
      show GW κ 4 0 0 (wX q d I4548 A4548) 53 [(0, .ref (q 0)), (1, .int z1), (2, .int z2), (3, .int z3)] [.int y4561]
      have b4562l := Int32.le_toInt y4561
      have b4562h := Int32.toInt_lt y4561
      exact g_iret hk hR rfl ⟨I4548, A4548, (show Md [28, 29, 30, 31, 32, 33, 34] I I4548 from (Md.tr (Md.tr Md.rf hI4355 rfl) hI4548 rfl)), (show Md [21, 22, 23, 24] A A4548 from (Md.tr (Md.tr Md.rf hA4355 rfl) hA4548 rfl)), hV4548, y4561, rfl, rfl⟩ dX11_way_53
    · skip
      refine g_aload_n hk dX11_way_29 rfl ?_
      refine gX_r0_7 hk hin11 (List.mem_cons_of_mem _ (List.mem_append_left _ (List.mem_of_getElem? (i := 0) rfl))) dX11_way_30 ?_
      refine gX_r37_3 hk hin0 (List.mem_cons_of_mem _ (List.mem_append_left _ (List.mem_of_getElem? (i := 5) rfl))) dX11_way_33 ?_
      refine gX_i29 (v := (I4548 29)) hk hin2 (List.mem_cons_of_mem _ (List.mem_append_left _ (List.mem_of_getElem? (i := 13) rfl))) dX11_way_36 rfl ?_
      refine g_goto (tgt := 53) hk dX11_way_39 (by decide) ?_
      have b4563l := Int32.le_toInt (I4548 29)
      have b4563h := Int32.toInt_lt (I4548 29)
      exact g_iret hk hR rfl ⟨I4548, A4548, (show Md [28, 29, 30, 31, 32, 33, 34] I I4548 from (Md.tr (Md.tr Md.rf hI4355 rfl) hI4548 rfl)), (show Md [21, 22, 23, 24] A A4548 from (Md.tr (Md.tr Md.rf hA4355 rfl) hA4548 rfl)), hV4548, (I4548 29), rfl, rfl⟩ dX11_way_53
  · skip
    refine g_iconst (v := (-1)) hk dX11_way_12 (by decide) ?_
    exact g_iret hk hR rfl ⟨I4355, A4355, (show Md [28, 29, 30, 31, 32, 33, 34] I I4355 from (Md.tr Md.rf hI4355 rfl)), (show Md [21, 22, 23, 24] A A4355 from (Md.tr Md.rf hA4355 rfl)), hV4355, (-1), rfl, rfl⟩ dX11_way_13
def wo_k253_X2_stepsInBoth : List Cond := [Cond.fieldLink RX2 101 "WarpDesk$Fit" "wayLength" "I", Cond.methodLink RX2 107 yX2_wayPlace, Cond.instanceMethod yX2_wayPlace, Cond.selects RX2 yX2_wayPlace yX2_wayPlace, Cond.initialized RX2]
def wz_k253_X2_stepsInBoth : List Cond := .code yX2_stepsInBoth cX2_stepsInBoth 3 (some .int) :: (wo_k253_X2_stepsInBoth ++ (wsX20 ++ (wz_k251_X2_wayPlace ++ ([] : List Cond))))
theorem zg_k253_X2_stepsInBoth : ∀ w ∈ wz_k253_X2_stepsInBoth, goodWord w = true := zg_cons rfl (zg_app (by decide +kernel) (zg_app zgU_wsX20 (zg_app zg_k251_X2_wayPlace zg_nil)))
theorem zi_k253_X2_stepsInBoth : ∀ w ∈ wz_k253_X2_stepsInBoth, w ∈ lw_tbl := zi_cons zw_1081 (zi_app (zi_cons zw_342 (zi_cons zw_1074 (zi_cons zw_1063 (zi_cons zw_1064 (zi_cons zw_112 zi_nil))))) (zi_app inX2 (zi_app zi_k251_X2_wayPlace zi_nil)))
set_option maxHeartbeats 4000000 in
set_option maxRecDepth 100000 in
theorem k253_X2_stepsInBoth (l : Launch) (D : va_G) (zt : Nat × Nat × Nat × (Nat → Nat) × (Nat → Nat)) (q : Nat → Nat) (d : Nat → ClassId) (I : Nat → Int32) (A : Nat → Nat → Int32) (hIv : IvX I A) : GM l D zt (tyX d) yX2_stepsInBoth wz_k253_X2_stepsInBoth ({ frames := 1, cells := 0, slots := 0, locals := 22 } : Room) [.ref (q 38)] (wX q d I A) (fun v _ w' => ∃ y0 : Int32, v = some (.int y0) ∧ w' = wX q d I A) 0 0 := by
  refine GM.of (cc := cX2_stepsInBoth) (maxL := 3) (ret := (some .int)) (own := RX2) (lv := [(0, .ref (q 38))]) (by decide) rfl rfl (Nat.le_of_ble_eq_true rfl) rfl (fun κ sz hk hR hN => ?_)
  have hin2 : ∀ w ∈ u_ws RX2 TX2 10, w ∈ wz_k253_X2_stepsInBoth := fun w h => (List.mem_cons_of_mem _ (List.mem_append_right _ (List.mem_append_left _ h)))
  refine g_iconst (v := 0) hk dX2_stepsInBoth_0 (by decide) ?_
  refine g_istore_n (lv' := [(1, .int 0), (0, .ref (q 38))]) hk dX2_stepsInBoth_1 (by decide) rfl ?_
  refine g_iconst (v := 1) hk dX2_stepsInBoth_2 (by decide) ?_
  refine g_istore_n (lv' := [(2, .int 1), (1, .int 0), (0, .ref (q 38))]) hk dX2_stepsInBoth_3 (by decide) rfl ?_
  have lp4634 : ∀ (n4635 : Nat) (x4575 : Int32) (x4576 : Int32), (1 ≤ x4575.toInt) → ((I 29).toInt + 1 - x4575.toInt < (n4635 : Int)) → (0 < n4635) → GW κ 3 0 0 (wX q d I A) 4 [(2, .int x4575), (1, .int x4576), (0, .ref (q 38))] [] := by
    intro n4635
    induction n4635 with
    | zero =>
      intro x4575 x4576 h4633 m4636 m4636z
      exact absurd m4636z (Nat.lt_irrefl 0)
    | succ n4635 ih4637 =>
      intro x4575 x4576 h4633 m4636 m4636z
      refine g_iload_n hk dX2_stepsInBoth_4 rfl ?_
      refine g_aload_n hk dX2_stepsInBoth_5 rfl ?_
      refine gX_i29 (v := (I 29)) hk hin2 (List.mem_cons_of_mem _ (List.mem_append_left _ (List.mem_of_getElem? (i := 0) rfl))) dX2_stepsInBoth_6 rfl ?_
      have b4638l := Int32.le_toInt x4575
      have b4638h := Int32.toInt_lt x4575
      have b4639l := Int32.le_toInt (I 29)
      have b4639h := Int32.toInt_lt (I 29)
      refine g_icmp_ge (tgt := 39) (a := x4575.toInt) (b := (I 29).toInt) hk dX2_stepsInBoth_9 (by decide) rfl rfl (fun c4640 => ?_) (fun c4640 => ?_)
      · skip
        refine g_iload_n hk dX2_stepsInBoth_39 rfl ?_
        have b4641l := Int32.le_toInt x4576
        have b4641h := Int32.toInt_lt x4576
        exact g_iret hk hR rfl ⟨x4576, rfl, rfl⟩ dX2_stepsInBoth_40
      · skip
        refine g_aload_n hk dX2_stepsInBoth_12 rfl ?_
        refine g_iload_n hk dX2_stepsInBoth_13 rfl ?_
        refine g_callV (n := 1) hk (k251_X2_wayPlace l D zt q d I A x4575 hIv) (SP.same _) (fun _ h => h) (gi_V (List.mem_cons_of_mem _ (List.mem_append_left _ (List.mem_of_getElem? (i := 1) rfl))) (List.mem_cons_of_mem _ (List.mem_append_left _ (List.mem_of_getElem? (i := 2) rfl))) (List.mem_cons_of_mem _ (List.mem_append_left _ (List.mem_of_getElem? (i := 3) rfl))) (List.mem_cons_of_mem _ (List.mem_append_left _ (List.mem_of_getElem? (i := 4) rfl))) (gi_sub (fun w h => (List.mem_cons_of_mem _ (List.mem_append_right _ (List.mem_append_right _ (List.mem_append_left _ h))))) zg_k251_X2_wayPlace)) rfl rfl rfl (by decide +kernel) ⟨Nat.le_of_ble_eq_true rfl, Nat.le_of_ble_eq_true rfl⟩ 38 rfl rfl rfl rfl (Nat.le_of_ble_eq_true rfl) ⟨Nat.le_of_ble_eq_true rfl, Nat.le_of_ble_eq_true rfl⟩ dX2_stepsInBoth_14 (fun v ty' w' hp hk' => ?_)
        obtain ⟨y4642, rfl, rfl⟩ := hp
        show GW κ 3 0 0 (wX q d I A) 17 [(2, .int x4575), (1, .int x4576), (0, .ref (q 38))] [.int y4642]
        refine g_aload_n hk dX2_stepsInBoth_17 rfl ?_
        refine g_iload_n hk dX2_stepsInBoth_18 rfl ?_
        refine g_iconst (v := 1) hk dX2_stepsInBoth_19 (by decide) ?_
        refine g_isub hk dX2_stepsInBoth_20 ?_
        refine g_topi (fun y4643 ey4643 => ?_)
        have hy4643 : y4643.toInt = x4575.toInt - 1 := i32_sub ey4643 rfl rfl (by omega) (by omega)
        refine g_callV (n := 1) hk (k251_X2_wayPlace l D zt q d I A y4643 hIv) (SP.same _) (fun _ h => h) (gi_V (List.mem_cons_of_mem _ (List.mem_append_left _ (List.mem_of_getElem? (i := 1) rfl))) (List.mem_cons_of_mem _ (List.mem_append_left _ (List.mem_of_getElem? (i := 2) rfl))) (List.mem_cons_of_mem _ (List.mem_append_left _ (List.mem_of_getElem? (i := 3) rfl))) (List.mem_cons_of_mem _ (List.mem_append_left _ (List.mem_of_getElem? (i := 4) rfl))) (gi_sub (fun w h => (List.mem_cons_of_mem _ (List.mem_append_right _ (List.mem_append_right _ (List.mem_append_left _ h))))) zg_k251_X2_wayPlace)) rfl rfl rfl (by decide +kernel) ⟨Nat.le_of_ble_eq_true rfl, Nat.le_of_ble_eq_true rfl⟩ 38 rfl rfl rfl rfl (Nat.le_of_ble_eq_true rfl) ⟨Nat.le_of_ble_eq_true rfl, Nat.le_of_ble_eq_true rfl⟩ dX2_stepsInBoth_21 (fun v ty' w' hp hk' => ?_)
        obtain ⟨y4644, rfl, rfl⟩ := hp
        show GW κ 3 0 0 (wX q d I A) 24 [(2, .int x4575), (1, .int x4576), (0, .ref (q 38))] [.int y4644, .int y4642]
        have b4645l := Int32.le_toInt y4642
        have b4645h := Int32.toInt_lt y4642
        have b4646l := Int32.le_toInt y4644
        have b4646h := Int32.toInt_lt y4644
        refine g_isub hk dX2_stepsInBoth_24 ?_
        refine g_topi (fun y4647 ey4647 => ?_)
        have hy4647 := i32_sub0 ey4647
        refine g_bipush (v := 101) hk dX2_stepsInBoth_25 (by decide) ?_
        have b4648l := Int32.le_toInt y4647
        have b4648h := Int32.toInt_lt y4647
        refine g_icmp_ne (tgt := 33) (a := y4647.toInt) (b := 101) hk dX2_stepsInBoth_27 (by decide) rfl rfl (fun c4649 => ?_) (fun c4649 => ?_)
        · skip
          obtain ⟨y4650, ey4650⟩ : ∃ y : Int32, y = x4575 + Int32.ofInt 1 := ⟨_, rfl⟩
          have hy4650 : y4650.toInt = x4575.toInt + 1 := i32_add ey4650 rfl (by decide) (by omega) (by omega)
          refine g_iinc (v := y4650) (lv' := [(2, .int y4650), (1, .int x4576), (0, .ref (q 38))]) hk 0 dX2_stepsInBoth_33 rfl ey4650.symm (by decide) rfl ?_
          refine g_goto (tgt := 4) hk dX2_stepsInBoth_36 (by decide) ?_
          exact g_lv (List.forall_mem_cons.mpr ⟨List.mem_of_getElem? (i := 0) rfl, (List.forall_mem_cons.mpr ⟨List.mem_of_getElem? (i := 1) rfl, (List.forall_mem_cons.mpr ⟨List.mem_of_getElem? (i := 2) rfl, (fun _ h => absurd h List.not_mem_nil)⟩)⟩)⟩) (ih4637 y4650 x4576 (by omega) (by omega) (by omega))
        · skip
          have b4651l := Int32.le_toInt x4576
          have b4651h := Int32.toInt_lt x4576
          obtain ⟨y4652, ey4652⟩ : ∃ y : Int32, y = x4576 + Int32.ofInt 1 := ⟨_, rfl⟩
          refine g_iinc (v := y4652) (lv' := [(1, .int y4652), (2, .int x4575), (0, .ref (q 38))]) hk 1 dX2_stepsInBoth_30 rfl ey4652.symm (by decide) rfl ?_
          obtain ⟨y4653, ey4653⟩ : ∃ y : Int32, y = x4575 + Int32.ofInt 1 := ⟨_, rfl⟩
          have hy4653 : y4653.toInt = x4575.toInt + 1 := i32_add ey4653 rfl (by decide) (by omega) (by omega)
          refine g_iinc (v := y4653) (lv' := [(2, .int y4653), (1, .int y4652), (0, .ref (q 38))]) hk 1 dX2_stepsInBoth_33 rfl ey4653.symm (by decide) rfl ?_
          refine g_goto (tgt := 4) hk dX2_stepsInBoth_36 (by decide) ?_
          exact g_lv (List.forall_mem_cons.mpr ⟨List.mem_of_getElem? (i := 0) rfl, (List.forall_mem_cons.mpr ⟨List.mem_of_getElem? (i := 1) rfl, (List.forall_mem_cons.mpr ⟨List.mem_of_getElem? (i := 2) rfl, (fun _ h => absurd h List.not_mem_nil)⟩)⟩)⟩) (ih4637 y4653 y4652 (by omega) (by omega) (by omega))
  have k4655 : (1 : Int32).toInt = 1 := rfl
  have k4656 : (0 : Int32).toInt = 0 := rfl
  obtain ⟨n4654, n4654a, n4654b⟩ : ∃ n : Nat, (I 29).toInt + 1 - 1 < (n : Int) ∧ 0 < n := ⟨(((I 29).toInt + 1 - 1 : Int)).toNat + 1, by omega, by omega⟩
  exact lp4634 n4654 1 0 (by omega) n4654a n4654b
def wo_k254_X2_widestOfWay : List Cond := [Cond.fieldLink RX2 101 "WarpDesk$Fit" "wayLength" "I", Cond.methodLink RX2 107 yX2_wayPlace, Cond.instanceMethod yX2_wayPlace, Cond.selects RX2 yX2_wayPlace yX2_wayPlace, Cond.initialized RX2, Cond.methodLink RX2 110 Lib.Math.abs.name, Cond.static Lib.Math.abs.name, Cond.initialized "java/lang/Math", Cond.code Lib.Math.abs.name Lib.Math.abs.code 1 (some .int), Cond.methodLink RX2 34 Lib.Math.max.name, Cond.static Lib.Math.max.name, Cond.code Lib.Math.max.name Lib.Math.max.code 2 (some .int)]
def wz_k254_X2_widestOfWay : List Cond := .code yX2_widestOfWay cX2_widestOfWay 4 (some .int) :: (wo_k254_X2_widestOfWay ++ (wsX20 ++ (wz_k251_X2_wayPlace ++ ([] : List Cond))))
theorem zg_k254_X2_widestOfWay : ∀ w ∈ wz_k254_X2_widestOfWay, goodWord w = true := zg_cons rfl (zg_app (by decide +kernel) (zg_app zgU_wsX20 (zg_app zg_k251_X2_wayPlace zg_nil)))
theorem zi_k254_X2_widestOfWay : ∀ w ∈ wz_k254_X2_widestOfWay, w ∈ lw_tbl := zi_cons zw_1073 (zi_app (zi_cons zw_342 (zi_cons zw_1074 (zi_cons zw_1063 (zi_cons zw_1064 (zi_cons zw_112 (zi_cons zw_1075 (zi_cons zw_1076 (zi_cons zw_120 (zi_cons zw_1077 (zi_cons zw_943 (zi_cons zw_920 (zi_cons zw_921 zi_nil)))))))))))) (zi_app inX2 (zi_app zi_k251_X2_wayPlace zi_nil)))
set_option maxHeartbeats 4000000 in
set_option maxRecDepth 100000 in
theorem k254_X2_widestOfWay (l : Launch) (D : va_G) (zt : Nat × Nat × Nat × (Nat → Nat) × (Nat → Nat)) (q : Nat → Nat) (d : Nat → ClassId) (I : Nat → Int32) (A : Nat → Nat → Int32) (hIv : IvX I A) : GM l D zt (tyX d) yX2_widestOfWay wz_k254_X2_widestOfWay ({ frames := 1, cells := 0, slots := 0, locals := 22 } : Room) [.ref (q 38)] (wX q d I A) (fun v _ w' => ∃ y0 : Int32, (0 ≤ y0.toInt) ∧ v = some (.int y0) ∧ w' = wX q d I A) 0 0 := by
  refine GM.of (cc := cX2_widestOfWay) (maxL := 4) (ret := (some .int)) (own := RX2) (lv := [(0, .ref (q 38))]) (by decide) rfl rfl (Nat.le_of_ble_eq_true rfl) rfl (fun κ sz hk hR hN => ?_)
  have hin2 : ∀ w ∈ u_ws RX2 TX2 10, w ∈ wz_k254_X2_widestOfWay := fun w h => (List.mem_cons_of_mem _ (List.mem_append_right _ (List.mem_append_left _ h)))
  refine g_iconst (v := 0) hk dX2_widestOfWay_0 (by decide) ?_
  refine g_istore_n (lv' := [(1, .int 0), (0, .ref (q 38))]) hk dX2_widestOfWay_1 (by decide) rfl ?_
  refine g_iconst (v := 0) hk dX2_widestOfWay_2 (by decide) ?_
  refine g_istore_n (lv' := [(2, .int 0), (1, .int 0), (0, .ref (q 38))]) hk dX2_widestOfWay_3 (by decide) rfl ?_
  have lp4707 : ∀ (n4708 : Nat) (x4659 : Int32) (x4660 : Int32), (0 ≤ x4659.toInt) → (0 ≤ x4660.toInt) → ((I 29).toInt + 1 - x4659.toInt < (n4708 : Int)) → (0 < n4708) → GW κ 4 0 0 (wX q d I A) 4 [(2, .int x4659), (1, .int x4660), (0, .ref (q 38))] [] := by
    intro n4708
    induction n4708 with
    | zero =>
      intro x4659 x4660 h4705 h4706 m4709 m4709z
      exact absurd m4709z (Nat.lt_irrefl 0)
    | succ n4708 ih4710 =>
      intro x4659 x4660 h4705 h4706 m4709 m4709z
      refine g_iload_n hk dX2_widestOfWay_4 rfl ?_
      refine g_aload_n hk dX2_widestOfWay_5 rfl ?_
      refine gX_i29 (v := (I 29)) hk hin2 (List.mem_cons_of_mem _ (List.mem_append_left _ (List.mem_of_getElem? (i := 0) rfl))) dX2_widestOfWay_6 rfl ?_
      have b4711l := Int32.le_toInt x4659
      have b4711h := Int32.toInt_lt x4659
      have b4712l := Int32.le_toInt (I 29)
      have b4712h := Int32.toInt_lt (I 29)
      refine g_icmp_ge (tgt := 41) (a := x4659.toInt) (b := (I 29).toInt) hk dX2_widestOfWay_9 (by decide) rfl rfl (fun c4713 => ?_) (fun c4713 => ?_)
      · skip
        refine g_iload_n hk dX2_widestOfWay_41 rfl ?_
        have b4714l := Int32.le_toInt x4660
        have b4714h := Int32.toInt_lt x4660
        exact g_iret hk hR rfl ⟨x4660, (by omega), rfl, rfl⟩ dX2_widestOfWay_42
      · skip
        refine g_aload_n hk dX2_widestOfWay_12 rfl ?_
        refine g_iload_n hk dX2_widestOfWay_13 rfl ?_
        refine g_callV (n := 1) hk (k251_X2_wayPlace l D zt q d I A x4659 hIv) (SP.same _) (fun _ h => h) (gi_V (List.mem_cons_of_mem _ (List.mem_append_left _ (List.mem_of_getElem? (i := 1) rfl))) (List.mem_cons_of_mem _ (List.mem_append_left _ (List.mem_of_getElem? (i := 2) rfl))) (List.mem_cons_of_mem _ (List.mem_append_left _ (List.mem_of_getElem? (i := 3) rfl))) (List.mem_cons_of_mem _ (List.mem_append_left _ (List.mem_of_getElem? (i := 4) rfl))) (gi_sub (fun w h => (List.mem_cons_of_mem _ (List.mem_append_right _ (List.mem_append_right _ (List.mem_append_left _ h))))) zg_k251_X2_wayPlace)) rfl rfl rfl (by decide +kernel) ⟨Nat.le_of_ble_eq_true rfl, Nat.le_of_ble_eq_true rfl⟩ 38 rfl rfl rfl rfl (Nat.le_of_ble_eq_true rfl) ⟨Nat.le_of_ble_eq_true rfl, Nat.le_of_ble_eq_true rfl⟩ dX2_widestOfWay_14 (fun v ty' w' hp hk' => ?_)
        obtain ⟨y4715, rfl, rfl⟩ := hp
        show GW κ 4 0 0 (wX q d I A) 17 [(2, .int x4659), (1, .int x4660), (0, .ref (q 38))] [.int y4715]
        refine g_istore_n (lv' := [(3, .int y4715), (2, .int x4659), (1, .int x4660), (0, .ref (q 38))]) hk dX2_widestOfWay_17 (by decide) rfl ?_
        refine g_iload_n hk dX2_widestOfWay_18 rfl ?_
        refine g_iload_n hk dX2_widestOfWay_19 rfl ?_
        refine g_bipush (v := 100) hk dX2_widestOfWay_20 (by decide) ?_
        refine g_idiv hk dX2_widestOfWay_22 (by decide) ?_
        refine g_topi (fun y4716 ey4716 => ?_)
        refine g_iload_n hk dX2_widestOfWay_23 rfl ?_
        refine g_bipush (v := 100) hk dX2_widestOfWay_24 (by decide) ?_
        refine g_irem hk dX2_widestOfWay_26 (by decide) ?_
        refine g_topi (fun y4717 ey4717 => ?_)
        have b4718l := Int32.le_toInt y4716
        have b4718h := Int32.toInt_lt y4716
        have b4719l := Int32.le_toInt y4717
        have b4719h := Int32.toInt_lt y4717
        refine g_isub hk dX2_widestOfWay_27 ?_
        refine g_topi (fun y4720 ey4720 => ?_)
        have hy4720 := i32_sub0 ey4720
        have b4721l := Int32.le_toInt y4720
        have b4721h := Int32.toInt_lt y4720
        refine g_mabs hk (List.mem_cons_of_mem _ (List.mem_append_left _ (List.mem_of_getElem? (i := 5) rfl))) (List.mem_cons_of_mem _ (List.mem_append_left _ (List.mem_of_getElem? (i := 6) rfl))) (List.mem_cons_of_mem _ (List.mem_append_left _ (List.mem_of_getElem? (i := 7) rfl))) (List.mem_cons_of_mem _ (List.mem_append_left _ (List.mem_of_getElem? (i := 8) rfl))) (Nat.le_of_ble_eq_true rfl) (Nat.le_of_ble_eq_true rfl) (Nat.le_of_ble_eq_true rfl) (Nat.le_of_ble_eq_true rfl) dX2_widestOfWay_28 ?_
        refine g_topi (fun y4722 ey4722 => ?_)
        have b4723l := Int32.le_toInt y4722
        have b4723h := Int32.toInt_lt y4722
        have b4724l := Int32.le_toInt x4660
        have b4724h := Int32.toInt_lt x4660
        refine g_mmax hk (List.mem_cons_of_mem _ (List.mem_append_left _ (List.mem_of_getElem? (i := 9) rfl))) (List.mem_cons_of_mem _ (List.mem_append_left _ (List.mem_of_getElem? (i := 10) rfl))) (List.mem_cons_of_mem _ (List.mem_append_left _ (List.mem_of_getElem? (i := 7) rfl))) (List.mem_cons_of_mem _ (List.mem_append_left _ (List.mem_of_getElem? (i := 11) rfl))) (Nat.le_of_ble_eq_true rfl) (Nat.le_of_ble_eq_true rfl) (Nat.le_of_ble_eq_true rfl) (Nat.le_of_ble_eq_true rfl) dX2_widestOfWay_31 ?_
        refine g_topi (fun y4725 ey4725 => ?_)
        have hy4725 := i32_max ey4725
        refine g_istore_n (lv' := [(1, .int y4725), (3, .int y4715), (2, .int x4659), (0, .ref (q 38))]) hk dX2_widestOfWay_34 (by decide) rfl ?_
        obtain ⟨y4726, ey4726⟩ : ∃ y : Int32, y = x4659 + Int32.ofInt 1 := ⟨_, rfl⟩
        have hy4726 : y4726.toInt = x4659.toInt + 1 := i32_add ey4726 rfl (by decide) (by omega) (by omega)
        refine g_iinc (v := y4726) (lv' := [(2, .int y4726), (1, .int y4725), (3, .int y4715), (0, .ref (q 38))]) hk 2 dX2_widestOfWay_35 rfl ey4726.symm (by decide) rfl ?_
        refine g_goto (tgt := 4) hk dX2_widestOfWay_38 (by decide) ?_
        exact g_lv (List.forall_mem_cons.mpr ⟨List.mem_of_getElem? (i := 0) rfl, (List.forall_mem_cons.mpr ⟨List.mem_of_getElem? (i := 1) rfl, (List.forall_mem_cons.mpr ⟨List.mem_of_getElem? (i := 3) rfl, (fun _ h => absurd h List.not_mem_nil)⟩)⟩)⟩) (ih4710 y4726 y4725 (by omega) (by omega) (by omega) (by omega))
  have k4728 : (0 : Int32).toInt = 0 := rfl
  obtain ⟨n4727, n4727a, n4727b⟩ : ∃ n : Nat, (I 29).toInt + 1 - 0 < (n : Int) ∧ 0 < n := ⟨(((I 29).toInt + 1 - 0 : Int)).toNat + 1, by omega, by omega⟩
  exact lp4707 n4727 0 0 (by omega) (by omega) n4727a n4727b
def wo_k252_X11_lean : List Cond := [Cond.fieldLink RX11 65 "WarpDesk" "bench" "LWarpDesk$Bench;", Cond.methodLink RX11 212 yX0_openBoth, Cond.instanceMethod yX0_openBoth, Cond.selects RX0 yX0_openBoth yX0_openBoth, Cond.initialized RX0, Cond.fieldLink RX11 202 "WarpDesk$Bench" "fit" "LWarpDesk$Fit;", Cond.methodLink RX11 236 yX2_traceWay, Cond.instanceMethod yX2_traceWay, Cond.selects RX2 yX2_traceWay yX2_traceWay, Cond.initialized RX2, Cond.methodLink RX11 248 yX2_stepsInBoth, Cond.instanceMethod yX2_stepsInBoth, Cond.selects RX2 yX2_stepsInBoth yX2_stepsInBoth, Cond.methodLink RX11 245 yX2_widestOfWay, Cond.instanceMethod yX2_widestOfWay, Cond.selects RX2 yX2_widestOfWay yX2_widestOfWay]
def wz_k252_X11_lean : List Cond := .code yX11_lean cX11_lean 4 (some .int) :: (wo_k252_X11_lean ++ (wsX00 ++ (wsX110 ++ (wz_k222_X0_openBoth ++ (wz_k249_X2_traceWay ++ (wz_k253_X2_stepsInBoth ++ (wz_k254_X2_widestOfWay ++ ([] : List Cond))))))))
theorem zg_k252_X11_lean : ∀ w ∈ wz_k252_X11_lean, goodWord w = true := zg_cons rfl (zg_app (by decide +kernel) (zg_app zgU_wsX00 (zg_app zgU_wsX110 (zg_app zg_k222_X0_openBoth (zg_app zg_k249_X2_traceWay (zg_app zg_k253_X2_stepsInBoth (zg_app zg_k254_X2_widestOfWay zg_nil)))))))
theorem zi_k252_X11_lean : ∀ w ∈ wz_k252_X11_lean, w ∈ lw_tbl := zi_cons zw_1069 (zi_app (zi_cons zw_494 (zi_cons zw_969 (zi_cons zw_970 (zi_cons zw_971 (zi_cons zw_111 (zi_cons zw_383 (zi_cons zw_1054 (zi_cons zw_1055 (zi_cons zw_1056 (zi_cons zw_112 (zi_cons zw_1078 (zi_cons zw_1079 (zi_cons zw_1080 (zi_cons zw_1070 (zi_cons zw_1071 (zi_cons zw_1072 zi_nil)))))))))))))))) (zi_app inX0 (zi_app inX11 (zi_app zi_k222_X0_openBoth (zi_app zi_k249_X2_traceWay (zi_app zi_k253_X2_stepsInBoth (zi_app zi_k254_X2_widestOfWay zi_nil)))))))
set_option maxHeartbeats 4000000 in
set_option maxRecDepth 100000 in
theorem k252_X11_lean (l : Launch) (D : va_G) (zt : Nat × Nat × Nat × (Nat → Nat) × (Nat → Nat)) (q : Nat → Nat) (d : Nat → ClassId) (I : Nat → Int32) (A : Nat → Nat → Int32) (z1 : Int32) (z2 : Int32) (z3 : Int32) (hIv : IvX I A) : GM l D zt (tyX d) yX11_lean wz_k252_X11_lean ({ frames := 6, cells := 0, slots := 0, locals := 131 } : Room) [.ref (q 0), .int z1, .int z2, .int z3] (wX q d I A) (fun v _ w' => ∃ (I' : Nat → Int32) (A' : Nat → Nat → Int32), Md [28, 29, 30, 31, 32, 33, 34] I I' ∧ Md [21, 22, 23, 24] A A' ∧ IvX I' A' ∧ ∃ y0 : Int32, v = some (.int y0) ∧ w' = wX q d I' A') 0 0 := by
  refine GM.of (cc := cX11_lean) (maxL := 4) (ret := (some .int)) (own := RX11) (lv := [(0, .ref (q 0)), (1, .int z1), (2, .int z2), (3, .int z3)]) (by decide) rfl rfl (Nat.le_of_ble_eq_true rfl) rfl (fun κ sz hk hR hN => ?_)
  have hin0 : ∀ w ∈ u_ws RX0 TX0 5, w ∈ wz_k252_X11_lean := fun w h => (List.mem_cons_of_mem _ (List.mem_append_right _ (List.mem_append_left _ h)))
  have hin11 : ∀ w ∈ u_ws RX11 TX11 10, w ∈ wz_k252_X11_lean := fun w h => (List.mem_cons_of_mem _ (List.mem_append_right _ (List.mem_append_right _ (List.mem_append_left _ h))))
  refine g_iload_n hk dX11_lean_0 rfl ?_
  have b4564l := Int32.le_toInt z3
  have b4564h := Int32.toInt_lt z3
  refine g_if_lt (tgt := 21) (a := z3.toInt) hk dX11_lean_1 (by decide) rfl (fun c4565 => ?_) (fun c4565 => ?_)
  · skip
    refine g_iconst (v := (-1)) hk dX11_lean_21 (by decide) ?_
    exact g_iret hk hR rfl ⟨I, A, (show Md [28, 29, 30, 31, 32, 33, 34] I I from Md.rf), (show Md [21, 22, 23, 24] A A from Md.rf), hIv, (-1), rfl, rfl⟩ dX11_lean_22
  · skip
    refine g_iload_n hk dX11_lean_4 rfl ?_
    refine g_iconst (v := 1) hk dX11_lean_5 (by decide) ?_
    refine g_icmp_gt (tgt := 21) (a := z3.toInt) (b := 1) hk dX11_lean_6 (by decide) rfl rfl (fun c4566 => ?_) (fun c4566 => ?_)
    · skip
      refine g_iconst (v := (-1)) hk dX11_lean_21 (by decide) ?_
      exact g_iret hk hR rfl ⟨I, A, (show Md [28, 29, 30, 31, 32, 33, 34] I I from Md.rf), (show Md [21, 22, 23, 24] A A from Md.rf), hIv, (-1), rfl, rfl⟩ dX11_lean_22
    · skip
      refine g_aload_n hk dX11_lean_9 rfl ?_
      refine gX_r0_7 hk hin11 (List.mem_cons_of_mem _ (List.mem_append_left _ (List.mem_of_getElem? (i := 0) rfl))) dX11_lean_10 ?_
      refine g_iload_n hk dX11_lean_13 rfl ?_
      refine g_iload_n hk dX11_lean_14 rfl ?_
      refine g_callV (n := 2) hk (k222_X0_openBoth l D zt q d I A z1 z2 hIv) (SP.same _) (fun _ h => h) (gi_V (List.mem_cons_of_mem _ (List.mem_append_left _ (List.mem_of_getElem? (i := 1) rfl))) (List.mem_cons_of_mem _ (List.mem_append_left _ (List.mem_of_getElem? (i := 2) rfl))) (List.mem_cons_of_mem _ (List.mem_append_left _ (List.mem_of_getElem? (i := 3) rfl))) (List.mem_cons_of_mem _ (List.mem_append_left _ (List.mem_of_getElem? (i := 4) rfl))) (gi_sub (fun w h => (List.mem_cons_of_mem _ (List.mem_append_right _ (List.mem_append_right _ (List.mem_append_right _ (List.mem_append_left _ h)))))) zg_k222_X0_openBoth)) rfl rfl rfl (by decide +kernel) ⟨Nat.le_of_ble_eq_true rfl, Nat.le_of_ble_eq_true rfl⟩ 37 rfl rfl rfl rfl (Nat.le_of_ble_eq_true rfl) ⟨Nat.le_of_ble_eq_true rfl, Nat.le_of_ble_eq_true rfl⟩ dX11_lean_15 (fun v ty' w' hp hk' => ?_)
      obtain ⟨I4570, A4570, hI4570, hA4570, hV4570, y4567, c4568, c4569, rfl, rfl⟩ := hp
      show GW κ 4 0 0 (wX q d I4570 A4570) 18 [(0, .ref (q 0)), (1, .int z1), (2, .int z2), (3, .int z3)] [.int y4567]
      refine g_if_ne (tgt := 23) (a := y4567.toInt) hk dX11_lean_18 (by decide) rfl (fun c4571 => ?_) (fun c4571 => ?_)
      · skip
        refine g_aload_n hk dX11_lean_23 rfl ?_
        refine gX_r0_7 hk hin11 (List.mem_cons_of_mem _ (List.mem_append_left _ (List.mem_of_getElem? (i := 0) rfl))) dX11_lean_24 ?_
        refine gX_r37_3 hk hin0 (List.mem_cons_of_mem _ (List.mem_append_left _ (List.mem_of_getElem? (i := 5) rfl))) dX11_lean_27 ?_
        refine g_callV (n := 0) hk (k249_X2_traceWay l D zt q d I4570 A4570  hV4570) (SP.same _) (fun _ h => h) (gi_V (List.mem_cons_of_mem _ (List.mem_append_left _ (List.mem_of_getElem? (i := 6) rfl))) (List.mem_cons_of_mem _ (List.mem_append_left _ (List.mem_of_getElem? (i := 7) rfl))) (List.mem_cons_of_mem _ (List.mem_append_left _ (List.mem_of_getElem? (i := 8) rfl))) (List.mem_cons_of_mem _ (List.mem_append_left _ (List.mem_of_getElem? (i := 9) rfl))) (gi_sub (fun w h => (List.mem_cons_of_mem _ (List.mem_append_right _ (List.mem_append_right _ (List.mem_append_right _ (List.mem_append_right _ (List.mem_append_left _ h))))))) zg_k249_X2_traceWay)) rfl rfl rfl (by decide +kernel) ⟨Nat.le_of_ble_eq_true rfl, Nat.le_of_ble_eq_true rfl⟩ 38 rfl rfl rfl rfl (Nat.le_of_ble_eq_true rfl) ⟨Nat.le_of_ble_eq_true rfl, Nat.le_of_ble_eq_true rfl⟩ dX11_lean_30 (fun v ty' w' hp hk' => ?_)
        obtain ⟨I4573, A4573, hI4573, hA4573, hV4573, rfl, rfl⟩ := hp
        show GW κ 4 0 0 (wX q d I4573 A4573) 33 [(0, .ref (q 0)), (1, .int z1), (2, .int z2), (3, .int z3)] []
        refine g_iload_n hk dX11_lean_33 rfl ?_
        refine g_if_ne (tgt := 50) (a := z3.toInt) hk dX11_lean_34 (by decide) rfl (fun c4574 => ?_) (fun c4574 => ?_)
        · skip
          refine g_aload_n hk dX11_lean_50 rfl ?_
          refine gX_r0_7 hk hin11 (List.mem_cons_of_mem _ (List.mem_append_left _ (List.mem_of_getElem? (i := 0) rfl))) dX11_lean_51 ?_
          refine gX_r37_3 hk hin0 (List.mem_cons_of_mem _ (List.mem_append_left _ (List.mem_of_getElem? (i := 5) rfl))) dX11_lean_54 ?_
          refine g_callV (n := 0) hk (k253_X2_stepsInBoth l D zt q d I4573 A4573  hV4573) (SP.same _) (fun _ h => h) (gi_V (List.mem_cons_of_mem _ (List.mem_append_left _ (List.mem_of_getElem? (i := 10) rfl))) (List.mem_cons_of_mem _ (List.mem_append_left _ (List.mem_of_getElem? (i := 11) rfl))) (List.mem_cons_of_mem _ (List.mem_append_left _ (List.mem_of_getElem? (i := 12) rfl))) (List.mem_cons_of_mem _ (List.mem_append_left _ (List.mem_of_getElem? (i := 9) rfl))) (gi_sub (fun w h => (List.mem_cons_of_mem _ (List.mem_append_right _ (List.mem_append_right _ (List.mem_append_right _ (List.mem_append_right _ (List.mem_append_right _ (List.mem_append_left _ h)))))))) zg_k253_X2_stepsInBoth)) rfl rfl rfl (by decide +kernel) ⟨Nat.le_of_ble_eq_true rfl, Nat.le_of_ble_eq_true rfl⟩ 38 rfl rfl rfl rfl (Nat.le_of_ble_eq_true rfl) ⟨Nat.le_of_ble_eq_true rfl, Nat.le_of_ble_eq_true rfl⟩ dX11_lean_57 (fun v ty' w' hp hk' => ?_)
          obtain ⟨y4657, rfl, rfl⟩ := hp
          show GW κ 4 0 0 (wX q d I4573 A4573) 60 [(0, .ref (q 0)), (1, .int z1), (2, .int z2), (3, .int z3)] [.int y4657]
          have b4658l := Int32.le_toInt y4657
          have b4658h := Int32.toInt_lt y4657
          exact g_iret hk hR rfl ⟨I4573, A4573, (show Md [28, 29, 30, 31, 32, 33, 34] I I4573 from (Md.tr (Md.tr Md.rf hI4570 rfl) hI4573 rfl)), (show Md [21, 22, 23, 24] A A4573 from (Md.tr (Md.tr Md.rf hA4570 rfl) hA4573 rfl)), hV4573, y4657, rfl, rfl⟩ dX11_lean_60
        · skip
          refine g_aload_n hk dX11_lean_37 rfl ?_
          refine gX_r0_7 hk hin11 (List.mem_cons_of_mem _ (List.mem_append_left _ (List.mem_of_getElem? (i := 0) rfl))) dX11_lean_38 ?_
          refine gX_r37_3 hk hin0 (List.mem_cons_of_mem _ (List.mem_append_left _ (List.mem_of_getElem? (i := 5) rfl))) dX11_lean_41 ?_
          refine g_callV (n := 0) hk (k254_X2_widestOfWay l D zt q d I4573 A4573  hV4573) (SP.same _) (fun _ h => h) (gi_V (List.mem_cons_of_mem _ (List.mem_append_left _ (List.mem_of_getElem? (i := 13) rfl))) (List.mem_cons_of_mem _ (List.mem_append_left _ (List.mem_of_getElem? (i := 14) rfl))) (List.mem_cons_of_mem _ (List.mem_append_left _ (List.mem_of_getElem? (i := 15) rfl))) (List.mem_cons_of_mem _ (List.mem_append_left _ (List.mem_of_getElem? (i := 9) rfl))) (gi_sub (fun w h => (List.mem_cons_of_mem _ (List.mem_append_right _ (List.mem_append_right _ (List.mem_append_right _ (List.mem_append_right _ (List.mem_append_right _ (List.mem_append_right _ (List.mem_append_left _ h))))))))) zg_k254_X2_widestOfWay)) rfl rfl rfl (by decide +kernel) ⟨Nat.le_of_ble_eq_true rfl, Nat.le_of_ble_eq_true rfl⟩ 38 rfl rfl rfl rfl (Nat.le_of_ble_eq_true rfl) ⟨Nat.le_of_ble_eq_true rfl, Nat.le_of_ble_eq_true rfl⟩ dX11_lean_44 (fun v ty' w' hp hk' => ?_)
          obtain ⟨y4729, c4730, rfl, rfl⟩ := hp
          show GW κ 4 0 0 (wX q d I4573 A4573) 47 [(0, .ref (q 0)), (1, .int z1), (2, .int z2), (3, .int z3)] [.int y4729]
          refine g_goto (tgt := 60) hk dX11_lean_47 (by decide) ?_
          have b4731l := Int32.le_toInt y4729
          have b4731h := Int32.toInt_lt y4729
          exact g_iret hk hR rfl ⟨I4573, A4573, (show Md [28, 29, 30, 31, 32, 33, 34] I I4573 from (Md.tr (Md.tr Md.rf hI4570 rfl) hI4573 rfl)), (show Md [21, 22, 23, 24] A A4573 from (Md.tr (Md.tr Md.rf hA4570 rfl) hA4573 rfl)), hV4573, y4729, rfl, rfl⟩ dX11_lean_60
      · skip
        refine g_iconst (v := (-1)) hk dX11_lean_21 (by decide) ?_
        exact g_iret hk hR rfl ⟨I4570, A4570, (show Md [28, 29, 30, 31, 32, 33, 34] I I4570 from (Md.tr Md.rf hI4570 rfl)), (show Md [21, 22, 23, 24] A A4570 from (Md.tr Md.rf hA4570 rfl)), hV4570, (-1), rfl, rfl⟩ dX11_lean_22
def wo_k257_X4_copyQuery : List Cond := [Cond.methodLink RX4 26 yX4_lengthOf, Cond.instanceMethod yX4_lengthOf, Cond.selects RX4 yX4_lengthOf yX4_lengthOf, Cond.initialized RX4, Cond.methodLink RX4 33 yX4_valueAt, Cond.instanceMethod yX4_valueAt, Cond.selects RX4 yX4_valueAt yX4_valueAt]
def wz_k257_X4_copyQuery : List Cond := .code yX4_copyQuery cX4_copyQuery 4 none :: (wo_k257_X4_copyQuery ++ (wz_k182_X4_lengthOf ++ (wz_k181_X4_valueAt ++ ([] : List Cond))))
theorem zg_k257_X4_copyQuery : ∀ w ∈ wz_k257_X4_copyQuery, goodWord w = true := zg_cons rfl (zg_app (by decide +kernel) (zg_app zg_k182_X4_lengthOf (zg_app zg_k181_X4_valueAt zg_nil)))
theorem zi_k257_X4_copyQuery : ∀ w ∈ wz_k257_X4_copyQuery, w ∈ lw_tbl := zi_cons zw_987 (zi_app (zi_cons zw_756 (zi_cons zw_757 (zi_cons zw_758 (zi_cons zw_108 (zi_cons zw_760 (zi_cons zw_761 (zi_cons zw_762 zi_nil))))))) (zi_app zi_k182_X4_lengthOf (zi_app zi_k181_X4_valueAt zi_nil)))
set_option maxHeartbeats 4000000 in
set_option maxRecDepth 100000 in
theorem k257_X4_copyQuery (l : Launch) (D : va_G) (zt : Nat × Nat × Nat × (Nat → Nat) × (Nat → Nat)) (q : Nat → Nat) (d : Nat → ClassId) (I : Nat → Int32) (A : Nat → Nat → Int32) (z1 : Int32) (hIv : IvX I A) : GM l D zt (tyX d) yX4_copyQuery wz_k257_X4_copyQuery ({ frames := 3, cells := 0, slots := 0, locals := 64 } : Room) [.ref (q 15), .int z1, .ref (q 40)] (wX q d I A) (fun v _ w' => ∃ (I' : Nat → Int32) (A' : Nat → Nat → Int32), Md [] I I' ∧ Md [22] A A' ∧ IvX I' A' ∧ v = none ∧ w' = wX q d I' A') 0 0 := by
  refine GM.of (cc := cX4_copyQuery) (maxL := 4) (ret := none) (own := RX4) (lv := [(0, .ref (q 15)), (1, .int z1), (2, .ref (q 40))]) (by decide) rfl rfl (Nat.le_of_ble_eq_true rfl) rfl (fun κ sz hk hR hN => ?_)
  refine g_iconst (v := 0) hk dX4_copyQuery_0 (by decide) ?_
  refine g_istore_n (lv' := [(3, .int 0), (0, .ref (q 15)), (1, .int z1), (2, .ref (q 40))]) hk dX4_copyQuery_1 (by decide) rfl ?_
  have lp4829 : ∀ (n4830 : Nat) (x4768 : Int32) (I4772 : Nat → Int32) (A4772 : Nat → Nat → Int32), (Md [] I I4772) → (Md [22] A A4772) → (IvX I4772 A4772) → (0 ≤ x4768.toInt) → (x4768.toInt ≤ 16) → (17 - x4768.toInt < (n4830 : Int)) → (0 < n4830) → GW κ 4 0 0 (wX q d I4772 A4772) 2 [(3, .int x4768), (0, .ref (q 15)), (1, .int z1), (2, .ref (q 40))] [] := by
    intro n4830
    induction n4830 with
    | zero =>
      intro x4768 I4772 A4772 hI4772 hA4772 hV4772 h4827 h4828 m4831 m4831z
      exact absurd m4831z (Nat.lt_irrefl 0)
    | succ n4830 ih4832 =>
      intro x4768 I4772 A4772 hI4772 hA4772 hV4772 h4827 h4828 m4831 m4831z
      refine g_iload_n hk dX4_copyQuery_2 rfl ?_
      refine g_aload_n hk dX4_copyQuery_3 rfl ?_
      refine g_iload_n hk dX4_copyQuery_4 rfl ?_
      refine g_callV (n := 1) hk (k182_X4_lengthOf l D zt q d I4772 A4772 z1 hV4772) (SP.same _) (fun _ h => h) (gi_V (List.mem_cons_of_mem _ (List.mem_append_left _ (List.mem_of_getElem? (i := 0) rfl))) (List.mem_cons_of_mem _ (List.mem_append_left _ (List.mem_of_getElem? (i := 1) rfl))) (List.mem_cons_of_mem _ (List.mem_append_left _ (List.mem_of_getElem? (i := 2) rfl))) (List.mem_cons_of_mem _ (List.mem_append_left _ (List.mem_of_getElem? (i := 3) rfl))) (gi_sub (fun w h => (List.mem_cons_of_mem _ (List.mem_append_right _ (List.mem_append_left _ h)))) zg_k182_X4_lengthOf)) rfl rfl rfl (by decide +kernel) ⟨Nat.le_of_ble_eq_true rfl, Nat.le_of_ble_eq_true rfl⟩ 15 rfl rfl rfl rfl (Nat.le_of_ble_eq_true rfl) ⟨Nat.le_of_ble_eq_true rfl, Nat.le_of_ble_eq_true rfl⟩ dX4_copyQuery_5 (fun v ty' w' hp hk' => ?_)
      rcases hp with ⟨rfl, rfl⟩ | ⟨y4840, c4834, c4835, c4836, c4837, c4838, c4839, c4841, c4842, rfl, rfl⟩
      · skip
        show GW κ 4 0 0 (wX q d I4772 A4772) 8 [(3, .int x4768), (0, .ref (q 15)), (1, .int z1), (2, .ref (q 40))] [.int 0, .int x4768]
        refine g_icmp_ge (tgt := 32) (a := x4768.toInt) (b := 0) hk dX4_copyQuery_8 (by decide) rfl rfl (fun _ => ?_) (fun z9 => absurd (show 0 ≤ x4768.toInt from by omega) z9)
        exact g_vret hk hR ⟨I4772, A4772, (show Md [] I I4772 from (Md.tr Md.rf hI4772 rfl)), (show Md [22] A A4772 from (Md.tr Md.rf hA4772 rfl)), hV4772, rfl, rfl⟩ dX4_copyQuery_32
      · skip
        show GW κ 4 0 0 (wX q d I4772 A4772) 8 [(3, .int x4768), (0, .ref (q 15)), (1, .int z1), (2, .ref (q 40))] [.int y4840, .int x4768]
        refine g_icmp_ge (tgt := 32) (a := x4768.toInt) (b := y4840.toInt) hk dX4_copyQuery_8 (by decide) rfl rfl (fun c4843 => ?_) (fun c4843 => ?_)
        · skip
          exact g_vret hk hR ⟨I4772, A4772, (show Md [] I I4772 from (Md.tr Md.rf hI4772 rfl)), (show Md [22] A A4772 from (Md.tr Md.rf hA4772 rfl)), hV4772, rfl, rfl⟩ dX4_copyQuery_32
        · skip
          refine g_iload_n hk dX4_copyQuery_11 rfl ?_
          refine g_aload_n hk dX4_copyQuery_12 rfl ?_
          refine nX_22 hk dX4_copyQuery_13 ?_
          refine g_icmp_ge (tgt := 32) (a := x4768.toInt) (b := 16) hk dX4_copyQuery_14 (by decide) rfl rfl (fun z9 => absurd z9 (show ¬ (16 ≤ x4768.toInt) from by omega)) (fun _ => ?_)
          refine g_aload_n hk dX4_copyQuery_17 rfl ?_
          refine g_iload_n hk dX4_copyQuery_18 rfl ?_
          refine g_aload_n hk dX4_copyQuery_19 rfl ?_
          refine g_iload_n hk dX4_copyQuery_20 rfl ?_
          refine g_iload_n hk dX4_copyQuery_21 rfl ?_
          refine g_callV (n := 2) hk (k181_X4_valueAt l D zt q d I4772 A4772 z1 x4768 hV4772) (SP.same _) (fun _ h => h) (gi_V (List.mem_cons_of_mem _ (List.mem_append_left _ (List.mem_of_getElem? (i := 4) rfl))) (List.mem_cons_of_mem _ (List.mem_append_left _ (List.mem_of_getElem? (i := 5) rfl))) (List.mem_cons_of_mem _ (List.mem_append_left _ (List.mem_of_getElem? (i := 6) rfl))) (List.mem_cons_of_mem _ (List.mem_append_left _ (List.mem_of_getElem? (i := 3) rfl))) (gi_sub (fun w h => (List.mem_cons_of_mem _ (List.mem_append_right _ (List.mem_append_right _ (List.mem_append_left _ h))))) zg_k181_X4_valueAt)) rfl rfl rfl (by decide +kernel) ⟨Nat.le_of_ble_eq_true rfl, Nat.le_of_ble_eq_true rfl⟩ 15 rfl rfl rfl rfl (Nat.le_of_ble_eq_true rfl) ⟨Nat.le_of_ble_eq_true rfl, Nat.le_of_ble_eq_true rfl⟩ dX4_copyQuery_22 (fun v ty' w' hp hk' => ?_)
          obtain ⟨y4844, rfl, rfl⟩ := hp
          show GW κ 4 0 0 (wX q d I4772 A4772) 25 [(3, .int x4768), (0, .ref (q 15)), (1, .int z1), (2, .ref (q 40))] [.int y4844, .int x4768, .ref (q 40)]
          refine sX_22 (j := x4768.toNatClampNeg) hk (vp_in_iff.mpr ⟨by omega, by omega⟩) rfl dX4_copyQuery_25 ?_
          obtain ⟨y4845, ey4845⟩ : ∃ y : Int32, y = x4768 + Int32.ofInt 1 := ⟨_, rfl⟩
          have hy4845 : y4845.toInt = x4768.toInt + 1 := i32_add ey4845 rfl (by decide) (by omega) (by omega)
          refine g_iinc (v := y4845) (lv' := [(3, .int y4845), (0, .ref (q 15)), (1, .int z1), (2, .ref (q 40))]) hk 0 dX4_copyQuery_26 rfl ey4845.symm (by decide) rfl ?_
          refine g_goto (tgt := 2) hk dX4_copyQuery_29 (by decide) ?_
          exact g_lv (List.forall_mem_cons.mpr ⟨List.mem_of_getElem? (i := 0) rfl, (List.forall_mem_cons.mpr ⟨List.mem_of_getElem? (i := 1) rfl, (List.forall_mem_cons.mpr ⟨List.mem_of_getElem? (i := 2) rfl, (List.forall_mem_cons.mpr ⟨List.mem_of_getElem? (i := 3) rfl, (fun _ h => absurd h List.not_mem_nil)⟩)⟩)⟩)⟩) (ih4832 y4845 I4772 (up3 A4772 22 (x4768.toNatClampNeg) y4844) (show Md [] I I4772 from Md.tr hI4772 (show Md [] I4772 I4772 from Md.rf) rfl) (show Md [22] A (up3 A4772 22 (x4768.toNatClampNeg) y4844) from Md.tr hA4772 (show Md [22] A4772 (up3 A4772 22 (x4768.toNatClampNeg) y4844) from (Md.up3 Md.rf rfl)) rfl) ⟨(IvX_f0 (I := I4772) (A := A4772) hV4772), (IvX_f18 (I := I4772) (A := A4772) hV4772), (IvX_f30 (I := I4772) (A := A4772) hV4772), (IvX_f31 (I := I4772) (A := A4772) hV4772), (IvX_a4 (I := I4772) (A := A4772) hV4772), (IvX_a9 (I := I4772) (A := A4772) hV4772), trivial⟩ (by omega) (by omega) (by omega) (by omega))
  have k4847 : (0 : Int32).toInt = 0 := rfl
  obtain ⟨n4846, n4846a, n4846b⟩ : ∃ n : Nat, 17 - 0 < (n : Int) ∧ 0 < n := ⟨((17 - 0 : Int)).toNat + 1, by omega, by omega⟩
  exact lp4829 n4846 0 I A Md.rf Md.rf hIv (by omega) (by omega) n4846a n4846b
def wo_k256_X0_laySecondQuery : List Cond := [Cond.fieldLink RX0 22 "WarpDesk$Bench" "queries" "LWarpDesk$Queries;", Cond.fieldLink RX0 12 "WarpDesk$Bench" "fit" "LWarpDesk$Fit;", Cond.fieldLink RX0 88 "WarpDesk$Fit" "right" "[I", Cond.methodLink RX0 69 yX4_copyQuery, Cond.instanceMethod yX4_copyQuery, Cond.selects RX4 yX4_copyQuery yX4_copyQuery, Cond.initialized RX4, Cond.fieldLink RX0 26 "WarpDesk$Bench" "settings" "LWarpDesk$Settings;", Cond.methodLink RX0 49 yX7_valueOf, Cond.instanceMethod yX7_valueOf, Cond.selects RX7 yX7_valueOf yX7_valueOf, Cond.initialized RX7, Cond.methodLink RX0 73 yX2_bringToLevel, Cond.instanceMethod yX2_bringToLevel, Cond.selects RX2 yX2_bringToLevel yX2_bringToLevel, Cond.initialized RX2]
def wz_k256_X0_laySecondQuery : List Cond := .code yX0_laySecondQuery cX0_laySecondQuery 2 none :: (wo_k256_X0_laySecondQuery ++ (wsX00 ++ (wsX20 ++ (wz_k257_X4_copyQuery ++ (wz_k194_X7_valueOf ++ (wz_k228_X2_bringToLevel ++ ([] : List Cond)))))))
theorem zg_k256_X0_laySecondQuery : ∀ w ∈ wz_k256_X0_laySecondQuery, goodWord w = true := zg_cons rfl (zg_app (by decide +kernel) (zg_app zgU_wsX00 (zg_app zgU_wsX20 (zg_app zg_k257_X4_copyQuery (zg_app zg_k194_X7_valueOf (zg_app zg_k228_X2_bringToLevel zg_nil))))))
theorem zi_k256_X0_laySecondQuery : ∀ w ∈ wz_k256_X0_laySecondQuery, w ∈ lw_tbl := zi_cons zw_1092 (zi_app (zi_cons zw_376 (zi_cons zw_380 (zi_cons zw_338 (zi_cons zw_984 (zi_cons zw_985 (zi_cons zw_986 (zi_cons zw_108 (zi_cons zw_378 (zi_cons zw_933 (zi_cons zw_786 (zi_cons zw_787 (zi_cons zw_107 (zi_cons zw_948 (zi_cons zw_949 (zi_cons zw_950 (zi_cons zw_112 zi_nil)))))))))))))))) (zi_app inX0 (zi_app inX2 (zi_app zi_k257_X4_copyQuery (zi_app zi_k194_X7_valueOf (zi_app zi_k228_X2_bringToLevel zi_nil))))))
set_option maxHeartbeats 4000000 in
set_option maxRecDepth 100000 in
theorem k256_X0_laySecondQuery (l : Launch) (D : va_G) (zt : Nat × Nat × Nat × (Nat → Nat) × (Nat → Nat)) (q : Nat → Nat) (d : Nat → ClassId) (I : Nat → Int32) (A : Nat → Nat → Int32) (z1 : Int32) (hIv : IvX I A) : GM l D zt (tyX d) yX0_laySecondQuery wz_k256_X0_laySecondQuery ({ frames := 4, cells := 0, slots := 0, locals := 87 } : Room) [.ref (q 37), .int z1] (wX q d I A) (fun v _ w' => ∃ (I' : Nat → Int32) (A' : Nat → Nat → Int32), Md [] I I' ∧ Md [22] A A' ∧ IvX I' A' ∧ v = none ∧ w' = wX q d I' A') 0 0 := by
  refine GM.of (cc := cX0_laySecondQuery) (maxL := 2) (ret := none) (own := RX0) (lv := [(0, .ref (q 37)), (1, .int z1)]) (by decide) rfl rfl (Nat.le_of_ble_eq_true rfl) rfl (fun κ sz hk hR hN => ?_)
  have hin0 : ∀ w ∈ u_ws RX0 TX0 5, w ∈ wz_k256_X0_laySecondQuery := fun w h => (List.mem_cons_of_mem _ (List.mem_append_right _ (List.mem_append_left _ h)))
  have hin2 : ∀ w ∈ u_ws RX2 TX2 10, w ∈ wz_k256_X0_laySecondQuery := fun w h => (List.mem_cons_of_mem _ (List.mem_append_right _ (List.mem_append_right _ (List.mem_append_left _ h))))
  refine g_aload_n hk dX0_laySecondQuery_0 rfl ?_
  refine gX_r37_1 hk hin0 (List.mem_cons_of_mem _ (List.mem_append_left _ (List.mem_of_getElem? (i := 0) rfl))) dX0_laySecondQuery_1 ?_
  refine g_iload_n hk dX0_laySecondQuery_4 rfl ?_
  refine g_aload_n hk dX0_laySecondQuery_5 rfl ?_
  refine gX_r37_3 hk hin0 (List.mem_cons_of_mem _ (List.mem_append_left _ (List.mem_of_getElem? (i := 1) rfl))) dX0_laySecondQuery_6 ?_
  refine gX_r38_1 hk hin2 (List.mem_cons_of_mem _ (List.mem_append_left _ (List.mem_of_getElem? (i := 2) rfl))) dX0_laySecondQuery_9 ?_
  refine g_callV (n := 2) hk (k257_X4_copyQuery l D zt q d I A z1 hIv) (SP.same _) (fun _ h => h) (gi_V (List.mem_cons_of_mem _ (List.mem_append_left _ (List.mem_of_getElem? (i := 3) rfl))) (List.mem_cons_of_mem _ (List.mem_append_left _ (List.mem_of_getElem? (i := 4) rfl))) (List.mem_cons_of_mem _ (List.mem_append_left _ (List.mem_of_getElem? (i := 5) rfl))) (List.mem_cons_of_mem _ (List.mem_append_left _ (List.mem_of_getElem? (i := 6) rfl))) (gi_sub (fun w h => (List.mem_cons_of_mem _ (List.mem_append_right _ (List.mem_append_right _ (List.mem_append_right _ (List.mem_append_left _ h)))))) zg_k257_X4_copyQuery)) rfl rfl rfl (by decide +kernel) ⟨Nat.le_of_ble_eq_true rfl, Nat.le_of_ble_eq_true rfl⟩ 15 rfl rfl rfl rfl (Nat.le_of_ble_eq_true rfl) ⟨Nat.le_of_ble_eq_true rfl, Nat.le_of_ble_eq_true rfl⟩ dX0_laySecondQuery_12 (fun v ty' w' hp hk' => ?_)
  obtain ⟨I4849, A4849, hI4849, hA4849, hV4849, rfl, rfl⟩ := hp
  show GW κ 2 0 0 (wX q d I4849 A4849) 15 [(0, .ref (q 37)), (1, .int z1)] []
  refine g_aload_n hk dX0_laySecondQuery_15 rfl ?_
  refine gX_r37_3 hk hin0 (List.mem_cons_of_mem _ (List.mem_append_left _ (List.mem_of_getElem? (i := 1) rfl))) dX0_laySecondQuery_16 ?_
  refine g_aload_n hk dX0_laySecondQuery_19 rfl ?_
  refine gX_r37_3 hk hin0 (List.mem_cons_of_mem _ (List.mem_append_left _ (List.mem_of_getElem? (i := 1) rfl))) dX0_laySecondQuery_20 ?_
  refine gX_r38_1 hk hin2 (List.mem_cons_of_mem _ (List.mem_append_left _ (List.mem_of_getElem? (i := 2) rfl))) dX0_laySecondQuery_23 ?_
  refine g_aload_n hk dX0_laySecondQuery_26 rfl ?_
  refine gX_r37_2 hk hin0 (List.mem_cons_of_mem _ (List.mem_append_left _ (List.mem_of_getElem? (i := 7) rfl))) dX0_laySecondQuery_27 ?_
  refine g_iconst (v := 1) hk dX0_laySecondQuery_30 (by decide) ?_
  have k4850 : (1 : Int32).toInt = 1 := rfl
  refine g_callV (n := 1) hk (k194_X7_valueOf l D zt q d I4849 A4849 1 hV4849) (SP.same _) (fun _ h => h) (gi_V (List.mem_cons_of_mem _ (List.mem_append_left _ (List.mem_of_getElem? (i := 8) rfl))) (List.mem_cons_of_mem _ (List.mem_append_left _ (List.mem_of_getElem? (i := 9) rfl))) (List.mem_cons_of_mem _ (List.mem_append_left _ (List.mem_of_getElem? (i := 10) rfl))) (List.mem_cons_of_mem _ (List.mem_append_left _ (List.mem_of_getElem? (i := 11) rfl))) (gi_sub (fun w h => (List.mem_cons_of_mem _ (List.mem_append_right _ (List.mem_append_right _ (List.mem_append_right _ (List.mem_append_right _ (List.mem_append_left _ h))))))) zg_k194_X7_valueOf)) rfl rfl rfl (by decide +kernel) ⟨Nat.le_of_ble_eq_true rfl, Nat.le_of_ble_eq_true rfl⟩ 18 rfl rfl rfl rfl (Nat.le_of_ble_eq_true rfl) ⟨Nat.le_of_ble_eq_true rfl, Nat.le_of_ble_eq_true rfl⟩ dX0_laySecondQuery_31 (fun v ty' w' hp hk' => ?_)
  obtain ⟨y4851, rfl, rfl⟩ := hp
  show GW κ 2 0 0 (wX q d I4849 A4849) 34 [(0, .ref (q 37)), (1, .int z1)] [.int y4851, .ref (q 40), .ref (q 38)]
  refine g_callV (n := 2) hk (k228_X2_bringToLevel l D zt q d I4849 A4849 y4851 hV4849) (SP.same _) (fun _ h => h) (gi_V (List.mem_cons_of_mem _ (List.mem_append_left _ (List.mem_of_getElem? (i := 12) rfl))) (List.mem_cons_of_mem _ (List.mem_append_left _ (List.mem_of_getElem? (i := 13) rfl))) (List.mem_cons_of_mem _ (List.mem_append_left _ (List.mem_of_getElem? (i := 14) rfl))) (List.mem_cons_of_mem _ (List.mem_append_left _ (List.mem_of_getElem? (i := 15) rfl))) (gi_sub (fun w h => (List.mem_cons_of_mem _ (List.mem_append_right _ (List.mem_append_right _ (List.mem_append_right _ (List.mem_append_right _ (List.mem_append_right _ (List.mem_append_left _ h)))))))) zg_k228_X2_bringToLevel)) rfl rfl rfl (by decide +kernel) ⟨Nat.le_of_ble_eq_true rfl, Nat.le_of_ble_eq_true rfl⟩ 38 rfl rfl rfl rfl (Nat.le_of_ble_eq_true rfl) ⟨Nat.le_of_ble_eq_true rfl, Nat.le_of_ble_eq_true rfl⟩ dX0_laySecondQuery_34 (fun v ty' w' hp hk' => ?_)
  obtain ⟨I4853, A4853, hI4853, hA4853, hV4853, rfl, rfl⟩ := hp
  show GW κ 2 0 0 (wX q d I4853 A4853) 37 [(0, .ref (q 37)), (1, .int z1)] []
  exact g_vret hk hR ⟨I4853, A4853, (show Md [] I I4853 from (Md.tr (Md.tr Md.rf hI4849 rfl) hI4853 rfl)), (show Md [22] A A4853 from (Md.tr (Md.tr Md.rf hA4849 rfl) hA4853 rfl)), hV4853, rfl, rfl⟩ dX0_laySecondQuery_37
def wo_k255_X11_alike : List Cond := [Cond.fieldLink RX11 35 "WarpDesk" "queries" "LWarpDesk$Queries;", Cond.methodLink RX11 251 yX4_has, Cond.instanceMethod yX4_has, Cond.selects RX4 yX4_has yX4_has, Cond.initialized RX4, Cond.methodLink RX11 254 yX4_lengthOf, Cond.instanceMethod yX4_lengthOf, Cond.selects RX4 yX4_lengthOf yX4_lengthOf, Cond.fieldLink RX11 65 "WarpDesk" "bench" "LWarpDesk$Bench;", Cond.fieldLink RX11 42 "WarpDesk" "settings" "LWarpDesk$Settings;", Cond.methodLink RX11 154 yX7_valueOf, Cond.instanceMethod yX7_valueOf, Cond.selects RX7 yX7_valueOf yX7_valueOf, Cond.initialized RX7, Cond.methodLink RX11 257 yX0_openQuery, Cond.instanceMethod yX0_openQuery, Cond.selects RX0 yX0_openQuery yX0_openQuery, Cond.initialized RX0, Cond.methodLink RX11 260 yX0_laySecondQuery, Cond.instanceMethod yX0_laySecondQuery, Cond.selects RX0 yX0_laySecondQuery yX0_laySecondQuery, Cond.fieldLink RX11 202 "WarpDesk$Bench" "fit" "LWarpDesk$Fit;", Cond.methodLink RX11 215 yX2_wholeDistance, Cond.instanceMethod yX2_wholeDistance, Cond.selects RX2 yX2_wholeDistance yX2_wholeDistance, Cond.initialized RX2]
def wz_k255_X11_alike : List Cond := .code yX11_alike cX11_alike 3 (some .int) :: (wo_k255_X11_alike ++ (wsX00 ++ (wsX110 ++ (wz_k168_X4_has ++ (wz_k182_X4_lengthOf ++ (wz_k194_X7_valueOf ++ (wz_k224_X0_openQuery ++ (wz_k256_X0_laySecondQuery ++ (wz_k232_X2_wholeDistance ++ ([] : List Cond))))))))))
theorem zg_k255_X11_alike : ∀ w ∈ wz_k255_X11_alike, goodWord w = true := zg_cons rfl (zg_app (by decide +kernel) (zg_app zgU_wsX00 (zg_app zgU_wsX110 (zg_app zg_k168_X4_has (zg_app zg_k182_X4_lengthOf (zg_app zg_k194_X7_valueOf (zg_app zg_k224_X0_openQuery (zg_app zg_k256_X0_laySecondQuery (zg_app zg_k232_X2_wholeDistance zg_nil)))))))))
theorem zi_k255_X11_alike : ∀ w ∈ wz_k255_X11_alike, w ∈ lw_tbl := zi_cons zw_1085 (zi_app (zi_cons zw_490 (zi_cons zw_1086 (zi_cons zw_747 (zi_cons zw_748 (zi_cons zw_108 (zi_cons zw_1087 (zi_cons zw_757 (zi_cons zw_758 (zi_cons zw_494 (zi_cons zw_491 (zi_cons zw_863 (zi_cons zw_786 (zi_cons zw_787 (zi_cons zw_107 (zi_cons zw_1088 (zi_cons zw_981 (zi_cons zw_982 (zi_cons zw_111 (zi_cons zw_1089 (zi_cons zw_1090 (zi_cons zw_1091 (zi_cons zw_383 (zi_cons zw_992 (zi_cons zw_993 (zi_cons zw_994 (zi_cons zw_112 zi_nil)))))))))))))))))))))))))) (zi_app inX0 (zi_app inX11 (zi_app zi_k168_X4_has (zi_app zi_k182_X4_lengthOf (zi_app zi_k194_X7_valueOf (zi_app zi_k224_X0_openQuery (zi_app zi_k256_X0_laySecondQuery (zi_app zi_k232_X2_wholeDistance zi_nil)))))))))
set_option maxHeartbeats 4000000 in
set_option maxRecDepth 100000 in
theorem k255_X11_alike (l : Launch) (D : va_G) (zt : Nat × Nat × Nat × (Nat → Nat) × (Nat → Nat)) (q : Nat → Nat) (d : Nat → ClassId) (I : Nat → Int32) (A : Nat → Nat → Int32) (z1 : Int32) (z2 : Int32) (hIv : IvX I A) : GM l D zt (tyX d) yX11_alike wz_k255_X11_alike ({ frames := 5, cells := 0, slots := 0, locals := 109 } : Room) [.ref (q 0), .int z1, .int z2] (wX q d I A) (fun v _ w' => ∃ (I' : Nat → Int32) (A' : Nat → Nat → Int32), Md [28, 30, 31, 32, 33, 34] I I' ∧ Md [21, 22, 23] A A' ∧ IvX I' A' ∧ ∃ y0 : Int32, v = some (.int y0) ∧ w' = wX q d I' A') 0 0 := by
  refine GM.of (cc := cX11_alike) (maxL := 3) (ret := (some .int)) (own := RX11) (lv := [(0, .ref (q 0)), (1, .int z1), (2, .int z2)]) (by decide) rfl rfl (Nat.le_of_ble_eq_true rfl) rfl (fun κ sz hk hR hN => ?_)
  have hin0 : ∀ w ∈ u_ws RX0 TX0 5, w ∈ wz_k255_X11_alike := fun w h => (List.mem_cons_of_mem _ (List.mem_append_right _ (List.mem_append_left _ h)))
  have hin11 : ∀ w ∈ u_ws RX11 TX11 10, w ∈ wz_k255_X11_alike := fun w h => (List.mem_cons_of_mem _ (List.mem_append_right _ (List.mem_append_right _ (List.mem_append_left _ h))))
  refine g_aload_n hk dX11_alike_0 rfl ?_
  refine gX_r0_3 hk hin11 (List.mem_cons_of_mem _ (List.mem_append_left _ (List.mem_of_getElem? (i := 0) rfl))) dX11_alike_1 ?_
  refine g_iload_n hk dX11_alike_4 rfl ?_
  refine g_callV (n := 1) hk (k168_X4_has l D zt q d I A z1 hIv) (SP.same _) (fun _ h => h) (gi_V (List.mem_cons_of_mem _ (List.mem_append_left _ (List.mem_of_getElem? (i := 1) rfl))) (List.mem_cons_of_mem _ (List.mem_append_left _ (List.mem_of_getElem? (i := 2) rfl))) (List.mem_cons_of_mem _ (List.mem_append_left _ (List.mem_of_getElem? (i := 3) rfl))) (List.mem_cons_of_mem _ (List.mem_append_left _ (List.mem_of_getElem? (i := 4) rfl))) (gi_sub (fun w h => (List.mem_cons_of_mem _ (List.mem_append_right _ (List.mem_append_right _ (List.mem_append_right _ (List.mem_append_left _ h)))))) zg_k168_X4_has)) rfl rfl rfl (by decide +kernel) ⟨Nat.le_of_ble_eq_true rfl, Nat.le_of_ble_eq_true rfl⟩ 15 rfl rfl rfl rfl (Nat.le_of_ble_eq_true rfl) ⟨Nat.le_of_ble_eq_true rfl, Nat.le_of_ble_eq_true rfl⟩ dX11_alike_5 (fun v ty' w' hp hk' => ?_)
  rcases hp with ⟨rfl, rfl⟩ | ⟨c4733, c4734, c4735, c4736, rfl, rfl⟩
  · skip
    show GW κ 3 0 0 (wX q d I A) 8 [(0, .ref (q 0)), (1, .int z1), (2, .int z2)] [.int 0]
    refine g_if_eq (tgt := 22) (a := 0) hk dX11_alike_8 (by decide) rfl (fun _ => ?_) (fun z9 => absurd (show (0 : Int) = (0 : Int) from by decide) z9)
    refine g_iconst (v := (-1)) hk dX11_alike_22 (by decide) ?_
    exact g_iret hk hR rfl ⟨I, A, (show Md [28, 30, 31, 32, 33, 34] I I from Md.rf), (show Md [21, 22, 23] A A from Md.rf), hIv, (-1), rfl, rfl⟩ dX11_alike_23
  · skip
    show GW κ 3 0 0 (wX q d I A) 8 [(0, .ref (q 0)), (1, .int z1), (2, .int z2)] [.int 1]
    refine g_if_eq (tgt := 22) (a := 1) hk dX11_alike_8 (by decide) rfl (fun z9 => absurd z9 (show ¬ ((1 : Int) = (0 : Int)) from by decide)) (fun _ => ?_)
    refine g_aload_n hk dX11_alike_11 rfl ?_
    refine gX_r0_3 hk hin11 (List.mem_cons_of_mem _ (List.mem_append_left _ (List.mem_of_getElem? (i := 0) rfl))) dX11_alike_12 ?_
    refine g_iload_n hk dX11_alike_15 rfl ?_
    refine g_callV (n := 1) hk (k168_X4_has l D zt q d I A z2 hIv) (SP.same _) (fun _ h => h) (gi_V (List.mem_cons_of_mem _ (List.mem_append_left _ (List.mem_of_getElem? (i := 1) rfl))) (List.mem_cons_of_mem _ (List.mem_append_left _ (List.mem_of_getElem? (i := 2) rfl))) (List.mem_cons_of_mem _ (List.mem_append_left _ (List.mem_of_getElem? (i := 3) rfl))) (List.mem_cons_of_mem _ (List.mem_append_left _ (List.mem_of_getElem? (i := 4) rfl))) (gi_sub (fun w h => (List.mem_cons_of_mem _ (List.mem_append_right _ (List.mem_append_right _ (List.mem_append_right _ (List.mem_append_left _ h)))))) zg_k168_X4_has)) rfl rfl rfl (by decide +kernel) ⟨Nat.le_of_ble_eq_true rfl, Nat.le_of_ble_eq_true rfl⟩ 15 rfl rfl rfl rfl (Nat.le_of_ble_eq_true rfl) ⟨Nat.le_of_ble_eq_true rfl, Nat.le_of_ble_eq_true rfl⟩ dX11_alike_16 (fun v ty' w' hp hk' => ?_)
    rcases hp with ⟨rfl, rfl⟩ | ⟨c4739, c4740, c4741, c4742, rfl, rfl⟩
    · skip
      show GW κ 3 0 0 (wX q d I A) 19 [(0, .ref (q 0)), (1, .int z1), (2, .int z2)] [.int 0]
      refine g_if_ne (tgt := 24) (a := 0) hk dX11_alike_19 (by decide) rfl (fun z9 => absurd z9 (show ¬ ((0 : Int) ≠ (0 : Int)) from by decide)) (fun _ => ?_)
      refine g_iconst (v := (-1)) hk dX11_alike_22 (by decide) ?_
      exact g_iret hk hR rfl ⟨I, A, (show Md [28, 30, 31, 32, 33, 34] I I from Md.rf), (show Md [21, 22, 23] A A from Md.rf), hIv, (-1), rfl, rfl⟩ dX11_alike_23
    · skip
      show GW κ 3 0 0 (wX q d I A) 19 [(0, .ref (q 0)), (1, .int z1), (2, .int z2)] [.int 1]
      refine g_if_ne (tgt := 24) (a := 1) hk dX11_alike_19 (by decide) rfl (fun _ => ?_) (fun z9 => absurd (show (1 : Int) ≠ (0 : Int) from by decide) z9)
      refine g_aload_n hk dX11_alike_24 rfl ?_
      refine gX_r0_3 hk hin11 (List.mem_cons_of_mem _ (List.mem_append_left _ (List.mem_of_getElem? (i := 0) rfl))) dX11_alike_25 ?_
      refine g_iload_n hk dX11_alike_28 rfl ?_
      refine g_callV (n := 1) hk (k182_X4_lengthOf l D zt q d I A z1 hIv) (SP.same _) (fun _ h => h) (gi_V (List.mem_cons_of_mem _ (List.mem_append_left _ (List.mem_of_getElem? (i := 5) rfl))) (List.mem_cons_of_mem _ (List.mem_append_left _ (List.mem_of_getElem? (i := 6) rfl))) (List.mem_cons_of_mem _ (List.mem_append_left _ (List.mem_of_getElem? (i := 7) rfl))) (List.mem_cons_of_mem _ (List.mem_append_left _ (List.mem_of_getElem? (i := 4) rfl))) (gi_sub (fun w h => (List.mem_cons_of_mem _ (List.mem_append_right _ (List.mem_append_right _ (List.mem_append_right _ (List.mem_append_right _ (List.mem_append_left _ h))))))) zg_k182_X4_lengthOf)) rfl rfl rfl (by decide +kernel) ⟨Nat.le_of_ble_eq_true rfl, Nat.le_of_ble_eq_true rfl⟩ 15 rfl rfl rfl rfl (Nat.le_of_ble_eq_true rfl) ⟨Nat.le_of_ble_eq_true rfl, Nat.le_of_ble_eq_true rfl⟩ dX11_alike_29 (fun v ty' w' hp hk' => ?_)
      rcases hp with ⟨rfl, rfl⟩ | ⟨y4751, c4745, c4746, c4747, c4748, c4749, c4750, c4752, c4753, rfl, rfl⟩
      · skip
        show GW κ 3 0 0 (wX q d I A) 32 [(0, .ref (q 0)), (1, .int z1), (2, .int z2)] [.int 0]
        refine g_aload_n hk dX11_alike_32 rfl ?_
        refine gX_r0_3 hk hin11 (List.mem_cons_of_mem _ (List.mem_append_left _ (List.mem_of_getElem? (i := 0) rfl))) dX11_alike_33 ?_
        refine g_iload_n hk dX11_alike_36 rfl ?_
        refine g_callV (n := 1) hk (k182_X4_lengthOf l D zt q d I A z2 hIv) (SP.same _) (fun _ h => h) (gi_V (List.mem_cons_of_mem _ (List.mem_append_left _ (List.mem_of_getElem? (i := 5) rfl))) (List.mem_cons_of_mem _ (List.mem_append_left _ (List.mem_of_getElem? (i := 6) rfl))) (List.mem_cons_of_mem _ (List.mem_append_left _ (List.mem_of_getElem? (i := 7) rfl))) (List.mem_cons_of_mem _ (List.mem_append_left _ (List.mem_of_getElem? (i := 4) rfl))) (gi_sub (fun w h => (List.mem_cons_of_mem _ (List.mem_append_right _ (List.mem_append_right _ (List.mem_append_right _ (List.mem_append_right _ (List.mem_append_left _ h))))))) zg_k182_X4_lengthOf)) rfl rfl rfl (by decide +kernel) ⟨Nat.le_of_ble_eq_true rfl, Nat.le_of_ble_eq_true rfl⟩ 15 rfl rfl rfl rfl (Nat.le_of_ble_eq_true rfl) ⟨Nat.le_of_ble_eq_true rfl, Nat.le_of_ble_eq_true rfl⟩ dX11_alike_37 (fun v ty' w' hp hk' => ?_)
        rcases hp with ⟨rfl, rfl⟩ | ⟨y4761, c4755, c4756, c4757, c4758, c4759, c4760, c4762, c4763, rfl, rfl⟩
        · skip
          show GW κ 3 0 0 (wX q d I A) 40 [(0, .ref (q 0)), (1, .int z1), (2, .int z2)] [.int 0, .int 0]
          refine g_icmp_eq (tgt := 46) (a := 0) (b := 0) hk dX11_alike_40 (by decide) rfl rfl (fun _ => ?_) (fun z9 => absurd (show (0 : Int) = (0 : Int) from by decide) z9)
          refine g_aload_n hk dX11_alike_46 rfl ?_
          refine gX_r0_7 hk hin11 (List.mem_cons_of_mem _ (List.mem_append_left _ (List.mem_of_getElem? (i := 8) rfl))) dX11_alike_47 ?_
          refine g_iload_n hk dX11_alike_50 rfl ?_
          refine g_aload_n hk dX11_alike_51 rfl ?_
          refine gX_r0_4 hk hin11 (List.mem_cons_of_mem _ (List.mem_append_left _ (List.mem_of_getElem? (i := 9) rfl))) dX11_alike_52 ?_
          refine g_iconst (v := 0) hk dX11_alike_55 (by decide) ?_
          have k4764 : (0 : Int32).toInt = 0 := rfl
          refine g_callV (n := 1) hk (k194_X7_valueOf l D zt q d I A 0 hIv) (SP.same _) (fun _ h => h) (gi_V (List.mem_cons_of_mem _ (List.mem_append_left _ (List.mem_of_getElem? (i := 10) rfl))) (List.mem_cons_of_mem _ (List.mem_append_left _ (List.mem_of_getElem? (i := 11) rfl))) (List.mem_cons_of_mem _ (List.mem_append_left _ (List.mem_of_getElem? (i := 12) rfl))) (List.mem_cons_of_mem _ (List.mem_append_left _ (List.mem_of_getElem? (i := 13) rfl))) (gi_sub (fun w h => (List.mem_cons_of_mem _ (List.mem_append_right _ (List.mem_append_right _ (List.mem_append_right _ (List.mem_append_right _ (List.mem_append_right _ (List.mem_append_left _ h)))))))) zg_k194_X7_valueOf)) rfl rfl rfl (by decide +kernel) ⟨Nat.le_of_ble_eq_true rfl, Nat.le_of_ble_eq_true rfl⟩ 18 rfl rfl rfl rfl (Nat.le_of_ble_eq_true rfl) ⟨Nat.le_of_ble_eq_true rfl, Nat.le_of_ble_eq_true rfl⟩ dX11_alike_56 (fun v ty' w' hp hk' => ?_)
          obtain ⟨y4765, rfl, rfl⟩ := hp
          show GW κ 3 0 0 (wX q d I A) 59 [(0, .ref (q 0)), (1, .int z1), (2, .int z2)] [.int y4765, .int z1, .ref (q 37)]
          refine g_callV (n := 2) hk (k224_X0_openQuery l D zt q d I A z1 y4765 hIv) (SP.same _) (fun _ h => h) (gi_V (List.mem_cons_of_mem _ (List.mem_append_left _ (List.mem_of_getElem? (i := 14) rfl))) (List.mem_cons_of_mem _ (List.mem_append_left _ (List.mem_of_getElem? (i := 15) rfl))) (List.mem_cons_of_mem _ (List.mem_append_left _ (List.mem_of_getElem? (i := 16) rfl))) (List.mem_cons_of_mem _ (List.mem_append_left _ (List.mem_of_getElem? (i := 17) rfl))) (gi_sub (fun w h => (List.mem_cons_of_mem _ (List.mem_append_right _ (List.mem_append_right _ (List.mem_append_right _ (List.mem_append_right _ (List.mem_append_right _ (List.mem_append_right _ (List.mem_append_left _ h))))))))) zg_k224_X0_openQuery)) rfl rfl rfl (by decide +kernel) ⟨Nat.le_of_ble_eq_true rfl, Nat.le_of_ble_eq_true rfl⟩ 37 rfl rfl rfl rfl (Nat.le_of_ble_eq_true rfl) ⟨Nat.le_of_ble_eq_true rfl, Nat.le_of_ble_eq_true rfl⟩ dX11_alike_59 (fun v ty' w' hp hk' => ?_)
          obtain ⟨I4767, A4767, hI4767, hA4767, hV4767, rfl, rfl⟩ := hp
          show GW κ 3 0 0 (wX q d I4767 A4767) 62 [(0, .ref (q 0)), (1, .int z1), (2, .int z2)] []
          refine g_aload_n hk dX11_alike_62 rfl ?_
          refine gX_r0_7 hk hin11 (List.mem_cons_of_mem _ (List.mem_append_left _ (List.mem_of_getElem? (i := 8) rfl))) dX11_alike_63 ?_
          refine g_iload_n hk dX11_alike_66 rfl ?_
          refine g_callV (n := 1) hk (k256_X0_laySecondQuery l D zt q d I4767 A4767 z2 hV4767) (SP.same _) (fun _ h => h) (gi_V (List.mem_cons_of_mem _ (List.mem_append_left _ (List.mem_of_getElem? (i := 18) rfl))) (List.mem_cons_of_mem _ (List.mem_append_left _ (List.mem_of_getElem? (i := 19) rfl))) (List.mem_cons_of_mem _ (List.mem_append_left _ (List.mem_of_getElem? (i := 20) rfl))) (List.mem_cons_of_mem _ (List.mem_append_left _ (List.mem_of_getElem? (i := 17) rfl))) (gi_sub (fun w h => (List.mem_cons_of_mem _ (List.mem_append_right _ (List.mem_append_right _ (List.mem_append_right _ (List.mem_append_right _ (List.mem_append_right _ (List.mem_append_right _ (List.mem_append_right _ (List.mem_append_left _ h)))))))))) zg_k256_X0_laySecondQuery)) rfl rfl rfl (by decide +kernel) ⟨Nat.le_of_ble_eq_true rfl, Nat.le_of_ble_eq_true rfl⟩ 37 rfl rfl rfl rfl (Nat.le_of_ble_eq_true rfl) ⟨Nat.le_of_ble_eq_true rfl, Nat.le_of_ble_eq_true rfl⟩ dX11_alike_67 (fun v ty' w' hp hk' => ?_)
          obtain ⟨I4855, A4855, hI4855, hA4855, hV4855, rfl, rfl⟩ := hp
          show GW κ 3 0 0 (wX q d I4855 A4855) 70 [(0, .ref (q 0)), (1, .int z1), (2, .int z2)] []
          refine g_aload_n hk dX11_alike_70 rfl ?_
          refine gX_r0_7 hk hin11 (List.mem_cons_of_mem _ (List.mem_append_left _ (List.mem_of_getElem? (i := 8) rfl))) dX11_alike_71 ?_
          refine gX_r37_3 hk hin0 (List.mem_cons_of_mem _ (List.mem_append_left _ (List.mem_of_getElem? (i := 21) rfl))) dX11_alike_74 ?_
          refine g_callV (n := 0) hk (k232_X2_wholeDistance l D zt q d I4855 A4855  hV4855) (SP.same _) (fun _ h => h) (gi_V (List.mem_cons_of_mem _ (List.mem_append_left _ (List.mem_of_getElem? (i := 22) rfl))) (List.mem_cons_of_mem _ (List.mem_append_left _ (List.mem_of_getElem? (i := 23) rfl))) (List.mem_cons_of_mem _ (List.mem_append_left _ (List.mem_of_getElem? (i := 24) rfl))) (List.mem_cons_of_mem _ (List.mem_append_left _ (List.mem_of_getElem? (i := 25) rfl))) (gi_sub (fun w h => (List.mem_cons_of_mem _ (List.mem_append_right _ (List.mem_append_right _ (List.mem_append_right _ (List.mem_append_right _ (List.mem_append_right _ (List.mem_append_right _ (List.mem_append_right _ (List.mem_append_right _ (List.mem_append_left _ h))))))))))) zg_k232_X2_wholeDistance)) rfl rfl rfl (by decide +kernel) ⟨Nat.le_of_ble_eq_true rfl, Nat.le_of_ble_eq_true rfl⟩ 38 rfl rfl rfl rfl (Nat.le_of_ble_eq_true rfl) ⟨Nat.le_of_ble_eq_true rfl, Nat.le_of_ble_eq_true rfl⟩ dX11_alike_77 (fun v ty' w' hp hk' => ?_)
          obtain ⟨I4857, A4857, hI4857, hA4857, hV4857, y4856, rfl, rfl⟩ := hp
          show GW κ 3 0 0 (wX q d I4857 A4857) 80 [(0, .ref (q 0)), (1, .int z1), (2, .int z2)] [.int y4856]
          have b4858l := Int32.le_toInt y4856
          have b4858h := Int32.toInt_lt y4856
          exact g_iret hk hR rfl ⟨I4857, A4857, (show Md [28, 30, 31, 32, 33, 34] I I4857 from (Md.tr (Md.tr (Md.tr Md.rf hI4767 rfl) hI4855 rfl) hI4857 rfl)), (show Md [21, 22, 23] A A4857 from (Md.tr (Md.tr (Md.tr Md.rf hA4767 rfl) hA4855 rfl) hA4857 rfl)), hV4857, y4856, rfl, rfl⟩ dX11_alike_80
        · skip
          show GW κ 3 0 0 (wX q d I A) 40 [(0, .ref (q 0)), (1, .int z1), (2, .int z2)] [.int y4761, .int 0]
          refine g_icmp_eq (tgt := 46) (a := 0) (b := y4761.toInt) hk dX11_alike_40 (by decide) rfl rfl (fun c4859 => ?_) (fun c4859 => ?_)
          · skip
            refine g_aload_n hk dX11_alike_46 rfl ?_
            refine gX_r0_7 hk hin11 (List.mem_cons_of_mem _ (List.mem_append_left _ (List.mem_of_getElem? (i := 8) rfl))) dX11_alike_47 ?_
            refine g_iload_n hk dX11_alike_50 rfl ?_
            refine g_aload_n hk dX11_alike_51 rfl ?_
            refine gX_r0_4 hk hin11 (List.mem_cons_of_mem _ (List.mem_append_left _ (List.mem_of_getElem? (i := 9) rfl))) dX11_alike_52 ?_
            refine g_iconst (v := 0) hk dX11_alike_55 (by decide) ?_
            have k4860 : (0 : Int32).toInt = 0 := rfl
            refine g_callV (n := 1) hk (k194_X7_valueOf l D zt q d I A 0 hIv) (SP.same _) (fun _ h => h) (gi_V (List.mem_cons_of_mem _ (List.mem_append_left _ (List.mem_of_getElem? (i := 10) rfl))) (List.mem_cons_of_mem _ (List.mem_append_left _ (List.mem_of_getElem? (i := 11) rfl))) (List.mem_cons_of_mem _ (List.mem_append_left _ (List.mem_of_getElem? (i := 12) rfl))) (List.mem_cons_of_mem _ (List.mem_append_left _ (List.mem_of_getElem? (i := 13) rfl))) (gi_sub (fun w h => (List.mem_cons_of_mem _ (List.mem_append_right _ (List.mem_append_right _ (List.mem_append_right _ (List.mem_append_right _ (List.mem_append_right _ (List.mem_append_left _ h)))))))) zg_k194_X7_valueOf)) rfl rfl rfl (by decide +kernel) ⟨Nat.le_of_ble_eq_true rfl, Nat.le_of_ble_eq_true rfl⟩ 18 rfl rfl rfl rfl (Nat.le_of_ble_eq_true rfl) ⟨Nat.le_of_ble_eq_true rfl, Nat.le_of_ble_eq_true rfl⟩ dX11_alike_56 (fun v ty' w' hp hk' => ?_)
            obtain ⟨y4861, rfl, rfl⟩ := hp
            show GW κ 3 0 0 (wX q d I A) 59 [(0, .ref (q 0)), (1, .int z1), (2, .int z2)] [.int y4861, .int z1, .ref (q 37)]
            refine g_callV (n := 2) hk (k224_X0_openQuery l D zt q d I A z1 y4861 hIv) (SP.same _) (fun _ h => h) (gi_V (List.mem_cons_of_mem _ (List.mem_append_left _ (List.mem_of_getElem? (i := 14) rfl))) (List.mem_cons_of_mem _ (List.mem_append_left _ (List.mem_of_getElem? (i := 15) rfl))) (List.mem_cons_of_mem _ (List.mem_append_left _ (List.mem_of_getElem? (i := 16) rfl))) (List.mem_cons_of_mem _ (List.mem_append_left _ (List.mem_of_getElem? (i := 17) rfl))) (gi_sub (fun w h => (List.mem_cons_of_mem _ (List.mem_append_right _ (List.mem_append_right _ (List.mem_append_right _ (List.mem_append_right _ (List.mem_append_right _ (List.mem_append_right _ (List.mem_append_left _ h))))))))) zg_k224_X0_openQuery)) rfl rfl rfl (by decide +kernel) ⟨Nat.le_of_ble_eq_true rfl, Nat.le_of_ble_eq_true rfl⟩ 37 rfl rfl rfl rfl (Nat.le_of_ble_eq_true rfl) ⟨Nat.le_of_ble_eq_true rfl, Nat.le_of_ble_eq_true rfl⟩ dX11_alike_59 (fun v ty' w' hp hk' => ?_)
            obtain ⟨I4863, A4863, hI4863, hA4863, hV4863, rfl, rfl⟩ := hp
            show GW κ 3 0 0 (wX q d I4863 A4863) 62 [(0, .ref (q 0)), (1, .int z1), (2, .int z2)] []
            refine g_aload_n hk dX11_alike_62 rfl ?_
            refine gX_r0_7 hk hin11 (List.mem_cons_of_mem _ (List.mem_append_left _ (List.mem_of_getElem? (i := 8) rfl))) dX11_alike_63 ?_
            refine g_iload_n hk dX11_alike_66 rfl ?_
            refine g_callV (n := 1) hk (k256_X0_laySecondQuery l D zt q d I4863 A4863 z2 hV4863) (SP.same _) (fun _ h => h) (gi_V (List.mem_cons_of_mem _ (List.mem_append_left _ (List.mem_of_getElem? (i := 18) rfl))) (List.mem_cons_of_mem _ (List.mem_append_left _ (List.mem_of_getElem? (i := 19) rfl))) (List.mem_cons_of_mem _ (List.mem_append_left _ (List.mem_of_getElem? (i := 20) rfl))) (List.mem_cons_of_mem _ (List.mem_append_left _ (List.mem_of_getElem? (i := 17) rfl))) (gi_sub (fun w h => (List.mem_cons_of_mem _ (List.mem_append_right _ (List.mem_append_right _ (List.mem_append_right _ (List.mem_append_right _ (List.mem_append_right _ (List.mem_append_right _ (List.mem_append_right _ (List.mem_append_left _ h)))))))))) zg_k256_X0_laySecondQuery)) rfl rfl rfl (by decide +kernel) ⟨Nat.le_of_ble_eq_true rfl, Nat.le_of_ble_eq_true rfl⟩ 37 rfl rfl rfl rfl (Nat.le_of_ble_eq_true rfl) ⟨Nat.le_of_ble_eq_true rfl, Nat.le_of_ble_eq_true rfl⟩ dX11_alike_67 (fun v ty' w' hp hk' => ?_)
            obtain ⟨I4865, A4865, hI4865, hA4865, hV4865, rfl, rfl⟩ := hp
            show GW κ 3 0 0 (wX q d I4865 A4865) 70 [(0, .ref (q 0)), (1, .int z1), (2, .int z2)] []
            refine g_aload_n hk dX11_alike_70 rfl ?_
            refine gX_r0_7 hk hin11 (List.mem_cons_of_mem _ (List.mem_append_left _ (List.mem_of_getElem? (i := 8) rfl))) dX11_alike_71 ?_
            refine gX_r37_3 hk hin0 (List.mem_cons_of_mem _ (List.mem_append_left _ (List.mem_of_getElem? (i := 21) rfl))) dX11_alike_74 ?_
            refine g_callV (n := 0) hk (k232_X2_wholeDistance l D zt q d I4865 A4865  hV4865) (SP.same _) (fun _ h => h) (gi_V (List.mem_cons_of_mem _ (List.mem_append_left _ (List.mem_of_getElem? (i := 22) rfl))) (List.mem_cons_of_mem _ (List.mem_append_left _ (List.mem_of_getElem? (i := 23) rfl))) (List.mem_cons_of_mem _ (List.mem_append_left _ (List.mem_of_getElem? (i := 24) rfl))) (List.mem_cons_of_mem _ (List.mem_append_left _ (List.mem_of_getElem? (i := 25) rfl))) (gi_sub (fun w h => (List.mem_cons_of_mem _ (List.mem_append_right _ (List.mem_append_right _ (List.mem_append_right _ (List.mem_append_right _ (List.mem_append_right _ (List.mem_append_right _ (List.mem_append_right _ (List.mem_append_right _ (List.mem_append_left _ h))))))))))) zg_k232_X2_wholeDistance)) rfl rfl rfl (by decide +kernel) ⟨Nat.le_of_ble_eq_true rfl, Nat.le_of_ble_eq_true rfl⟩ 38 rfl rfl rfl rfl (Nat.le_of_ble_eq_true rfl) ⟨Nat.le_of_ble_eq_true rfl, Nat.le_of_ble_eq_true rfl⟩ dX11_alike_77 (fun v ty' w' hp hk' => ?_)
            obtain ⟨I4867, A4867, hI4867, hA4867, hV4867, y4866, rfl, rfl⟩ := hp
            show GW κ 3 0 0 (wX q d I4867 A4867) 80 [(0, .ref (q 0)), (1, .int z1), (2, .int z2)] [.int y4866]
            have b4868l := Int32.le_toInt y4866
            have b4868h := Int32.toInt_lt y4866
            exact g_iret hk hR rfl ⟨I4867, A4867, (show Md [28, 30, 31, 32, 33, 34] I I4867 from (Md.tr (Md.tr (Md.tr Md.rf hI4863 rfl) hI4865 rfl) hI4867 rfl)), (show Md [21, 22, 23] A A4867 from (Md.tr (Md.tr (Md.tr Md.rf hA4863 rfl) hA4865 rfl) hA4867 rfl)), hV4867, y4866, rfl, rfl⟩ dX11_alike_80
          · skip
            refine g_bipush (v := (-2)) hk dX11_alike_43 (by decide) ?_
            exact g_iret hk hR rfl ⟨I, A, (show Md [28, 30, 31, 32, 33, 34] I I from Md.rf), (show Md [21, 22, 23] A A from Md.rf), hIv, (-2), rfl, rfl⟩ dX11_alike_45
      · skip
        show GW κ 3 0 0 (wX q d I A) 32 [(0, .ref (q 0)), (1, .int z1), (2, .int z2)] [.int y4751]
        refine g_aload_n hk dX11_alike_32 rfl ?_
        refine gX_r0_3 hk hin11 (List.mem_cons_of_mem _ (List.mem_append_left _ (List.mem_of_getElem? (i := 0) rfl))) dX11_alike_33 ?_
        refine g_iload_n hk dX11_alike_36 rfl ?_
        refine g_callV (n := 1) hk (k182_X4_lengthOf l D zt q d I A z2 hIv) (SP.same _) (fun _ h => h) (gi_V (List.mem_cons_of_mem _ (List.mem_append_left _ (List.mem_of_getElem? (i := 5) rfl))) (List.mem_cons_of_mem _ (List.mem_append_left _ (List.mem_of_getElem? (i := 6) rfl))) (List.mem_cons_of_mem _ (List.mem_append_left _ (List.mem_of_getElem? (i := 7) rfl))) (List.mem_cons_of_mem _ (List.mem_append_left _ (List.mem_of_getElem? (i := 4) rfl))) (gi_sub (fun w h => (List.mem_cons_of_mem _ (List.mem_append_right _ (List.mem_append_right _ (List.mem_append_right _ (List.mem_append_right _ (List.mem_append_left _ h))))))) zg_k182_X4_lengthOf)) rfl rfl rfl (by decide +kernel) ⟨Nat.le_of_ble_eq_true rfl, Nat.le_of_ble_eq_true rfl⟩ 15 rfl rfl rfl rfl (Nat.le_of_ble_eq_true rfl) ⟨Nat.le_of_ble_eq_true rfl, Nat.le_of_ble_eq_true rfl⟩ dX11_alike_37 (fun v ty' w' hp hk' => ?_)
        rcases hp with ⟨rfl, rfl⟩ | ⟨y4876, c4870, c4871, c4872, c4873, c4874, c4875, c4877, c4878, rfl, rfl⟩
        · skip
          show GW κ 3 0 0 (wX q d I A) 40 [(0, .ref (q 0)), (1, .int z1), (2, .int z2)] [.int 0, .int y4751]
          refine g_icmp_eq (tgt := 46) (a := y4751.toInt) (b := 0) hk dX11_alike_40 (by decide) rfl rfl (fun c4879 => ?_) (fun c4879 => ?_)
          · skip
            refine g_aload_n hk dX11_alike_46 rfl ?_
            refine gX_r0_7 hk hin11 (List.mem_cons_of_mem _ (List.mem_append_left _ (List.mem_of_getElem? (i := 8) rfl))) dX11_alike_47 ?_
            refine g_iload_n hk dX11_alike_50 rfl ?_
            refine g_aload_n hk dX11_alike_51 rfl ?_
            refine gX_r0_4 hk hin11 (List.mem_cons_of_mem _ (List.mem_append_left _ (List.mem_of_getElem? (i := 9) rfl))) dX11_alike_52 ?_
            refine g_iconst (v := 0) hk dX11_alike_55 (by decide) ?_
            have k4880 : (0 : Int32).toInt = 0 := rfl
            refine g_callV (n := 1) hk (k194_X7_valueOf l D zt q d I A 0 hIv) (SP.same _) (fun _ h => h) (gi_V (List.mem_cons_of_mem _ (List.mem_append_left _ (List.mem_of_getElem? (i := 10) rfl))) (List.mem_cons_of_mem _ (List.mem_append_left _ (List.mem_of_getElem? (i := 11) rfl))) (List.mem_cons_of_mem _ (List.mem_append_left _ (List.mem_of_getElem? (i := 12) rfl))) (List.mem_cons_of_mem _ (List.mem_append_left _ (List.mem_of_getElem? (i := 13) rfl))) (gi_sub (fun w h => (List.mem_cons_of_mem _ (List.mem_append_right _ (List.mem_append_right _ (List.mem_append_right _ (List.mem_append_right _ (List.mem_append_right _ (List.mem_append_left _ h)))))))) zg_k194_X7_valueOf)) rfl rfl rfl (by decide +kernel) ⟨Nat.le_of_ble_eq_true rfl, Nat.le_of_ble_eq_true rfl⟩ 18 rfl rfl rfl rfl (Nat.le_of_ble_eq_true rfl) ⟨Nat.le_of_ble_eq_true rfl, Nat.le_of_ble_eq_true rfl⟩ dX11_alike_56 (fun v ty' w' hp hk' => ?_)
            obtain ⟨y4881, rfl, rfl⟩ := hp
            show GW κ 3 0 0 (wX q d I A) 59 [(0, .ref (q 0)), (1, .int z1), (2, .int z2)] [.int y4881, .int z1, .ref (q 37)]
            refine g_callV (n := 2) hk (k224_X0_openQuery l D zt q d I A z1 y4881 hIv) (SP.same _) (fun _ h => h) (gi_V (List.mem_cons_of_mem _ (List.mem_append_left _ (List.mem_of_getElem? (i := 14) rfl))) (List.mem_cons_of_mem _ (List.mem_append_left _ (List.mem_of_getElem? (i := 15) rfl))) (List.mem_cons_of_mem _ (List.mem_append_left _ (List.mem_of_getElem? (i := 16) rfl))) (List.mem_cons_of_mem _ (List.mem_append_left _ (List.mem_of_getElem? (i := 17) rfl))) (gi_sub (fun w h => (List.mem_cons_of_mem _ (List.mem_append_right _ (List.mem_append_right _ (List.mem_append_right _ (List.mem_append_right _ (List.mem_append_right _ (List.mem_append_right _ (List.mem_append_left _ h))))))))) zg_k224_X0_openQuery)) rfl rfl rfl (by decide +kernel) ⟨Nat.le_of_ble_eq_true rfl, Nat.le_of_ble_eq_true rfl⟩ 37 rfl rfl rfl rfl (Nat.le_of_ble_eq_true rfl) ⟨Nat.le_of_ble_eq_true rfl, Nat.le_of_ble_eq_true rfl⟩ dX11_alike_59 (fun v ty' w' hp hk' => ?_)
            obtain ⟨I4883, A4883, hI4883, hA4883, hV4883, rfl, rfl⟩ := hp
            show GW κ 3 0 0 (wX q d I4883 A4883) 62 [(0, .ref (q 0)), (1, .int z1), (2, .int z2)] []
            refine g_aload_n hk dX11_alike_62 rfl ?_
            refine gX_r0_7 hk hin11 (List.mem_cons_of_mem _ (List.mem_append_left _ (List.mem_of_getElem? (i := 8) rfl))) dX11_alike_63 ?_
            refine g_iload_n hk dX11_alike_66 rfl ?_
            refine g_callV (n := 1) hk (k256_X0_laySecondQuery l D zt q d I4883 A4883 z2 hV4883) (SP.same _) (fun _ h => h) (gi_V (List.mem_cons_of_mem _ (List.mem_append_left _ (List.mem_of_getElem? (i := 18) rfl))) (List.mem_cons_of_mem _ (List.mem_append_left _ (List.mem_of_getElem? (i := 19) rfl))) (List.mem_cons_of_mem _ (List.mem_append_left _ (List.mem_of_getElem? (i := 20) rfl))) (List.mem_cons_of_mem _ (List.mem_append_left _ (List.mem_of_getElem? (i := 17) rfl))) (gi_sub (fun w h => (List.mem_cons_of_mem _ (List.mem_append_right _ (List.mem_append_right _ (List.mem_append_right _ (List.mem_append_right _ (List.mem_append_right _ (List.mem_append_right _ (List.mem_append_right _ (List.mem_append_left _ h)))))))))) zg_k256_X0_laySecondQuery)) rfl rfl rfl (by decide +kernel) ⟨Nat.le_of_ble_eq_true rfl, Nat.le_of_ble_eq_true rfl⟩ 37 rfl rfl rfl rfl (Nat.le_of_ble_eq_true rfl) ⟨Nat.le_of_ble_eq_true rfl, Nat.le_of_ble_eq_true rfl⟩ dX11_alike_67 (fun v ty' w' hp hk' => ?_)
            obtain ⟨I4885, A4885, hI4885, hA4885, hV4885, rfl, rfl⟩ := hp
            show GW κ 3 0 0 (wX q d I4885 A4885) 70 [(0, .ref (q 0)), (1, .int z1), (2, .int z2)] []
            refine g_aload_n hk dX11_alike_70 rfl ?_
            refine gX_r0_7 hk hin11 (List.mem_cons_of_mem _ (List.mem_append_left _ (List.mem_of_getElem? (i := 8) rfl))) dX11_alike_71 ?_
            refine gX_r37_3 hk hin0 (List.mem_cons_of_mem _ (List.mem_append_left _ (List.mem_of_getElem? (i := 21) rfl))) dX11_alike_74 ?_
            refine g_callV (n := 0) hk (k232_X2_wholeDistance l D zt q d I4885 A4885  hV4885) (SP.same _) (fun _ h => h) (gi_V (List.mem_cons_of_mem _ (List.mem_append_left _ (List.mem_of_getElem? (i := 22) rfl))) (List.mem_cons_of_mem _ (List.mem_append_left _ (List.mem_of_getElem? (i := 23) rfl))) (List.mem_cons_of_mem _ (List.mem_append_left _ (List.mem_of_getElem? (i := 24) rfl))) (List.mem_cons_of_mem _ (List.mem_append_left _ (List.mem_of_getElem? (i := 25) rfl))) (gi_sub (fun w h => (List.mem_cons_of_mem _ (List.mem_append_right _ (List.mem_append_right _ (List.mem_append_right _ (List.mem_append_right _ (List.mem_append_right _ (List.mem_append_right _ (List.mem_append_right _ (List.mem_append_right _ (List.mem_append_left _ h))))))))))) zg_k232_X2_wholeDistance)) rfl rfl rfl (by decide +kernel) ⟨Nat.le_of_ble_eq_true rfl, Nat.le_of_ble_eq_true rfl⟩ 38 rfl rfl rfl rfl (Nat.le_of_ble_eq_true rfl) ⟨Nat.le_of_ble_eq_true rfl, Nat.le_of_ble_eq_true rfl⟩ dX11_alike_77 (fun v ty' w' hp hk' => ?_)
            obtain ⟨I4887, A4887, hI4887, hA4887, hV4887, y4886, rfl, rfl⟩ := hp
            show GW κ 3 0 0 (wX q d I4887 A4887) 80 [(0, .ref (q 0)), (1, .int z1), (2, .int z2)] [.int y4886]
            have b4888l := Int32.le_toInt y4886
            have b4888h := Int32.toInt_lt y4886
            exact g_iret hk hR rfl ⟨I4887, A4887, (show Md [28, 30, 31, 32, 33, 34] I I4887 from (Md.tr (Md.tr (Md.tr Md.rf hI4883 rfl) hI4885 rfl) hI4887 rfl)), (show Md [21, 22, 23] A A4887 from (Md.tr (Md.tr (Md.tr Md.rf hA4883 rfl) hA4885 rfl) hA4887 rfl)), hV4887, y4886, rfl, rfl⟩ dX11_alike_80
          · skip
            refine g_bipush (v := (-2)) hk dX11_alike_43 (by decide) ?_
            exact g_iret hk hR rfl ⟨I, A, (show Md [28, 30, 31, 32, 33, 34] I I from Md.rf), (show Md [21, 22, 23] A A from Md.rf), hIv, (-2), rfl, rfl⟩ dX11_alike_45
        · skip
          show GW κ 3 0 0 (wX q d I A) 40 [(0, .ref (q 0)), (1, .int z1), (2, .int z2)] [.int y4876, .int y4751]
          refine g_icmp_eq (tgt := 46) (a := y4751.toInt) (b := y4876.toInt) hk dX11_alike_40 (by decide) rfl rfl (fun c4889 => ?_) (fun c4889 => ?_)
          · skip
            refine g_aload_n hk dX11_alike_46 rfl ?_
            refine gX_r0_7 hk hin11 (List.mem_cons_of_mem _ (List.mem_append_left _ (List.mem_of_getElem? (i := 8) rfl))) dX11_alike_47 ?_
            refine g_iload_n hk dX11_alike_50 rfl ?_
            refine g_aload_n hk dX11_alike_51 rfl ?_
            refine gX_r0_4 hk hin11 (List.mem_cons_of_mem _ (List.mem_append_left _ (List.mem_of_getElem? (i := 9) rfl))) dX11_alike_52 ?_
            refine g_iconst (v := 0) hk dX11_alike_55 (by decide) ?_
            have k4890 : (0 : Int32).toInt = 0 := rfl
            refine g_callV (n := 1) hk (k194_X7_valueOf l D zt q d I A 0 hIv) (SP.same _) (fun _ h => h) (gi_V (List.mem_cons_of_mem _ (List.mem_append_left _ (List.mem_of_getElem? (i := 10) rfl))) (List.mem_cons_of_mem _ (List.mem_append_left _ (List.mem_of_getElem? (i := 11) rfl))) (List.mem_cons_of_mem _ (List.mem_append_left _ (List.mem_of_getElem? (i := 12) rfl))) (List.mem_cons_of_mem _ (List.mem_append_left _ (List.mem_of_getElem? (i := 13) rfl))) (gi_sub (fun w h => (List.mem_cons_of_mem _ (List.mem_append_right _ (List.mem_append_right _ (List.mem_append_right _ (List.mem_append_right _ (List.mem_append_right _ (List.mem_append_left _ h)))))))) zg_k194_X7_valueOf)) rfl rfl rfl (by decide +kernel) ⟨Nat.le_of_ble_eq_true rfl, Nat.le_of_ble_eq_true rfl⟩ 18 rfl rfl rfl rfl (Nat.le_of_ble_eq_true rfl) ⟨Nat.le_of_ble_eq_true rfl, Nat.le_of_ble_eq_true rfl⟩ dX11_alike_56 (fun v ty' w' hp hk' => ?_)
            obtain ⟨y4891, rfl, rfl⟩ := hp
            show GW κ 3 0 0 (wX q d I A) 59 [(0, .ref (q 0)), (1, .int z1), (2, .int z2)] [.int y4891, .int z1, .ref (q 37)]
            refine g_callV (n := 2) hk (k224_X0_openQuery l D zt q d I A z1 y4891 hIv) (SP.same _) (fun _ h => h) (gi_V (List.mem_cons_of_mem _ (List.mem_append_left _ (List.mem_of_getElem? (i := 14) rfl))) (List.mem_cons_of_mem _ (List.mem_append_left _ (List.mem_of_getElem? (i := 15) rfl))) (List.mem_cons_of_mem _ (List.mem_append_left _ (List.mem_of_getElem? (i := 16) rfl))) (List.mem_cons_of_mem _ (List.mem_append_left _ (List.mem_of_getElem? (i := 17) rfl))) (gi_sub (fun w h => (List.mem_cons_of_mem _ (List.mem_append_right _ (List.mem_append_right _ (List.mem_append_right _ (List.mem_append_right _ (List.mem_append_right _ (List.mem_append_right _ (List.mem_append_left _ h))))))))) zg_k224_X0_openQuery)) rfl rfl rfl (by decide +kernel) ⟨Nat.le_of_ble_eq_true rfl, Nat.le_of_ble_eq_true rfl⟩ 37 rfl rfl rfl rfl (Nat.le_of_ble_eq_true rfl) ⟨Nat.le_of_ble_eq_true rfl, Nat.le_of_ble_eq_true rfl⟩ dX11_alike_59 (fun v ty' w' hp hk' => ?_)
            obtain ⟨I4893, A4893, hI4893, hA4893, hV4893, rfl, rfl⟩ := hp
            show GW κ 3 0 0 (wX q d I4893 A4893) 62 [(0, .ref (q 0)), (1, .int z1), (2, .int z2)] []
            refine g_aload_n hk dX11_alike_62 rfl ?_
            refine gX_r0_7 hk hin11 (List.mem_cons_of_mem _ (List.mem_append_left _ (List.mem_of_getElem? (i := 8) rfl))) dX11_alike_63 ?_
            refine g_iload_n hk dX11_alike_66 rfl ?_
            refine g_callV (n := 1) hk (k256_X0_laySecondQuery l D zt q d I4893 A4893 z2 hV4893) (SP.same _) (fun _ h => h) (gi_V (List.mem_cons_of_mem _ (List.mem_append_left _ (List.mem_of_getElem? (i := 18) rfl))) (List.mem_cons_of_mem _ (List.mem_append_left _ (List.mem_of_getElem? (i := 19) rfl))) (List.mem_cons_of_mem _ (List.mem_append_left _ (List.mem_of_getElem? (i := 20) rfl))) (List.mem_cons_of_mem _ (List.mem_append_left _ (List.mem_of_getElem? (i := 17) rfl))) (gi_sub (fun w h => (List.mem_cons_of_mem _ (List.mem_append_right _ (List.mem_append_right _ (List.mem_append_right _ (List.mem_append_right _ (List.mem_append_right _ (List.mem_append_right _ (List.mem_append_right _ (List.mem_append_left _ h)))))))))) zg_k256_X0_laySecondQuery)) rfl rfl rfl (by decide +kernel) ⟨Nat.le_of_ble_eq_true rfl, Nat.le_of_ble_eq_true rfl⟩ 37 rfl rfl rfl rfl (Nat.le_of_ble_eq_true rfl) ⟨Nat.le_of_ble_eq_true rfl, Nat.le_of_ble_eq_true rfl⟩ dX11_alike_67 (fun v ty' w' hp hk' => ?_)
            obtain ⟨I4895, A4895, hI4895, hA4895, hV4895, rfl, rfl⟩ := hp
            show GW κ 3 0 0 (wX q d I4895 A4895) 70 [(0, .ref (q 0)), (1, .int z1), (2, .int z2)] []
            refine g_aload_n hk dX11_alike_70 rfl ?_
            refine gX_r0_7 hk hin11 (List.mem_cons_of_mem _ (List.mem_append_left _ (List.mem_of_getElem? (i := 8) rfl))) dX11_alike_71 ?_
            refine gX_r37_3 hk hin0 (List.mem_cons_of_mem _ (List.mem_append_left _ (List.mem_of_getElem? (i := 21) rfl))) dX11_alike_74 ?_
            refine g_callV (n := 0) hk (k232_X2_wholeDistance l D zt q d I4895 A4895  hV4895) (SP.same _) (fun _ h => h) (gi_V (List.mem_cons_of_mem _ (List.mem_append_left _ (List.mem_of_getElem? (i := 22) rfl))) (List.mem_cons_of_mem _ (List.mem_append_left _ (List.mem_of_getElem? (i := 23) rfl))) (List.mem_cons_of_mem _ (List.mem_append_left _ (List.mem_of_getElem? (i := 24) rfl))) (List.mem_cons_of_mem _ (List.mem_append_left _ (List.mem_of_getElem? (i := 25) rfl))) (gi_sub (fun w h => (List.mem_cons_of_mem _ (List.mem_append_right _ (List.mem_append_right _ (List.mem_append_right _ (List.mem_append_right _ (List.mem_append_right _ (List.mem_append_right _ (List.mem_append_right _ (List.mem_append_right _ (List.mem_append_left _ h))))))))))) zg_k232_X2_wholeDistance)) rfl rfl rfl (by decide +kernel) ⟨Nat.le_of_ble_eq_true rfl, Nat.le_of_ble_eq_true rfl⟩ 38 rfl rfl rfl rfl (Nat.le_of_ble_eq_true rfl) ⟨Nat.le_of_ble_eq_true rfl, Nat.le_of_ble_eq_true rfl⟩ dX11_alike_77 (fun v ty' w' hp hk' => ?_)
            obtain ⟨I4897, A4897, hI4897, hA4897, hV4897, y4896, rfl, rfl⟩ := hp
            show GW κ 3 0 0 (wX q d I4897 A4897) 80 [(0, .ref (q 0)), (1, .int z1), (2, .int z2)] [.int y4896]
            have b4898l := Int32.le_toInt y4896
            have b4898h := Int32.toInt_lt y4896
            exact g_iret hk hR rfl ⟨I4897, A4897, (show Md [28, 30, 31, 32, 33, 34] I I4897 from (Md.tr (Md.tr (Md.tr Md.rf hI4893 rfl) hI4895 rfl) hI4897 rfl)), (show Md [21, 22, 23] A A4897 from (Md.tr (Md.tr (Md.tr Md.rf hA4893 rfl) hA4895 rfl) hA4897 rfl)), hV4897, y4896, rfl, rfl⟩ dX11_alike_80
          · skip
            refine g_bipush (v := (-2)) hk dX11_alike_43 (by decide) ?_
            exact g_iret hk hR rfl ⟨I, A, (show Md [28, 30, 31, 32, 33, 34] I I from Md.rf), (show Md [21, 22, 23] A A from Md.rf), hIv, (-2), rfl, rfl⟩ dX11_alike_45
def wo_k259_X1_nearestQuery : List Cond := [Cond.constant RX1 44 (2147483647), Cond.fieldLink RX1 43 "WarpDesk$Finder" "queries" "LWarpDesk$Queries;", Cond.fieldLink RX1 161 "WarpDesk$Queries" "size" "I", Cond.methodLink RX1 65 yX4_lengthOf, Cond.instanceMethod yX4_lengthOf, Cond.selects RX4 yX4_lengthOf yX4_lengthOf, Cond.initialized RX4, Cond.fieldLink RX1 28 "WarpDesk$Finder" "bench" "LWarpDesk$Bench;", Cond.methodLink RX1 162 yX0_openBoth, Cond.instanceMethod yX0_openBoth, Cond.selects RX0 yX0_openBoth yX0_openBoth, Cond.initialized RX0, Cond.fieldLink RX1 78 "WarpDesk$Bench" "fit" "LWarpDesk$Fit;", Cond.methodLink RX1 113 yX2_wholeDistance, Cond.instanceMethod yX2_wholeDistance, Cond.selects RX2 yX2_wholeDistance yX2_wholeDistance, Cond.initialized RX2]
def wz_k259_X1_nearestQuery : List Cond := .code yX1_nearestQuery cX1_nearestQuery 7 (some .int) :: (wo_k259_X1_nearestQuery ++ (wsX00 ++ (wsX10 ++ (wsX40 ++ (wz_k182_X4_lengthOf ++ (wz_k222_X0_openBoth ++ (wz_k232_X2_wholeDistance ++ ([] : List Cond))))))))
theorem zg_k259_X1_nearestQuery : ∀ w ∈ wz_k259_X1_nearestQuery, goodWord w = true := zg_cons rfl (zg_app (by decide +kernel) (zg_app zgU_wsX00 (zg_app zgU_wsX10 (zg_app zgU_wsX40 (zg_app zg_k182_X4_lengthOf (zg_app zg_k222_X0_openBoth (zg_app zg_k232_X2_wholeDistance zg_nil)))))))
theorem zi_k259_X1_nearestQuery : ∀ w ∈ wz_k259_X1_nearestQuery, w ∈ lw_tbl := zi_cons zw_1100 (zi_app (zi_cons zw_1101 (zi_cons zw_404 (zi_cons zw_221 (zi_cons zw_1102 (zi_cons zw_757 (zi_cons zw_758 (zi_cons zw_108 (zi_cons zw_402 (zi_cons zw_1103 (zi_cons zw_970 (zi_cons zw_971 (zi_cons zw_111 (zi_cons zw_382 (zi_cons zw_1104 (zi_cons zw_993 (zi_cons zw_994 (zi_cons zw_112 zi_nil))))))))))))))))) (zi_app inX0 (zi_app inX1 (zi_app inX4 (zi_app zi_k182_X4_lengthOf (zi_app zi_k222_X0_openBoth (zi_app zi_k232_X2_wholeDistance zi_nil)))))))
set_option maxHeartbeats 4000000 in
set_option maxRecDepth 100000 in
theorem k259_X1_nearestQuery (l : Launch) (D : va_G) (zt : Nat × Nat × Nat × (Nat → Nat) × (Nat → Nat)) (q : Nat → Nat) (d : Nat → ClassId) (I : Nat → Int32) (A : Nat → Nat → Int32) (z1 : Int32) (z2 : Int32) (hIv : IvX I A) : GM l D zt (tyX d) yX1_nearestQuery wz_k259_X1_nearestQuery ({ frames := 6, cells := 0, slots := 0, locals := 131 } : Room) [.ref (q 43), .int z1, .int z2] (wX q d I A) (fun v _ w' => ∃ (I' : Nat → Int32) (A' : Nat → Nat → Int32), Md [28, 30, 31, 32, 33, 34] I I' ∧ Md [21, 22, 23] A A' ∧ IvX I' A' ∧ ∃ y0 : Int32, ((-2) ≤ y0.toInt) ∧ (y0.toInt ≤ 2147483646) ∧ v = some (.int y0) ∧ w' = wX q d I' A') 0 0 := by
  refine GM.of (cc := cX1_nearestQuery) (maxL := 7) (ret := (some .int)) (own := RX1) (lv := [(0, .ref (q 43)), (1, .int z1), (2, .int z2)]) (by decide) rfl rfl (Nat.le_of_ble_eq_true rfl) rfl (fun κ sz hk hR hN => ?_)
  have hin0 : ∀ w ∈ u_ws RX0 TX0 5, w ∈ wz_k259_X1_nearestQuery := fun w h => (List.mem_cons_of_mem _ (List.mem_append_right _ (List.mem_append_left _ h)))
  have hin1 : ∀ w ∈ u_ws RX1 TX1 11, w ∈ wz_k259_X1_nearestQuery := fun w h => (List.mem_cons_of_mem _ (List.mem_append_right _ (List.mem_append_right _ (List.mem_append_left _ h))))
  have hin4 : ∀ w ∈ u_ws RX4 TX4 3, w ∈ wz_k259_X1_nearestQuery := fun w h => (List.mem_cons_of_mem _ (List.mem_append_right _ (List.mem_append_right _ (List.mem_append_right _ (List.mem_append_left _ h)))))
  refine g_bipush (v := (-2)) hk dX1_nearestQuery_0 (by decide) ?_
  refine g_istore_n (lv' := [(3, .int (-2)), (0, .ref (q 43)), (1, .int z1), (2, .int z2)]) hk dX1_nearestQuery_2 (by decide) rfl ?_
  refine g_ldc (v := 2147483647) hk (List.mem_cons_of_mem _ (List.mem_append_left _ (List.mem_of_getElem? (i := 0) rfl))) dX1_nearestQuery_3 ?_
  refine g_istore (lv' := [(4, .int 2147483647), (3, .int (-2)), (0, .ref (q 43)), (1, .int z1), (2, .int z2)]) hk dX1_nearestQuery_5 (by decide) rfl ?_
  refine g_iconst (v := 0) hk dX1_nearestQuery_7 (by decide) ?_
  refine g_istore (lv' := [(5, .int 0), (4, .int 2147483647), (3, .int (-2)), (0, .ref (q 43)), (1, .int z1), (2, .int z2)]) hk dX1_nearestQuery_8 (by decide) rfl ?_
  have lp5086 : ∀ (n5087 : Nat) (x4907 : Int32) (x4908 : Int32) (x4909 : Int32) (I4913 : Nat → Int32) (A4913 : Nat → Nat → Int32), (Md [28, 30, 31, 32, 33, 34] I I4913) → (Md [21, 22, 23] A A4913) → (IvX I4913 A4913) → (0 ≤ x4907.toInt) → ((-2) ≤ x4909.toInt) → (x4909.toInt ≤ 2147483646) → ((I 19).toInt + 1 - x4907.toInt < (n5087 : Int)) → (0 < n5087) → GW κ 7 0 0 (wX q d I4913 A4913) 10 [(5, .int x4907), (4, .int x4908), (3, .int x4909), (0, .ref (q 43)), (1, .int z1), (2, .int z2)] [] := by
    intro n5087
    induction n5087 with
    | zero =>
      intro x4907 x4908 x4909 I4913 A4913 hI4913 hA4913 hV4913 h5083 h5084 h5085 m5088 m5088z
      exact absurd m5088z (Nat.lt_irrefl 0)
    | succ n5087 ih5089 =>
      intro x4907 x4908 x4909 I4913 A4913 hI4913 hA4913 hV4913 h5083 h5084 h5085 m5088 m5088z
      refine g_iload hk dX1_nearestQuery_10 rfl ?_
      refine g_aload_n hk dX1_nearestQuery_12 rfl ?_
      refine gX_r43_2 hk hin1 (List.mem_cons_of_mem _ (List.mem_append_left _ (List.mem_of_getElem? (i := 1) rfl))) dX1_nearestQuery_13 ?_
      refine gX_i19 (v := (I 19)) hk hin4 (List.mem_cons_of_mem _ (List.mem_append_left _ (List.mem_of_getElem? (i := 2) rfl))) dX1_nearestQuery_16 (hI4913 19 rfl) ?_
      have b5090l := Int32.le_toInt x4907
      have b5090h := Int32.toInt_lt x4907
      have b5091l := Int32.le_toInt (I 19)
      have b5091h := Int32.toInt_lt (I 19)
      refine g_icmp_ge (tgt := 80) (a := x4907.toInt) (b := (I 19).toInt) hk dX1_nearestQuery_19 (by decide) rfl rfl (fun c5092 => ?_) (fun c5092 => ?_)
      · skip
        refine g_iload_n hk dX1_nearestQuery_80 rfl ?_
        exact g_iret hk hR rfl ⟨I4913, A4913, (show Md [28, 30, 31, 32, 33, 34] I I4913 from (Md.tr Md.rf hI4913 rfl)), (show Md [21, 22, 23] A A4913 from (Md.tr Md.rf hA4913 rfl)), hV4913, x4909, (by omega), (by omega), rfl, rfl⟩ dX1_nearestQuery_81
      · skip
        refine g_aload_n hk dX1_nearestQuery_22 rfl ?_
        refine gX_r43_2 hk hin1 (List.mem_cons_of_mem _ (List.mem_append_left _ (List.mem_of_getElem? (i := 1) rfl))) dX1_nearestQuery_23 ?_
        refine g_iload hk dX1_nearestQuery_26 rfl ?_
        refine g_callV (n := 1) hk (k182_X4_lengthOf l D zt q d I4913 A4913 x4907 hV4913) (SP.same _) (fun _ h => h) (gi_V (List.mem_cons_of_mem _ (List.mem_append_left _ (List.mem_of_getElem? (i := 3) rfl))) (List.mem_cons_of_mem _ (List.mem_append_left _ (List.mem_of_getElem? (i := 4) rfl))) (List.mem_cons_of_mem _ (List.mem_append_left _ (List.mem_of_getElem? (i := 5) rfl))) (List.mem_cons_of_mem _ (List.mem_append_left _ (List.mem_of_getElem? (i := 6) rfl))) (gi_sub (fun w h => (List.mem_cons_of_mem _ (List.mem_append_right _ (List.mem_append_right _ (List.mem_append_right _ (List.mem_append_right _ (List.mem_append_left _ h))))))) zg_k182_X4_lengthOf)) rfl rfl rfl (by decide +kernel) ⟨Nat.le_of_ble_eq_true rfl, Nat.le_of_ble_eq_true rfl⟩ 15 rfl rfl rfl rfl (Nat.le_of_ble_eq_true rfl) ⟨Nat.le_of_ble_eq_true rfl, Nat.le_of_ble_eq_true rfl⟩ dX1_nearestQuery_28 (fun v ty' w' hp hk' => ?_)
        rcases hp with ⟨rfl, rfl⟩ | ⟨y5100, c5094, c5095, c5096, c5097, c5098, c5099, c5101, c5102, rfl, rfl⟩
        · skip
          show GW κ 7 0 0 (wX q d I4913 A4913) 31 [(5, .int x4907), (4, .int x4908), (3, .int x4909), (0, .ref (q 43)), (1, .int z1), (2, .int z2)] [.int 0]
          refine g_iload_n hk dX1_nearestQuery_31 rfl ?_
          have b5103l := Int32.le_toInt z2
          have b5103h := Int32.toInt_lt z2
          refine g_icmp_ne (tgt := 74) (a := 0) (b := z2.toInt) hk dX1_nearestQuery_32 (by decide) rfl rfl (fun c5104 => ?_) (fun c5104 => ?_)
          · skip
            obtain ⟨y5105, ey5105⟩ : ∃ y : Int32, y = x4907 + Int32.ofInt 1 := ⟨_, rfl⟩
            have hy5105 : y5105.toInt = x4907.toInt + 1 := i32_add ey5105 rfl (by decide) (by omega) (by omega)
            refine g_iinc (v := y5105) (lv' := [(5, .int y5105), (4, .int x4908), (3, .int x4909), (0, .ref (q 43)), (1, .int z1), (2, .int z2)]) hk 0 dX1_nearestQuery_74 rfl ey5105.symm (by decide) rfl ?_
            refine g_goto (tgt := 10) hk dX1_nearestQuery_77 (by decide) ?_
            exact g_lv (List.forall_mem_cons.mpr ⟨List.mem_of_getElem? (i := 0) rfl, (List.forall_mem_cons.mpr ⟨List.mem_of_getElem? (i := 1) rfl, (List.forall_mem_cons.mpr ⟨List.mem_of_getElem? (i := 2) rfl, (List.forall_mem_cons.mpr ⟨List.mem_of_getElem? (i := 3) rfl, (List.forall_mem_cons.mpr ⟨List.mem_of_getElem? (i := 4) rfl, (List.forall_mem_cons.mpr ⟨List.mem_of_getElem? (i := 5) rfl, (fun _ h => absurd h List.not_mem_nil)⟩)⟩)⟩)⟩)⟩)⟩) (ih5089 y5105 x4908 x4909 I4913 A4913 (show Md [28, 30, 31, 32, 33, 34] I I4913 from Md.tr hI4913 (show Md [28, 30, 31, 32, 33, 34] I4913 I4913 from Md.rf) rfl) (show Md [21, 22, 23] A A4913 from Md.tr hA4913 (show Md [21, 22, 23] A4913 A4913 from Md.rf) rfl) hV4913 (by omega) (by omega) (by omega) (by omega) (by omega))
          · skip
            refine g_aload_n hk dX1_nearestQuery_35 rfl ?_
            refine gX_r43_0 hk hin1 (List.mem_cons_of_mem _ (List.mem_append_left _ (List.mem_of_getElem? (i := 7) rfl))) dX1_nearestQuery_36 ?_
            refine g_iload hk dX1_nearestQuery_39 rfl ?_
            refine g_iload_n hk dX1_nearestQuery_41 rfl ?_
            refine g_callV (n := 2) hk (k222_X0_openBoth l D zt q d I4913 A4913 x4907 z1 hV4913) (SP.same _) (fun _ h => h) (gi_V (List.mem_cons_of_mem _ (List.mem_append_left _ (List.mem_of_getElem? (i := 8) rfl))) (List.mem_cons_of_mem _ (List.mem_append_left _ (List.mem_of_getElem? (i := 9) rfl))) (List.mem_cons_of_mem _ (List.mem_append_left _ (List.mem_of_getElem? (i := 10) rfl))) (List.mem_cons_of_mem _ (List.mem_append_left _ (List.mem_of_getElem? (i := 11) rfl))) (gi_sub (fun w h => (List.mem_cons_of_mem _ (List.mem_append_right _ (List.mem_append_right _ (List.mem_append_right _ (List.mem_append_right _ (List.mem_append_right _ (List.mem_append_left _ h)))))))) zg_k222_X0_openBoth)) rfl rfl rfl (by decide +kernel) ⟨Nat.le_of_ble_eq_true rfl, Nat.le_of_ble_eq_true rfl⟩ 37 rfl rfl rfl rfl (Nat.le_of_ble_eq_true rfl) ⟨Nat.le_of_ble_eq_true rfl, Nat.le_of_ble_eq_true rfl⟩ dX1_nearestQuery_42 (fun v ty' w' hp hk' => ?_)
            obtain ⟨I5109, A5109, hI5109, hA5109, hV5109, y5106, c5107, c5108, rfl, rfl⟩ := hp
            show GW κ 7 0 0 (wX q d I5109 A5109) 45 [(5, .int x4907), (4, .int x4908), (3, .int x4909), (0, .ref (q 43)), (1, .int z1), (2, .int z2)] [.int y5106]
            refine g_if_eq (tgt := 74) (a := y5106.toInt) hk dX1_nearestQuery_45 (by decide) rfl (fun c5110 => ?_) (fun c5110 => ?_)
            · skip
              obtain ⟨y5111, ey5111⟩ : ∃ y : Int32, y = x4907 + Int32.ofInt 1 := ⟨_, rfl⟩
              have hy5111 : y5111.toInt = x4907.toInt + 1 := i32_add ey5111 rfl (by decide) (by omega) (by omega)
              refine g_iinc (v := y5111) (lv' := [(5, .int y5111), (4, .int x4908), (3, .int x4909), (0, .ref (q 43)), (1, .int z1), (2, .int z2)]) hk 0 dX1_nearestQuery_74 rfl ey5111.symm (by decide) rfl ?_
              refine g_goto (tgt := 10) hk dX1_nearestQuery_77 (by decide) ?_
              exact g_lv (List.forall_mem_cons.mpr ⟨List.mem_of_getElem? (i := 0) rfl, (List.forall_mem_cons.mpr ⟨List.mem_of_getElem? (i := 1) rfl, (List.forall_mem_cons.mpr ⟨List.mem_of_getElem? (i := 2) rfl, (List.forall_mem_cons.mpr ⟨List.mem_of_getElem? (i := 3) rfl, (List.forall_mem_cons.mpr ⟨List.mem_of_getElem? (i := 4) rfl, (List.forall_mem_cons.mpr ⟨List.mem_of_getElem? (i := 5) rfl, (fun _ h => absurd h List.not_mem_nil)⟩)⟩)⟩)⟩)⟩)⟩) (ih5089 y5111 x4908 x4909 I5109 A5109 (show Md [28, 30, 31, 32, 33, 34] I I5109 from Md.tr hI4913 (show Md [28, 30, 31, 32, 33, 34] I4913 I5109 from (Md.tr Md.rf hI5109 rfl)) rfl) (show Md [21, 22, 23] A A5109 from Md.tr hA4913 (show Md [21, 22, 23] A4913 A5109 from (Md.tr Md.rf hA5109 rfl)) rfl) hV5109 (by omega) (by omega) (by omega) (by omega) (by omega))
            · skip
              refine g_aload_n hk dX1_nearestQuery_48 rfl ?_
              refine gX_r43_0 hk hin1 (List.mem_cons_of_mem _ (List.mem_append_left _ (List.mem_of_getElem? (i := 7) rfl))) dX1_nearestQuery_49 ?_
              refine gX_r37_3 hk hin0 (List.mem_cons_of_mem _ (List.mem_append_left _ (List.mem_of_getElem? (i := 12) rfl))) dX1_nearestQuery_52 ?_
              refine g_callV (n := 0) hk (k232_X2_wholeDistance l D zt q d I5109 A5109  hV5109) (SP.same _) (fun _ h => h) (gi_V (List.mem_cons_of_mem _ (List.mem_append_left _ (List.mem_of_getElem? (i := 13) rfl))) (List.mem_cons_of_mem _ (List.mem_append_left _ (List.mem_of_getElem? (i := 14) rfl))) (List.mem_cons_of_mem _ (List.mem_append_left _ (List.mem_of_getElem? (i := 15) rfl))) (List.mem_cons_of_mem _ (List.mem_append_left _ (List.mem_of_getElem? (i := 16) rfl))) (gi_sub (fun w h => (List.mem_cons_of_mem _ (List.mem_append_right _ (List.mem_append_right _ (List.mem_append_right _ (List.mem_append_right _ (List.mem_append_right _ (List.mem_append_right _ (List.mem_append_left _ h))))))))) zg_k232_X2_wholeDistance)) rfl rfl rfl (by decide +kernel) ⟨Nat.le_of_ble_eq_true rfl, Nat.le_of_ble_eq_true rfl⟩ 38 rfl rfl rfl rfl (Nat.le_of_ble_eq_true rfl) ⟨Nat.le_of_ble_eq_true rfl, Nat.le_of_ble_eq_true rfl⟩ dX1_nearestQuery_55 (fun v ty' w' hp hk' => ?_)
              obtain ⟨I5113, A5113, hI5113, hA5113, hV5113, y5112, rfl, rfl⟩ := hp
              show GW κ 7 0 0 (wX q d I5113 A5113) 58 [(5, .int x4907), (4, .int x4908), (3, .int x4909), (0, .ref (q 43)), (1, .int z1), (2, .int z2)] [.int y5112]
              refine g_istore (lv' := [(6, .int y5112), (5, .int x4907), (4, .int x4908), (3, .int x4909), (0, .ref (q 43)), (1, .int z1), (2, .int z2)]) hk dX1_nearestQuery_58 (by decide) rfl ?_
              refine g_iload hk dX1_nearestQuery_60 rfl ?_
              refine g_iload hk dX1_nearestQuery_62 rfl ?_
              have b5114l := Int32.le_toInt y5112
              have b5114h := Int32.toInt_lt y5112
              have b5115l := Int32.le_toInt x4908
              have b5115h := Int32.toInt_lt x4908
              refine g_icmp_ge (tgt := 74) (a := y5112.toInt) (b := x4908.toInt) hk dX1_nearestQuery_64 (by decide) rfl rfl (fun c5116 => ?_) (fun c5116 => ?_)
              · skip
                obtain ⟨y5117, ey5117⟩ : ∃ y : Int32, y = x4907 + Int32.ofInt 1 := ⟨_, rfl⟩
                have hy5117 : y5117.toInt = x4907.toInt + 1 := i32_add ey5117 rfl (by decide) (by omega) (by omega)
                refine g_iinc (v := y5117) (lv' := [(5, .int y5117), (6, .int y5112), (4, .int x4908), (3, .int x4909), (0, .ref (q 43)), (1, .int z1), (2, .int z2)]) hk 1 dX1_nearestQuery_74 rfl ey5117.symm (by decide) rfl ?_
                refine g_goto (tgt := 10) hk dX1_nearestQuery_77 (by decide) ?_
                exact g_lv (List.forall_mem_cons.mpr ⟨List.mem_of_getElem? (i := 0) rfl, (List.forall_mem_cons.mpr ⟨List.mem_of_getElem? (i := 2) rfl, (List.forall_mem_cons.mpr ⟨List.mem_of_getElem? (i := 3) rfl, (List.forall_mem_cons.mpr ⟨List.mem_of_getElem? (i := 4) rfl, (List.forall_mem_cons.mpr ⟨List.mem_of_getElem? (i := 5) rfl, (List.forall_mem_cons.mpr ⟨List.mem_of_getElem? (i := 6) rfl, (fun _ h => absurd h List.not_mem_nil)⟩)⟩)⟩)⟩)⟩)⟩) (ih5089 y5117 x4908 x4909 I5113 A5113 (show Md [28, 30, 31, 32, 33, 34] I I5113 from Md.tr hI4913 (show Md [28, 30, 31, 32, 33, 34] I4913 I5113 from (Md.tr (Md.tr Md.rf hI5109 rfl) hI5113 rfl)) rfl) (show Md [21, 22, 23] A A5113 from Md.tr hA4913 (show Md [21, 22, 23] A4913 A5113 from (Md.tr (Md.tr Md.rf hA5109 rfl) hA5113 rfl)) rfl) hV5113 (by omega) (by omega) (by omega) (by omega) (by omega))
              · skip
                refine g_iload hk dX1_nearestQuery_67 rfl ?_
                refine g_istore (lv' := [(4, .int y5112), (6, .int y5112), (5, .int x4907), (3, .int x4909), (0, .ref (q 43)), (1, .int z1), (2, .int z2)]) hk dX1_nearestQuery_69 (by decide) rfl ?_
                refine g_iload hk dX1_nearestQuery_71 rfl ?_
                refine g_istore_n (lv' := [(3, .int x4907), (4, .int y5112), (6, .int y5112), (5, .int x4907), (0, .ref (q 43)), (1, .int z1), (2, .int z2)]) hk dX1_nearestQuery_73 (by decide) rfl ?_
                obtain ⟨y5118, ey5118⟩ : ∃ y : Int32, y = x4907 + Int32.ofInt 1 := ⟨_, rfl⟩
                have hy5118 : y5118.toInt = x4907.toInt + 1 := i32_add ey5118 rfl (by decide) (by omega) (by omega)
                refine g_iinc (v := y5118) (lv' := [(5, .int y5118), (3, .int x4907), (4, .int y5112), (6, .int y5112), (0, .ref (q 43)), (1, .int z1), (2, .int z2)]) hk 3 dX1_nearestQuery_74 rfl ey5118.symm (by decide) rfl ?_
                refine g_goto (tgt := 10) hk dX1_nearestQuery_77 (by decide) ?_
                exact g_lv (List.forall_mem_cons.mpr ⟨List.mem_of_getElem? (i := 0) rfl, (List.forall_mem_cons.mpr ⟨List.mem_of_getElem? (i := 2) rfl, (List.forall_mem_cons.mpr ⟨List.mem_of_getElem? (i := 1) rfl, (List.forall_mem_cons.mpr ⟨List.mem_of_getElem? (i := 4) rfl, (List.forall_mem_cons.mpr ⟨List.mem_of_getElem? (i := 5) rfl, (List.forall_mem_cons.mpr ⟨List.mem_of_getElem? (i := 6) rfl, (fun _ h => absurd h List.not_mem_nil)⟩)⟩)⟩)⟩)⟩)⟩) (ih5089 y5118 y5112 x4907 I5113 A5113 (show Md [28, 30, 31, 32, 33, 34] I I5113 from Md.tr hI4913 (show Md [28, 30, 31, 32, 33, 34] I4913 I5113 from (Md.tr (Md.tr Md.rf hI5109 rfl) hI5113 rfl)) rfl) (show Md [21, 22, 23] A A5113 from Md.tr hA4913 (show Md [21, 22, 23] A4913 A5113 from (Md.tr (Md.tr Md.rf hA5109 rfl) hA5113 rfl)) rfl) hV5113 (by omega) (by omega) (by omega) (by omega) (by omega))
        · skip
          show GW κ 7 0 0 (wX q d I4913 A4913) 31 [(5, .int x4907), (4, .int x4908), (3, .int x4909), (0, .ref (q 43)), (1, .int z1), (2, .int z2)] [.int y5100]
          refine g_iload_n hk dX1_nearestQuery_31 rfl ?_
          have b5119l := Int32.le_toInt z2
          have b5119h := Int32.toInt_lt z2
          refine g_icmp_ne (tgt := 74) (a := y5100.toInt) (b := z2.toInt) hk dX1_nearestQuery_32 (by decide) rfl rfl (fun c5120 => ?_) (fun c5120 => ?_)
          · skip
            obtain ⟨y5121, ey5121⟩ : ∃ y : Int32, y = x4907 + Int32.ofInt 1 := ⟨_, rfl⟩
            have hy5121 : y5121.toInt = x4907.toInt + 1 := i32_add ey5121 rfl (by decide) (by omega) (by omega)
            refine g_iinc (v := y5121) (lv' := [(5, .int y5121), (4, .int x4908), (3, .int x4909), (0, .ref (q 43)), (1, .int z1), (2, .int z2)]) hk 0 dX1_nearestQuery_74 rfl ey5121.symm (by decide) rfl ?_
            refine g_goto (tgt := 10) hk dX1_nearestQuery_77 (by decide) ?_
            exact g_lv (List.forall_mem_cons.mpr ⟨List.mem_of_getElem? (i := 0) rfl, (List.forall_mem_cons.mpr ⟨List.mem_of_getElem? (i := 1) rfl, (List.forall_mem_cons.mpr ⟨List.mem_of_getElem? (i := 2) rfl, (List.forall_mem_cons.mpr ⟨List.mem_of_getElem? (i := 3) rfl, (List.forall_mem_cons.mpr ⟨List.mem_of_getElem? (i := 4) rfl, (List.forall_mem_cons.mpr ⟨List.mem_of_getElem? (i := 5) rfl, (fun _ h => absurd h List.not_mem_nil)⟩)⟩)⟩)⟩)⟩)⟩) (ih5089 y5121 x4908 x4909 I4913 A4913 (show Md [28, 30, 31, 32, 33, 34] I I4913 from Md.tr hI4913 (show Md [28, 30, 31, 32, 33, 34] I4913 I4913 from Md.rf) rfl) (show Md [21, 22, 23] A A4913 from Md.tr hA4913 (show Md [21, 22, 23] A4913 A4913 from Md.rf) rfl) hV4913 (by omega) (by omega) (by omega) (by omega) (by omega))
          · skip
            refine g_aload_n hk dX1_nearestQuery_35 rfl ?_
            refine gX_r43_0 hk hin1 (List.mem_cons_of_mem _ (List.mem_append_left _ (List.mem_of_getElem? (i := 7) rfl))) dX1_nearestQuery_36 ?_
            refine g_iload hk dX1_nearestQuery_39 rfl ?_
            refine g_iload_n hk dX1_nearestQuery_41 rfl ?_
            refine g_callV (n := 2) hk (k222_X0_openBoth l D zt q d I4913 A4913 x4907 z1 hV4913) (SP.same _) (fun _ h => h) (gi_V (List.mem_cons_of_mem _ (List.mem_append_left _ (List.mem_of_getElem? (i := 8) rfl))) (List.mem_cons_of_mem _ (List.mem_append_left _ (List.mem_of_getElem? (i := 9) rfl))) (List.mem_cons_of_mem _ (List.mem_append_left _ (List.mem_of_getElem? (i := 10) rfl))) (List.mem_cons_of_mem _ (List.mem_append_left _ (List.mem_of_getElem? (i := 11) rfl))) (gi_sub (fun w h => (List.mem_cons_of_mem _ (List.mem_append_right _ (List.mem_append_right _ (List.mem_append_right _ (List.mem_append_right _ (List.mem_append_right _ (List.mem_append_left _ h)))))))) zg_k222_X0_openBoth)) rfl rfl rfl (by decide +kernel) ⟨Nat.le_of_ble_eq_true rfl, Nat.le_of_ble_eq_true rfl⟩ 37 rfl rfl rfl rfl (Nat.le_of_ble_eq_true rfl) ⟨Nat.le_of_ble_eq_true rfl, Nat.le_of_ble_eq_true rfl⟩ dX1_nearestQuery_42 (fun v ty' w' hp hk' => ?_)
            obtain ⟨I5125, A5125, hI5125, hA5125, hV5125, y5122, c5123, c5124, rfl, rfl⟩ := hp
            show GW κ 7 0 0 (wX q d I5125 A5125) 45 [(5, .int x4907), (4, .int x4908), (3, .int x4909), (0, .ref (q 43)), (1, .int z1), (2, .int z2)] [.int y5122]
            refine g_if_eq (tgt := 74) (a := y5122.toInt) hk dX1_nearestQuery_45 (by decide) rfl (fun c5126 => ?_) (fun c5126 => ?_)
            · skip
              obtain ⟨y5127, ey5127⟩ : ∃ y : Int32, y = x4907 + Int32.ofInt 1 := ⟨_, rfl⟩
              have hy5127 : y5127.toInt = x4907.toInt + 1 := i32_add ey5127 rfl (by decide) (by omega) (by omega)
              refine g_iinc (v := y5127) (lv' := [(5, .int y5127), (4, .int x4908), (3, .int x4909), (0, .ref (q 43)), (1, .int z1), (2, .int z2)]) hk 0 dX1_nearestQuery_74 rfl ey5127.symm (by decide) rfl ?_
              refine g_goto (tgt := 10) hk dX1_nearestQuery_77 (by decide) ?_
              exact g_lv (List.forall_mem_cons.mpr ⟨List.mem_of_getElem? (i := 0) rfl, (List.forall_mem_cons.mpr ⟨List.mem_of_getElem? (i := 1) rfl, (List.forall_mem_cons.mpr ⟨List.mem_of_getElem? (i := 2) rfl, (List.forall_mem_cons.mpr ⟨List.mem_of_getElem? (i := 3) rfl, (List.forall_mem_cons.mpr ⟨List.mem_of_getElem? (i := 4) rfl, (List.forall_mem_cons.mpr ⟨List.mem_of_getElem? (i := 5) rfl, (fun _ h => absurd h List.not_mem_nil)⟩)⟩)⟩)⟩)⟩)⟩) (ih5089 y5127 x4908 x4909 I5125 A5125 (show Md [28, 30, 31, 32, 33, 34] I I5125 from Md.tr hI4913 (show Md [28, 30, 31, 32, 33, 34] I4913 I5125 from (Md.tr Md.rf hI5125 rfl)) rfl) (show Md [21, 22, 23] A A5125 from Md.tr hA4913 (show Md [21, 22, 23] A4913 A5125 from (Md.tr Md.rf hA5125 rfl)) rfl) hV5125 (by omega) (by omega) (by omega) (by omega) (by omega))
            · skip
              refine g_aload_n hk dX1_nearestQuery_48 rfl ?_
              refine gX_r43_0 hk hin1 (List.mem_cons_of_mem _ (List.mem_append_left _ (List.mem_of_getElem? (i := 7) rfl))) dX1_nearestQuery_49 ?_
              refine gX_r37_3 hk hin0 (List.mem_cons_of_mem _ (List.mem_append_left _ (List.mem_of_getElem? (i := 12) rfl))) dX1_nearestQuery_52 ?_
              refine g_callV (n := 0) hk (k232_X2_wholeDistance l D zt q d I5125 A5125  hV5125) (SP.same _) (fun _ h => h) (gi_V (List.mem_cons_of_mem _ (List.mem_append_left _ (List.mem_of_getElem? (i := 13) rfl))) (List.mem_cons_of_mem _ (List.mem_append_left _ (List.mem_of_getElem? (i := 14) rfl))) (List.mem_cons_of_mem _ (List.mem_append_left _ (List.mem_of_getElem? (i := 15) rfl))) (List.mem_cons_of_mem _ (List.mem_append_left _ (List.mem_of_getElem? (i := 16) rfl))) (gi_sub (fun w h => (List.mem_cons_of_mem _ (List.mem_append_right _ (List.mem_append_right _ (List.mem_append_right _ (List.mem_append_right _ (List.mem_append_right _ (List.mem_append_right _ (List.mem_append_left _ h))))))))) zg_k232_X2_wholeDistance)) rfl rfl rfl (by decide +kernel) ⟨Nat.le_of_ble_eq_true rfl, Nat.le_of_ble_eq_true rfl⟩ 38 rfl rfl rfl rfl (Nat.le_of_ble_eq_true rfl) ⟨Nat.le_of_ble_eq_true rfl, Nat.le_of_ble_eq_true rfl⟩ dX1_nearestQuery_55 (fun v ty' w' hp hk' => ?_)
              obtain ⟨I5129, A5129, hI5129, hA5129, hV5129, y5128, rfl, rfl⟩ := hp
              show GW κ 7 0 0 (wX q d I5129 A5129) 58 [(5, .int x4907), (4, .int x4908), (3, .int x4909), (0, .ref (q 43)), (1, .int z1), (2, .int z2)] [.int y5128]
              refine g_istore (lv' := [(6, .int y5128), (5, .int x4907), (4, .int x4908), (3, .int x4909), (0, .ref (q 43)), (1, .int z1), (2, .int z2)]) hk dX1_nearestQuery_58 (by decide) rfl ?_
              refine g_iload hk dX1_nearestQuery_60 rfl ?_
              refine g_iload hk dX1_nearestQuery_62 rfl ?_
              have b5130l := Int32.le_toInt y5128
              have b5130h := Int32.toInt_lt y5128
              have b5131l := Int32.le_toInt x4908
              have b5131h := Int32.toInt_lt x4908
              refine g_icmp_ge (tgt := 74) (a := y5128.toInt) (b := x4908.toInt) hk dX1_nearestQuery_64 (by decide) rfl rfl (fun c5132 => ?_) (fun c5132 => ?_)
              · skip
                obtain ⟨y5133, ey5133⟩ : ∃ y : Int32, y = x4907 + Int32.ofInt 1 := ⟨_, rfl⟩
                have hy5133 : y5133.toInt = x4907.toInt + 1 := i32_add ey5133 rfl (by decide) (by omega) (by omega)
                refine g_iinc (v := y5133) (lv' := [(5, .int y5133), (6, .int y5128), (4, .int x4908), (3, .int x4909), (0, .ref (q 43)), (1, .int z1), (2, .int z2)]) hk 1 dX1_nearestQuery_74 rfl ey5133.symm (by decide) rfl ?_
                refine g_goto (tgt := 10) hk dX1_nearestQuery_77 (by decide) ?_
                exact g_lv (List.forall_mem_cons.mpr ⟨List.mem_of_getElem? (i := 0) rfl, (List.forall_mem_cons.mpr ⟨List.mem_of_getElem? (i := 2) rfl, (List.forall_mem_cons.mpr ⟨List.mem_of_getElem? (i := 3) rfl, (List.forall_mem_cons.mpr ⟨List.mem_of_getElem? (i := 4) rfl, (List.forall_mem_cons.mpr ⟨List.mem_of_getElem? (i := 5) rfl, (List.forall_mem_cons.mpr ⟨List.mem_of_getElem? (i := 6) rfl, (fun _ h => absurd h List.not_mem_nil)⟩)⟩)⟩)⟩)⟩)⟩) (ih5089 y5133 x4908 x4909 I5129 A5129 (show Md [28, 30, 31, 32, 33, 34] I I5129 from Md.tr hI4913 (show Md [28, 30, 31, 32, 33, 34] I4913 I5129 from (Md.tr (Md.tr Md.rf hI5125 rfl) hI5129 rfl)) rfl) (show Md [21, 22, 23] A A5129 from Md.tr hA4913 (show Md [21, 22, 23] A4913 A5129 from (Md.tr (Md.tr Md.rf hA5125 rfl) hA5129 rfl)) rfl) hV5129 (by omega) (by omega) (by omega) (by omega) (by omega))
              · skip
                refine g_iload hk dX1_nearestQuery_67 rfl ?_
                refine g_istore (lv' := [(4, .int y5128), (6, .int y5128), (5, .int x4907), (3, .int x4909), (0, .ref (q 43)), (1, .int z1), (2, .int z2)]) hk dX1_nearestQuery_69 (by decide) rfl ?_
                refine g_iload hk dX1_nearestQuery_71 rfl ?_
                refine g_istore_n (lv' := [(3, .int x4907), (4, .int y5128), (6, .int y5128), (5, .int x4907), (0, .ref (q 43)), (1, .int z1), (2, .int z2)]) hk dX1_nearestQuery_73 (by decide) rfl ?_
                obtain ⟨y5134, ey5134⟩ : ∃ y : Int32, y = x4907 + Int32.ofInt 1 := ⟨_, rfl⟩
                have hy5134 : y5134.toInt = x4907.toInt + 1 := i32_add ey5134 rfl (by decide) (by omega) (by omega)
                refine g_iinc (v := y5134) (lv' := [(5, .int y5134), (3, .int x4907), (4, .int y5128), (6, .int y5128), (0, .ref (q 43)), (1, .int z1), (2, .int z2)]) hk 3 dX1_nearestQuery_74 rfl ey5134.symm (by decide) rfl ?_
                refine g_goto (tgt := 10) hk dX1_nearestQuery_77 (by decide) ?_
                exact g_lv (List.forall_mem_cons.mpr ⟨List.mem_of_getElem? (i := 0) rfl, (List.forall_mem_cons.mpr ⟨List.mem_of_getElem? (i := 2) rfl, (List.forall_mem_cons.mpr ⟨List.mem_of_getElem? (i := 1) rfl, (List.forall_mem_cons.mpr ⟨List.mem_of_getElem? (i := 4) rfl, (List.forall_mem_cons.mpr ⟨List.mem_of_getElem? (i := 5) rfl, (List.forall_mem_cons.mpr ⟨List.mem_of_getElem? (i := 6) rfl, (fun _ h => absurd h List.not_mem_nil)⟩)⟩)⟩)⟩)⟩)⟩) (ih5089 y5134 y5128 x4907 I5129 A5129 (show Md [28, 30, 31, 32, 33, 34] I I5129 from Md.tr hI4913 (show Md [28, 30, 31, 32, 33, 34] I4913 I5129 from (Md.tr (Md.tr Md.rf hI5125 rfl) hI5129 rfl)) rfl) (show Md [21, 22, 23] A A5129 from Md.tr hA4913 (show Md [21, 22, 23] A4913 A5129 from (Md.tr (Md.tr Md.rf hA5125 rfl) hA5129 rfl)) rfl) hV5129 (by omega) (by omega) (by omega) (by omega) (by omega))
  have k5136 : (0 : Int32).toInt = 0 := rfl
  have k5137 : (2147483647 : Int32).toInt = 2147483647 := rfl
  have k5138 : ((-2) : Int32).toInt = (-2) := rfl
  obtain ⟨n5135, n5135a, n5135b⟩ : ∃ n : Nat, (I 19).toInt + 1 - 0 < (n : Int) ∧ 0 < n := ⟨(((I 19).toInt + 1 - 0 : Int)).toNat + 1, by omega, by omega⟩
  exact lp5086 n5135 0 2147483647 (-2) I A Md.rf Md.rf hIv (by omega) (by omega) (by omega) n5135a n5135b
def wo_k258_X11_whose : List Cond := [Cond.fieldLink RX11 28 "WarpDesk" "series" "LWarpDesk$Series;", Cond.methodLink RX11 183 yX6_hasWindow, Cond.instanceMethod yX6_hasWindow, Cond.selects RX6 yX6_hasWindow yX6_hasWindow, Cond.initialized RX6, Cond.fieldLink RX11 74 "WarpDesk" "finder" "LWarpDesk$Finder;", Cond.methodLink RX11 263 yX1_nearestQuery, Cond.instanceMethod yX1_nearestQuery, Cond.selects RX1 yX1_nearestQuery yX1_nearestQuery, Cond.initialized RX1]
def wz_k258_X11_whose : List Cond := .code yX11_whose cX11_whose 3 (some .int) :: (wo_k258_X11_whose ++ (wsX110 ++ (wz_k207_X6_hasWindow ++ (wz_k259_X1_nearestQuery ++ ([] : List Cond)))))
theorem zg_k258_X11_whose : ∀ w ∈ wz_k258_X11_whose, goodWord w = true := zg_cons rfl (zg_app (by decide +kernel) (zg_app zgU_wsX110 (zg_app zg_k207_X6_hasWindow (zg_app zg_k259_X1_nearestQuery zg_nil))))
theorem zi_k258_X11_whose : ∀ w ∈ wz_k258_X11_whose, w ∈ lw_tbl := zi_cons zw_1096 (zi_app (zi_cons zw_489 (zi_cons zw_901 (zi_cons zw_902 (zi_cons zw_903 (zi_cons zw_109 (zi_cons zw_495 (zi_cons zw_1097 (zi_cons zw_1098 (zi_cons zw_1099 (zi_cons zw_113 zi_nil)))))))))) (zi_app inX11 (zi_app zi_k207_X6_hasWindow (zi_app zi_k259_X1_nearestQuery zi_nil))))
set_option maxHeartbeats 4000000 in
set_option maxRecDepth 100000 in
theorem k258_X11_whose (l : Launch) (D : va_G) (zt : Nat × Nat × Nat × (Nat → Nat) × (Nat → Nat)) (q : Nat → Nat) (d : Nat → ClassId) (I : Nat → Int32) (A : Nat → Nat → Int32) (z1 : Int32) (z2 : Int32) (hIv : IvX I A) : GM l D zt (tyX d) yX11_whose wz_k258_X11_whose ({ frames := 7, cells := 0, slots := 0, locals := 157 } : Room) [.ref (q 0), .int z1, .int z2] (wX q d I A) (fun v _ w' => ∃ (I' : Nat → Int32) (A' : Nat → Nat → Int32), Md [28, 30, 31, 32, 33, 34] I I' ∧ Md [21, 22, 23] A A' ∧ IvX I' A' ∧ ∃ y0 : Int32, ((-2) ≤ y0.toInt) ∧ (y0.toInt ≤ 2147483646) ∧ v = some (.int y0) ∧ w' = wX q d I' A') 0 0 := by
  refine GM.of (cc := cX11_whose) (maxL := 3) (ret := (some .int)) (own := RX11) (lv := [(0, .ref (q 0)), (1, .int z1), (2, .int z2)]) (by decide) rfl rfl (Nat.le_of_ble_eq_true rfl) rfl (fun κ sz hk hR hN => ?_)
  have hin11 : ∀ w ∈ u_ws RX11 TX11 10, w ∈ wz_k258_X11_whose := fun w h => (List.mem_cons_of_mem _ (List.mem_append_right _ (List.mem_append_left _ h)))
  refine g_aload_n hk dX11_whose_0 rfl ?_
  refine gX_r0_2 hk hin11 (List.mem_cons_of_mem _ (List.mem_append_left _ (List.mem_of_getElem? (i := 0) rfl))) dX11_whose_1 ?_
  refine g_iload_n hk dX11_whose_4 rfl ?_
  refine g_iload_n hk dX11_whose_5 rfl ?_
  refine g_callV (n := 2) hk (k207_X6_hasWindow l D zt q d I A z1 z2 hIv) (SP.same _) (fun _ h => h) (gi_V (List.mem_cons_of_mem _ (List.mem_append_left _ (List.mem_of_getElem? (i := 1) rfl))) (List.mem_cons_of_mem _ (List.mem_append_left _ (List.mem_of_getElem? (i := 2) rfl))) (List.mem_cons_of_mem _ (List.mem_append_left _ (List.mem_of_getElem? (i := 3) rfl))) (List.mem_cons_of_mem _ (List.mem_append_left _ (List.mem_of_getElem? (i := 4) rfl))) (gi_sub (fun w h => (List.mem_cons_of_mem _ (List.mem_append_right _ (List.mem_append_right _ (List.mem_append_left _ h))))) zg_k207_X6_hasWindow)) rfl rfl rfl (by decide +kernel) ⟨Nat.le_of_ble_eq_true rfl, Nat.le_of_ble_eq_true rfl⟩ 13 rfl rfl rfl rfl (Nat.le_of_ble_eq_true rfl) ⟨Nat.le_of_ble_eq_true rfl, Nat.le_of_ble_eq_true rfl⟩ dX11_whose_6 (fun v ty' w' hp hk' => ?_)
  rcases hp with ⟨rfl, rfl⟩ | ⟨c4900, c4901, c4902, c4903, c4904, c4905, rfl, rfl⟩
  · skip
    show GW κ 3 0 0 (wX q d I A) 9 [(0, .ref (q 0)), (1, .int z1), (2, .int z2)] [.int 0]
    refine g_if_eq (tgt := 24) (a := 0) hk dX11_whose_9 (by decide) rfl (fun _ => ?_) (fun z9 => absurd (show (0 : Int) = (0 : Int) from by decide) z9)
    refine g_iconst (v := (-1)) hk dX11_whose_24 (by decide) ?_
    exact g_iret hk hR rfl ⟨I, A, (show Md [28, 30, 31, 32, 33, 34] I I from Md.rf), (show Md [21, 22, 23] A A from Md.rf), hIv, (-1), (by decide), (by decide), rfl, rfl⟩ dX11_whose_25
  · skip
    show GW κ 3 0 0 (wX q d I A) 9 [(0, .ref (q 0)), (1, .int z1), (2, .int z2)] [.int 1]
    refine g_if_eq (tgt := 24) (a := 1) hk dX11_whose_9 (by decide) rfl (fun z9 => absurd z9 (show ¬ ((1 : Int) = (0 : Int)) from by decide)) (fun _ => ?_)
    refine g_aload_n hk dX11_whose_12 rfl ?_
    refine gX_r0_8 hk hin11 (List.mem_cons_of_mem _ (List.mem_append_left _ (List.mem_of_getElem? (i := 5) rfl))) dX11_whose_13 ?_
    refine g_iload_n hk dX11_whose_16 rfl ?_
    refine g_iload_n hk dX11_whose_17 rfl ?_
    refine g_callV (n := 2) hk (k259_X1_nearestQuery l D zt q d I A z1 z2 hIv) (SP.same _) (fun _ h => h) (gi_V (List.mem_cons_of_mem _ (List.mem_append_left _ (List.mem_of_getElem? (i := 6) rfl))) (List.mem_cons_of_mem _ (List.mem_append_left _ (List.mem_of_getElem? (i := 7) rfl))) (List.mem_cons_of_mem _ (List.mem_append_left _ (List.mem_of_getElem? (i := 8) rfl))) (List.mem_cons_of_mem _ (List.mem_append_left _ (List.mem_of_getElem? (i := 9) rfl))) (gi_sub (fun w h => (List.mem_cons_of_mem _ (List.mem_append_right _ (List.mem_append_right _ (List.mem_append_right _ (List.mem_append_left _ h)))))) zg_k259_X1_nearestQuery)) rfl rfl rfl (by decide +kernel) ⟨Nat.le_of_ble_eq_true rfl, Nat.le_of_ble_eq_true rfl⟩ 43 rfl rfl rfl rfl (Nat.le_of_ble_eq_true rfl) ⟨Nat.le_of_ble_eq_true rfl, Nat.le_of_ble_eq_true rfl⟩ dX11_whose_18 (fun v ty' w' hp hk' => ?_)
    obtain ⟨I5142, A5142, hI5142, hA5142, hV5142, y5139, c5140, c5141, rfl, rfl⟩ := hp
    show GW κ 3 0 0 (wX q d I5142 A5142) 21 [(0, .ref (q 0)), (1, .int z1), (2, .int z2)] [.int y5139]
    refine g_goto (tgt := 25) hk dX11_whose_21 (by decide) ?_
    exact g_iret hk hR rfl ⟨I5142, A5142, (show Md [28, 30, 31, 32, 33, 34] I I5142 from (Md.tr Md.rf hI5142 rfl)), (show Md [21, 22, 23] A A5142 from (Md.tr Md.rf hA5142 rfl)), hV5142, y5139, (by omega), (by omega), rfl, rfl⟩ dX11_whose_25
def wo_k261_X1_firedBits : List Cond := [Cond.fieldLink RX1 43 "WarpDesk$Finder" "queries" "LWarpDesk$Queries;", Cond.fieldLink RX1 161 "WarpDesk$Queries" "size" "I", Cond.fieldLink RX1 38 "WarpDesk$Finder" "series" "LWarpDesk$Series;", Cond.fieldLink RX1 59 "WarpDesk$Series" "size" "I", Cond.methodLink RX1 65 yX4_lengthOf, Cond.instanceMethod yX4_lengthOf, Cond.selects RX4 yX4_lengthOf yX4_lengthOf, Cond.initialized RX4, Cond.fieldLink RX1 28 "WarpDesk$Finder" "bench" "LWarpDesk$Bench;", Cond.methodLink RX1 162 yX0_openBoth, Cond.instanceMethod yX0_openBoth, Cond.selects RX0 yX0_openBoth yX0_openBoth, Cond.initialized RX0, Cond.fieldLink RX1 78 "WarpDesk$Bench" "fit" "LWarpDesk$Fit;", Cond.methodLink RX1 113 yX2_wholeDistance, Cond.instanceMethod yX2_wholeDistance, Cond.selects RX2 yX2_wholeDistance yX2_wholeDistance, Cond.initialized RX2]
def wz_k261_X1_firedBits : List Cond := .code yX1_firedBits cX1_firedBits 5 (some .int) :: (wo_k261_X1_firedBits ++ (wsX00 ++ (wsX10 ++ (wsX40 ++ (wsX60 ++ (wz_k182_X4_lengthOf ++ (wz_k222_X0_openBoth ++ (wz_k232_X2_wholeDistance ++ ([] : List Cond)))))))))
theorem zg_k261_X1_firedBits : ∀ w ∈ wz_k261_X1_firedBits, goodWord w = true := zg_cons rfl (zg_app (by decide +kernel) (zg_app zgU_wsX00 (zg_app zgU_wsX10 (zg_app zgU_wsX40 (zg_app zgU_wsX60 (zg_app zg_k182_X4_lengthOf (zg_app zg_k222_X0_openBoth (zg_app zg_k232_X2_wholeDistance zg_nil))))))))
theorem zi_k261_X1_firedBits : ∀ w ∈ wz_k261_X1_firedBits, w ∈ lw_tbl := zi_cons zw_1112 (zi_app (zi_cons zw_404 (zi_cons zw_221 (zi_cons zw_403 (zi_cons zw_283 (zi_cons zw_1102 (zi_cons zw_757 (zi_cons zw_758 (zi_cons zw_108 (zi_cons zw_402 (zi_cons zw_1103 (zi_cons zw_970 (zi_cons zw_971 (zi_cons zw_111 (zi_cons zw_382 (zi_cons zw_1104 (zi_cons zw_993 (zi_cons zw_994 (zi_cons zw_112 zi_nil)))))))))))))))))) (zi_app inX0 (zi_app inX1 (zi_app inX4 (zi_app inX6 (zi_app zi_k182_X4_lengthOf (zi_app zi_k222_X0_openBoth (zi_app zi_k232_X2_wholeDistance zi_nil))))))))
set_option maxHeartbeats 4000000 in
set_option maxRecDepth 100000 in
theorem k261_X1_firedBits (l : Launch) (D : va_G) (zt : Nat × Nat × Nat × (Nat → Nat) × (Nat → Nat)) (q : Nat → Nat) (d : Nat → ClassId) (I : Nat → Int32) (A : Nat → Nat → Int32) (z1 : Int32) (hIv : IvX I A) : GM l D zt (tyX d) yX1_firedBits wz_k261_X1_firedBits ({ frames := 6, cells := 0, slots := 0, locals := 131 } : Room) [.ref (q 43), .int z1] (wX q d I A) (fun v _ w' => ∃ (I' : Nat → Int32) (A' : Nat → Nat → Int32), Md [28, 30, 31, 32, 33, 34] I I' ∧ Md [21, 22, 23] A A' ∧ IvX I' A' ∧ ∃ y0 : Int32, v = some (.int y0) ∧ w' = wX q d I' A') 0 0 := by
  refine GM.of (cc := cX1_firedBits) (maxL := 5) (ret := (some .int)) (own := RX1) (lv := [(0, .ref (q 43)), (1, .int z1)]) (by decide) rfl rfl (Nat.le_of_ble_eq_true rfl) rfl (fun κ sz hk hR hN => ?_)
  have hin0 : ∀ w ∈ u_ws RX0 TX0 5, w ∈ wz_k261_X1_firedBits := fun w h => (List.mem_cons_of_mem _ (List.mem_append_right _ (List.mem_append_left _ h)))
  have hin1 : ∀ w ∈ u_ws RX1 TX1 11, w ∈ wz_k261_X1_firedBits := fun w h => (List.mem_cons_of_mem _ (List.mem_append_right _ (List.mem_append_right _ (List.mem_append_left _ h))))
  have hin4 : ∀ w ∈ u_ws RX4 TX4 3, w ∈ wz_k261_X1_firedBits := fun w h => (List.mem_cons_of_mem _ (List.mem_append_right _ (List.mem_append_right _ (List.mem_append_right _ (List.mem_append_left _ h)))))
  have hin6 : ∀ w ∈ u_ws RX6 TX6 3, w ∈ wz_k261_X1_firedBits := fun w h => (List.mem_cons_of_mem _ (List.mem_append_right _ (List.mem_append_right _ (List.mem_append_right _ (List.mem_append_right _ (List.mem_append_left _ h))))))
  refine g_iconst (v := 0) hk dX1_firedBits_0 (by decide) ?_
  refine g_istore_n (lv' := [(2, .int 0), (0, .ref (q 43)), (1, .int z1)]) hk dX1_firedBits_1 (by decide) rfl ?_
  refine g_iconst (v := 0) hk dX1_firedBits_2 (by decide) ?_
  refine g_istore_n (lv' := [(3, .int 0), (2, .int 0), (0, .ref (q 43)), (1, .int z1)]) hk dX1_firedBits_3 (by decide) rfl ?_
  have lp5282 : ∀ (n5283 : Nat) (x5145 : Int32) (x5146 : Int32) (I5149 : Nat → Int32) (A5149 : Nat → Nat → Int32), (Md [28, 30, 31, 32, 33, 34] I I5149) → (Md [21, 22, 23] A A5149) → (IvX I5149 A5149) → (0 ≤ x5145.toInt) → ((I 19).toInt + 1 - x5145.toInt < (n5283 : Int)) → (0 < n5283) → GW κ 5 0 0 (wX q d I5149 A5149) 4 [(3, .int x5145), (2, .int x5146), (0, .ref (q 43)), (1, .int z1)] [] := by
    intro n5283
    induction n5283 with
    | zero =>
      intro x5145 x5146 I5149 A5149 hI5149 hA5149 hV5149 h5281 m5284 m5284z
      exact absurd m5284z (Nat.lt_irrefl 0)
    | succ n5283 ih5285 =>
      intro x5145 x5146 I5149 A5149 hI5149 hA5149 hV5149 h5281 m5284 m5284z
      refine g_iload_n hk dX1_firedBits_4 rfl ?_
      refine g_aload_n hk dX1_firedBits_5 rfl ?_
      refine gX_r43_2 hk hin1 (List.mem_cons_of_mem _ (List.mem_append_left _ (List.mem_of_getElem? (i := 0) rfl))) dX1_firedBits_6 ?_
      refine gX_i19 (v := (I 19)) hk hin4 (List.mem_cons_of_mem _ (List.mem_append_left _ (List.mem_of_getElem? (i := 1) rfl))) dX1_firedBits_9 (hI5149 19 rfl) ?_
      have b5286l := Int32.le_toInt x5145
      have b5286h := Int32.toInt_lt x5145
      have b5287l := Int32.le_toInt (I 19)
      have b5287h := Int32.toInt_lt (I 19)
      refine g_icmp_ge (tgt := 72) (a := x5145.toInt) (b := (I 19).toInt) hk dX1_firedBits_12 (by decide) rfl rfl (fun c5288 => ?_) (fun c5288 => ?_)
      · skip
        refine g_iload_n hk dX1_firedBits_72 rfl ?_
        have b5289l := Int32.le_toInt x5146
        have b5289h := Int32.toInt_lt x5146
        exact g_iret hk hR rfl ⟨I5149, A5149, (show Md [28, 30, 31, 32, 33, 34] I I5149 from (Md.tr Md.rf hI5149 rfl)), (show Md [21, 22, 23] A A5149 from (Md.tr Md.rf hA5149 rfl)), hV5149, x5146, rfl, rfl⟩ dX1_firedBits_73
      · skip
        refine g_aload_n hk dX1_firedBits_15 rfl ?_
        refine gX_r43_1 hk hin1 (List.mem_cons_of_mem _ (List.mem_append_left _ (List.mem_of_getElem? (i := 2) rfl))) dX1_firedBits_16 ?_
        refine gX_i18 (v := (I 18)) hk hin6 (List.mem_cons_of_mem _ (List.mem_append_left _ (List.mem_of_getElem? (i := 3) rfl))) dX1_firedBits_19 (hI5149 18 rfl) ?_
        have f5290 := IvX_f18 hIv
        refine g_aload_n hk dX1_firedBits_22 rfl ?_
        refine gX_r43_2 hk hin1 (List.mem_cons_of_mem _ (List.mem_append_left _ (List.mem_of_getElem? (i := 0) rfl))) dX1_firedBits_23 ?_
        refine g_iload_n hk dX1_firedBits_26 rfl ?_
        refine g_callV (n := 1) hk (k182_X4_lengthOf l D zt q d I5149 A5149 x5145 hV5149) (SP.same _) (fun _ h => h) (gi_V (List.mem_cons_of_mem _ (List.mem_append_left _ (List.mem_of_getElem? (i := 4) rfl))) (List.mem_cons_of_mem _ (List.mem_append_left _ (List.mem_of_getElem? (i := 5) rfl))) (List.mem_cons_of_mem _ (List.mem_append_left _ (List.mem_of_getElem? (i := 6) rfl))) (List.mem_cons_of_mem _ (List.mem_append_left _ (List.mem_of_getElem? (i := 7) rfl))) (gi_sub (fun w h => (List.mem_cons_of_mem _ (List.mem_append_right _ (List.mem_append_right _ (List.mem_append_right _ (List.mem_append_right _ (List.mem_append_right _ (List.mem_append_left _ h)))))))) zg_k182_X4_lengthOf)) rfl rfl rfl (by decide +kernel) ⟨Nat.le_of_ble_eq_true rfl, Nat.le_of_ble_eq_true rfl⟩ 15 rfl rfl rfl rfl (Nat.le_of_ble_eq_true rfl) ⟨Nat.le_of_ble_eq_true rfl, Nat.le_of_ble_eq_true rfl⟩ dX1_firedBits_27 (fun v ty' w' hp hk' => ?_)
        rcases hp with ⟨rfl, rfl⟩ | ⟨y5298, c5292, c5293, c5294, c5295, c5296, c5297, c5299, c5300, rfl, rfl⟩
        · skip
          show GW κ 5 0 0 (wX q d I5149 A5149) 30 [(3, .int x5145), (2, .int x5146), (0, .ref (q 43)), (1, .int z1)] [.int 0, .int (I 18)]
          refine g_isub hk dX1_firedBits_30 ?_
          refine g_topi (fun y5301 ey5301 => ?_)
          have hy5301 : y5301.toInt = (I 18).toInt - 0 := i32_sub ey5301 rfl rfl (by omega) (by omega)
          refine g_istore (lv' := [(4, .int y5301), (3, .int x5145), (2, .int x5146), (0, .ref (q 43)), (1, .int z1)]) hk dX1_firedBits_31 (by decide) rfl ?_
          refine g_aload_n hk dX1_firedBits_33 rfl ?_
          refine gX_r43_0 hk hin1 (List.mem_cons_of_mem _ (List.mem_append_left _ (List.mem_of_getElem? (i := 8) rfl))) dX1_firedBits_34 ?_
          refine g_iload_n hk dX1_firedBits_37 rfl ?_
          refine g_iload hk dX1_firedBits_38 rfl ?_
          refine g_callV (n := 2) hk (k222_X0_openBoth l D zt q d I5149 A5149 x5145 y5301 hV5149) (SP.same _) (fun _ h => h) (gi_V (List.mem_cons_of_mem _ (List.mem_append_left _ (List.mem_of_getElem? (i := 9) rfl))) (List.mem_cons_of_mem _ (List.mem_append_left _ (List.mem_of_getElem? (i := 10) rfl))) (List.mem_cons_of_mem _ (List.mem_append_left _ (List.mem_of_getElem? (i := 11) rfl))) (List.mem_cons_of_mem _ (List.mem_append_left _ (List.mem_of_getElem? (i := 12) rfl))) (gi_sub (fun w h => (List.mem_cons_of_mem _ (List.mem_append_right _ (List.mem_append_right _ (List.mem_append_right _ (List.mem_append_right _ (List.mem_append_right _ (List.mem_append_right _ (List.mem_append_left _ h))))))))) zg_k222_X0_openBoth)) rfl rfl rfl (by decide +kernel) ⟨Nat.le_of_ble_eq_true rfl, Nat.le_of_ble_eq_true rfl⟩ 37 rfl rfl rfl rfl (Nat.le_of_ble_eq_true rfl) ⟨Nat.le_of_ble_eq_true rfl, Nat.le_of_ble_eq_true rfl⟩ dX1_firedBits_40 (fun v ty' w' hp hk' => ?_)
          obtain ⟨I5305, A5305, hI5305, hA5305, hV5305, y5302, c5303, c5304, rfl, rfl⟩ := hp
          show GW κ 5 0 0 (wX q d I5305 A5305) 43 [(4, .int y5301), (3, .int x5145), (2, .int x5146), (0, .ref (q 43)), (1, .int z1)] [.int y5302]
          refine g_if_eq (tgt := 66) (a := y5302.toInt) hk dX1_firedBits_43 (by decide) rfl (fun c5306 => ?_) (fun c5306 => ?_)
          · skip
            obtain ⟨y5307, ey5307⟩ : ∃ y : Int32, y = x5145 + Int32.ofInt 1 := ⟨_, rfl⟩
            have hy5307 : y5307.toInt = x5145.toInt + 1 := i32_add ey5307 rfl (by decide) (by omega) (by omega)
            refine g_iinc (v := y5307) (lv' := [(3, .int y5307), (4, .int y5301), (2, .int x5146), (0, .ref (q 43)), (1, .int z1)]) hk 1 dX1_firedBits_66 rfl ey5307.symm (by decide) rfl ?_
            refine g_goto (tgt := 4) hk dX1_firedBits_69 (by decide) ?_
            exact g_lv (List.forall_mem_cons.mpr ⟨List.mem_of_getElem? (i := 0) rfl, (List.forall_mem_cons.mpr ⟨List.mem_of_getElem? (i := 2) rfl, (List.forall_mem_cons.mpr ⟨List.mem_of_getElem? (i := 3) rfl, (List.forall_mem_cons.mpr ⟨List.mem_of_getElem? (i := 4) rfl, (fun _ h => absurd h List.not_mem_nil)⟩)⟩)⟩)⟩) (ih5285 y5307 x5146 I5305 A5305 (show Md [28, 30, 31, 32, 33, 34] I I5305 from Md.tr hI5149 (show Md [28, 30, 31, 32, 33, 34] I5149 I5305 from (Md.tr Md.rf hI5305 rfl)) rfl) (show Md [21, 22, 23] A A5305 from Md.tr hA5149 (show Md [21, 22, 23] A5149 A5305 from (Md.tr Md.rf hA5305 rfl)) rfl) hV5305 (by omega) (by omega) (by omega))
          · skip
            refine g_aload_n hk dX1_firedBits_46 rfl ?_
            refine gX_r43_0 hk hin1 (List.mem_cons_of_mem _ (List.mem_append_left _ (List.mem_of_getElem? (i := 8) rfl))) dX1_firedBits_47 ?_
            refine gX_r37_3 hk hin0 (List.mem_cons_of_mem _ (List.mem_append_left _ (List.mem_of_getElem? (i := 13) rfl))) dX1_firedBits_50 ?_
            refine g_callV (n := 0) hk (k232_X2_wholeDistance l D zt q d I5305 A5305  hV5305) (SP.same _) (fun _ h => h) (gi_V (List.mem_cons_of_mem _ (List.mem_append_left _ (List.mem_of_getElem? (i := 14) rfl))) (List.mem_cons_of_mem _ (List.mem_append_left _ (List.mem_of_getElem? (i := 15) rfl))) (List.mem_cons_of_mem _ (List.mem_append_left _ (List.mem_of_getElem? (i := 16) rfl))) (List.mem_cons_of_mem _ (List.mem_append_left _ (List.mem_of_getElem? (i := 17) rfl))) (gi_sub (fun w h => (List.mem_cons_of_mem _ (List.mem_append_right _ (List.mem_append_right _ (List.mem_append_right _ (List.mem_append_right _ (List.mem_append_right _ (List.mem_append_right _ (List.mem_append_right _ (List.mem_append_left _ h)))))))))) zg_k232_X2_wholeDistance)) rfl rfl rfl (by decide +kernel) ⟨Nat.le_of_ble_eq_true rfl, Nat.le_of_ble_eq_true rfl⟩ 38 rfl rfl rfl rfl (Nat.le_of_ble_eq_true rfl) ⟨Nat.le_of_ble_eq_true rfl, Nat.le_of_ble_eq_true rfl⟩ dX1_firedBits_53 (fun v ty' w' hp hk' => ?_)
            obtain ⟨I5309, A5309, hI5309, hA5309, hV5309, y5308, rfl, rfl⟩ := hp
            show GW κ 5 0 0 (wX q d I5309 A5309) 56 [(4, .int y5301), (3, .int x5145), (2, .int x5146), (0, .ref (q 43)), (1, .int z1)] [.int y5308]
            refine g_iload_n hk dX1_firedBits_56 rfl ?_
            have b5310l := Int32.le_toInt y5308
            have b5310h := Int32.toInt_lt y5308
            have b5311l := Int32.le_toInt z1
            have b5311h := Int32.toInt_lt z1
            refine g_icmp_gt (tgt := 66) (a := y5308.toInt) (b := z1.toInt) hk dX1_firedBits_57 (by decide) rfl rfl (fun c5312 => ?_) (fun c5312 => ?_)
            · skip
              obtain ⟨y5313, ey5313⟩ : ∃ y : Int32, y = x5145 + Int32.ofInt 1 := ⟨_, rfl⟩
              have hy5313 : y5313.toInt = x5145.toInt + 1 := i32_add ey5313 rfl (by decide) (by omega) (by omega)
              refine g_iinc (v := y5313) (lv' := [(3, .int y5313), (4, .int y5301), (2, .int x5146), (0, .ref (q 43)), (1, .int z1)]) hk 1 dX1_firedBits_66 rfl ey5313.symm (by decide) rfl ?_
              refine g_goto (tgt := 4) hk dX1_firedBits_69 (by decide) ?_
              exact g_lv (List.forall_mem_cons.mpr ⟨List.mem_of_getElem? (i := 0) rfl, (List.forall_mem_cons.mpr ⟨List.mem_of_getElem? (i := 2) rfl, (List.forall_mem_cons.mpr ⟨List.mem_of_getElem? (i := 3) rfl, (List.forall_mem_cons.mpr ⟨List.mem_of_getElem? (i := 4) rfl, (fun _ h => absurd h List.not_mem_nil)⟩)⟩)⟩)⟩) (ih5285 y5313 x5146 I5309 A5309 (show Md [28, 30, 31, 32, 33, 34] I I5309 from Md.tr hI5149 (show Md [28, 30, 31, 32, 33, 34] I5149 I5309 from (Md.tr (Md.tr Md.rf hI5305 rfl) hI5309 rfl)) rfl) (show Md [21, 22, 23] A A5309 from Md.tr hA5149 (show Md [21, 22, 23] A5149 A5309 from (Md.tr (Md.tr Md.rf hA5305 rfl) hA5309 rfl)) rfl) hV5309 (by omega) (by omega) (by omega))
            · skip
              refine g_iload_n hk dX1_firedBits_60 rfl ?_
              refine g_iconst (v := 1) hk dX1_firedBits_61 (by decide) ?_
              refine g_iload_n hk dX1_firedBits_62 rfl ?_
              refine g_ishl hk dX1_firedBits_63 ?_
              refine g_topi (fun y5314 ey5314 => ?_)
              refine g_ior hk dX1_firedBits_64 ?_
              refine g_topi (fun y5315 ey5315 => ?_)
              refine g_istore_n (lv' := [(2, .int y5315), (4, .int y5301), (3, .int x5145), (0, .ref (q 43)), (1, .int z1)]) hk dX1_firedBits_65 (by decide) rfl ?_
              obtain ⟨y5316, ey5316⟩ : ∃ y : Int32, y = x5145 + Int32.ofInt 1 := ⟨_, rfl⟩
              have hy5316 : y5316.toInt = x5145.toInt + 1 := i32_add ey5316 rfl (by decide) (by omega) (by omega)
              refine g_iinc (v := y5316) (lv' := [(3, .int y5316), (2, .int y5315), (4, .int y5301), (0, .ref (q 43)), (1, .int z1)]) hk 2 dX1_firedBits_66 rfl ey5316.symm (by decide) rfl ?_
              refine g_goto (tgt := 4) hk dX1_firedBits_69 (by decide) ?_
              exact g_lv (List.forall_mem_cons.mpr ⟨List.mem_of_getElem? (i := 0) rfl, (List.forall_mem_cons.mpr ⟨List.mem_of_getElem? (i := 1) rfl, (List.forall_mem_cons.mpr ⟨List.mem_of_getElem? (i := 3) rfl, (List.forall_mem_cons.mpr ⟨List.mem_of_getElem? (i := 4) rfl, (fun _ h => absurd h List.not_mem_nil)⟩)⟩)⟩)⟩) (ih5285 y5316 y5315 I5309 A5309 (show Md [28, 30, 31, 32, 33, 34] I I5309 from Md.tr hI5149 (show Md [28, 30, 31, 32, 33, 34] I5149 I5309 from (Md.tr (Md.tr Md.rf hI5305 rfl) hI5309 rfl)) rfl) (show Md [21, 22, 23] A A5309 from Md.tr hA5149 (show Md [21, 22, 23] A5149 A5309 from (Md.tr (Md.tr Md.rf hA5305 rfl) hA5309 rfl)) rfl) hV5309 (by omega) (by omega) (by omega))
        · skip
          show GW κ 5 0 0 (wX q d I5149 A5149) 30 [(3, .int x5145), (2, .int x5146), (0, .ref (q 43)), (1, .int z1)] [.int y5298, .int (I 18)]
          refine g_isub hk dX1_firedBits_30 ?_
          refine g_topi (fun y5317 ey5317 => ?_)
          have hy5317 : y5317.toInt = (I 18).toInt - y5298.toInt := i32_sub ey5317 rfl rfl (by omega) (by omega)
          refine g_istore (lv' := [(4, .int y5317), (3, .int x5145), (2, .int x5146), (0, .ref (q 43)), (1, .int z1)]) hk dX1_firedBits_31 (by decide) rfl ?_
          refine g_aload_n hk dX1_firedBits_33 rfl ?_
          refine gX_r43_0 hk hin1 (List.mem_cons_of_mem _ (List.mem_append_left _ (List.mem_of_getElem? (i := 8) rfl))) dX1_firedBits_34 ?_
          refine g_iload_n hk dX1_firedBits_37 rfl ?_
          refine g_iload hk dX1_firedBits_38 rfl ?_
          refine g_callV (n := 2) hk (k222_X0_openBoth l D zt q d I5149 A5149 x5145 y5317 hV5149) (SP.same _) (fun _ h => h) (gi_V (List.mem_cons_of_mem _ (List.mem_append_left _ (List.mem_of_getElem? (i := 9) rfl))) (List.mem_cons_of_mem _ (List.mem_append_left _ (List.mem_of_getElem? (i := 10) rfl))) (List.mem_cons_of_mem _ (List.mem_append_left _ (List.mem_of_getElem? (i := 11) rfl))) (List.mem_cons_of_mem _ (List.mem_append_left _ (List.mem_of_getElem? (i := 12) rfl))) (gi_sub (fun w h => (List.mem_cons_of_mem _ (List.mem_append_right _ (List.mem_append_right _ (List.mem_append_right _ (List.mem_append_right _ (List.mem_append_right _ (List.mem_append_right _ (List.mem_append_left _ h))))))))) zg_k222_X0_openBoth)) rfl rfl rfl (by decide +kernel) ⟨Nat.le_of_ble_eq_true rfl, Nat.le_of_ble_eq_true rfl⟩ 37 rfl rfl rfl rfl (Nat.le_of_ble_eq_true rfl) ⟨Nat.le_of_ble_eq_true rfl, Nat.le_of_ble_eq_true rfl⟩ dX1_firedBits_40 (fun v ty' w' hp hk' => ?_)
          obtain ⟨I5321, A5321, hI5321, hA5321, hV5321, y5318, c5319, c5320, rfl, rfl⟩ := hp
          show GW κ 5 0 0 (wX q d I5321 A5321) 43 [(4, .int y5317), (3, .int x5145), (2, .int x5146), (0, .ref (q 43)), (1, .int z1)] [.int y5318]
          refine g_if_eq (tgt := 66) (a := y5318.toInt) hk dX1_firedBits_43 (by decide) rfl (fun c5322 => ?_) (fun c5322 => ?_)
          · skip
            obtain ⟨y5323, ey5323⟩ : ∃ y : Int32, y = x5145 + Int32.ofInt 1 := ⟨_, rfl⟩
            have hy5323 : y5323.toInt = x5145.toInt + 1 := i32_add ey5323 rfl (by decide) (by omega) (by omega)
            refine g_iinc (v := y5323) (lv' := [(3, .int y5323), (4, .int y5317), (2, .int x5146), (0, .ref (q 43)), (1, .int z1)]) hk 1 dX1_firedBits_66 rfl ey5323.symm (by decide) rfl ?_
            refine g_goto (tgt := 4) hk dX1_firedBits_69 (by decide) ?_
            exact g_lv (List.forall_mem_cons.mpr ⟨List.mem_of_getElem? (i := 0) rfl, (List.forall_mem_cons.mpr ⟨List.mem_of_getElem? (i := 2) rfl, (List.forall_mem_cons.mpr ⟨List.mem_of_getElem? (i := 3) rfl, (List.forall_mem_cons.mpr ⟨List.mem_of_getElem? (i := 4) rfl, (fun _ h => absurd h List.not_mem_nil)⟩)⟩)⟩)⟩) (ih5285 y5323 x5146 I5321 A5321 (show Md [28, 30, 31, 32, 33, 34] I I5321 from Md.tr hI5149 (show Md [28, 30, 31, 32, 33, 34] I5149 I5321 from (Md.tr Md.rf hI5321 rfl)) rfl) (show Md [21, 22, 23] A A5321 from Md.tr hA5149 (show Md [21, 22, 23] A5149 A5321 from (Md.tr Md.rf hA5321 rfl)) rfl) hV5321 (by omega) (by omega) (by omega))
          · skip
            refine g_aload_n hk dX1_firedBits_46 rfl ?_
            refine gX_r43_0 hk hin1 (List.mem_cons_of_mem _ (List.mem_append_left _ (List.mem_of_getElem? (i := 8) rfl))) dX1_firedBits_47 ?_
            refine gX_r37_3 hk hin0 (List.mem_cons_of_mem _ (List.mem_append_left _ (List.mem_of_getElem? (i := 13) rfl))) dX1_firedBits_50 ?_
            refine g_callV (n := 0) hk (k232_X2_wholeDistance l D zt q d I5321 A5321  hV5321) (SP.same _) (fun _ h => h) (gi_V (List.mem_cons_of_mem _ (List.mem_append_left _ (List.mem_of_getElem? (i := 14) rfl))) (List.mem_cons_of_mem _ (List.mem_append_left _ (List.mem_of_getElem? (i := 15) rfl))) (List.mem_cons_of_mem _ (List.mem_append_left _ (List.mem_of_getElem? (i := 16) rfl))) (List.mem_cons_of_mem _ (List.mem_append_left _ (List.mem_of_getElem? (i := 17) rfl))) (gi_sub (fun w h => (List.mem_cons_of_mem _ (List.mem_append_right _ (List.mem_append_right _ (List.mem_append_right _ (List.mem_append_right _ (List.mem_append_right _ (List.mem_append_right _ (List.mem_append_right _ (List.mem_append_left _ h)))))))))) zg_k232_X2_wholeDistance)) rfl rfl rfl (by decide +kernel) ⟨Nat.le_of_ble_eq_true rfl, Nat.le_of_ble_eq_true rfl⟩ 38 rfl rfl rfl rfl (Nat.le_of_ble_eq_true rfl) ⟨Nat.le_of_ble_eq_true rfl, Nat.le_of_ble_eq_true rfl⟩ dX1_firedBits_53 (fun v ty' w' hp hk' => ?_)
            obtain ⟨I5325, A5325, hI5325, hA5325, hV5325, y5324, rfl, rfl⟩ := hp
            show GW κ 5 0 0 (wX q d I5325 A5325) 56 [(4, .int y5317), (3, .int x5145), (2, .int x5146), (0, .ref (q 43)), (1, .int z1)] [.int y5324]
            refine g_iload_n hk dX1_firedBits_56 rfl ?_
            have b5326l := Int32.le_toInt y5324
            have b5326h := Int32.toInt_lt y5324
            have b5327l := Int32.le_toInt z1
            have b5327h := Int32.toInt_lt z1
            refine g_icmp_gt (tgt := 66) (a := y5324.toInt) (b := z1.toInt) hk dX1_firedBits_57 (by decide) rfl rfl (fun c5328 => ?_) (fun c5328 => ?_)
            · skip
              obtain ⟨y5329, ey5329⟩ : ∃ y : Int32, y = x5145 + Int32.ofInt 1 := ⟨_, rfl⟩
              have hy5329 : y5329.toInt = x5145.toInt + 1 := i32_add ey5329 rfl (by decide) (by omega) (by omega)
              refine g_iinc (v := y5329) (lv' := [(3, .int y5329), (4, .int y5317), (2, .int x5146), (0, .ref (q 43)), (1, .int z1)]) hk 1 dX1_firedBits_66 rfl ey5329.symm (by decide) rfl ?_
              refine g_goto (tgt := 4) hk dX1_firedBits_69 (by decide) ?_
              exact g_lv (List.forall_mem_cons.mpr ⟨List.mem_of_getElem? (i := 0) rfl, (List.forall_mem_cons.mpr ⟨List.mem_of_getElem? (i := 2) rfl, (List.forall_mem_cons.mpr ⟨List.mem_of_getElem? (i := 3) rfl, (List.forall_mem_cons.mpr ⟨List.mem_of_getElem? (i := 4) rfl, (fun _ h => absurd h List.not_mem_nil)⟩)⟩)⟩)⟩) (ih5285 y5329 x5146 I5325 A5325 (show Md [28, 30, 31, 32, 33, 34] I I5325 from Md.tr hI5149 (show Md [28, 30, 31, 32, 33, 34] I5149 I5325 from (Md.tr (Md.tr Md.rf hI5321 rfl) hI5325 rfl)) rfl) (show Md [21, 22, 23] A A5325 from Md.tr hA5149 (show Md [21, 22, 23] A5149 A5325 from (Md.tr (Md.tr Md.rf hA5321 rfl) hA5325 rfl)) rfl) hV5325 (by omega) (by omega) (by omega))
            · skip
              refine g_iload_n hk dX1_firedBits_60 rfl ?_
              refine g_iconst (v := 1) hk dX1_firedBits_61 (by decide) ?_
              refine g_iload_n hk dX1_firedBits_62 rfl ?_
              refine g_ishl hk dX1_firedBits_63 ?_
              refine g_topi (fun y5330 ey5330 => ?_)
              refine g_ior hk dX1_firedBits_64 ?_
              refine g_topi (fun y5331 ey5331 => ?_)
              refine g_istore_n (lv' := [(2, .int y5331), (4, .int y5317), (3, .int x5145), (0, .ref (q 43)), (1, .int z1)]) hk dX1_firedBits_65 (by decide) rfl ?_
              obtain ⟨y5332, ey5332⟩ : ∃ y : Int32, y = x5145 + Int32.ofInt 1 := ⟨_, rfl⟩
              have hy5332 : y5332.toInt = x5145.toInt + 1 := i32_add ey5332 rfl (by decide) (by omega) (by omega)
              refine g_iinc (v := y5332) (lv' := [(3, .int y5332), (2, .int y5331), (4, .int y5317), (0, .ref (q 43)), (1, .int z1)]) hk 2 dX1_firedBits_66 rfl ey5332.symm (by decide) rfl ?_
              refine g_goto (tgt := 4) hk dX1_firedBits_69 (by decide) ?_
              exact g_lv (List.forall_mem_cons.mpr ⟨List.mem_of_getElem? (i := 0) rfl, (List.forall_mem_cons.mpr ⟨List.mem_of_getElem? (i := 1) rfl, (List.forall_mem_cons.mpr ⟨List.mem_of_getElem? (i := 3) rfl, (List.forall_mem_cons.mpr ⟨List.mem_of_getElem? (i := 4) rfl, (fun _ h => absurd h List.not_mem_nil)⟩)⟩)⟩)⟩) (ih5285 y5332 y5331 I5325 A5325 (show Md [28, 30, 31, 32, 33, 34] I I5325 from Md.tr hI5149 (show Md [28, 30, 31, 32, 33, 34] I5149 I5325 from (Md.tr (Md.tr Md.rf hI5321 rfl) hI5325 rfl)) rfl) (show Md [21, 22, 23] A A5325 from Md.tr hA5149 (show Md [21, 22, 23] A5149 A5325 from (Md.tr (Md.tr Md.rf hA5321 rfl) hA5325 rfl)) rfl) hV5325 (by omega) (by omega) (by omega))
  have k5334 : (0 : Int32).toInt = 0 := rfl
  obtain ⟨n5333, n5333a, n5333b⟩ : ∃ n : Nat, (I 19).toInt + 1 - 0 < (n : Int) ∧ 0 < n := ⟨(((I 19).toInt + 1 - 0 : Int)).toNat + 1, by omega, by omega⟩
  exact lp5282 n5333 0 0 I A Md.rf Md.rf hIv (by omega) n5333a n5333b
def wo_k260_X11_fired : List Cond := [Cond.fieldLink RX11 74 "WarpDesk" "finder" "LWarpDesk$Finder;", Cond.methodLink RX11 266 yX1_firedBits, Cond.instanceMethod yX1_firedBits, Cond.selects RX1 yX1_firedBits yX1_firedBits, Cond.initialized RX1]
def wz_k260_X11_fired : List Cond := .code yX11_fired cX11_fired 2 (some .int) :: (wo_k260_X11_fired ++ (wsX110 ++ (wz_k261_X1_firedBits ++ ([] : List Cond))))
theorem zg_k260_X11_fired : ∀ w ∈ wz_k260_X11_fired, goodWord w = true := zg_cons rfl (zg_app (by decide +kernel) (zg_app zgU_wsX110 (zg_app zg_k261_X1_firedBits zg_nil)))
theorem zi_k260_X11_fired : ∀ w ∈ wz_k260_X11_fired, w ∈ lw_tbl := zi_cons zw_1108 (zi_app (zi_cons zw_495 (zi_cons zw_1109 (zi_cons zw_1110 (zi_cons zw_1111 (zi_cons zw_113 zi_nil))))) (zi_app inX11 (zi_app zi_k261_X1_firedBits zi_nil)))
set_option maxHeartbeats 4000000 in
set_option maxRecDepth 100000 in
theorem k260_X11_fired (l : Launch) (D : va_G) (zt : Nat × Nat × Nat × (Nat → Nat) × (Nat → Nat)) (q : Nat → Nat) (d : Nat → ClassId) (I : Nat → Int32) (A : Nat → Nat → Int32) (z1 : Int32) (hIv : IvX I A) : GM l D zt (tyX d) yX11_fired wz_k260_X11_fired ({ frames := 7, cells := 0, slots := 0, locals := 155 } : Room) [.ref (q 0), .int z1] (wX q d I A) (fun v _ w' => ∃ (I' : Nat → Int32) (A' : Nat → Nat → Int32), Md [28, 30, 31, 32, 33, 34] I I' ∧ Md [21, 22, 23] A A' ∧ IvX I' A' ∧ ∃ y0 : Int32, v = some (.int y0) ∧ w' = wX q d I' A') 0 0 := by
  refine GM.of (cc := cX11_fired) (maxL := 2) (ret := (some .int)) (own := RX11) (lv := [(0, .ref (q 0)), (1, .int z1)]) (by decide) rfl rfl (Nat.le_of_ble_eq_true rfl) rfl (fun κ sz hk hR hN => ?_)
  have hin11 : ∀ w ∈ u_ws RX11 TX11 10, w ∈ wz_k260_X11_fired := fun w h => (List.mem_cons_of_mem _ (List.mem_append_right _ (List.mem_append_left _ h)))
  refine g_iload_n hk dX11_fired_0 rfl ?_
  have b5143l := Int32.le_toInt z1
  have b5143h := Int32.toInt_lt z1
  refine g_if_ge (tgt := 8) (a := z1.toInt) hk dX11_fired_1 (by decide) rfl (fun c5144 => ?_) (fun c5144 => ?_)
  · skip
    refine g_aload_n hk dX11_fired_8 rfl ?_
    refine gX_r0_8 hk hin11 (List.mem_cons_of_mem _ (List.mem_append_left _ (List.mem_of_getElem? (i := 0) rfl))) dX11_fired_9 ?_
    refine g_iload_n hk dX11_fired_12 rfl ?_
    refine g_callV (n := 1) hk (k261_X1_firedBits l D zt q d I A z1 hIv) (SP.same _) (fun _ h => h) (gi_V (List.mem_cons_of_mem _ (List.mem_append_left _ (List.mem_of_getElem? (i := 1) rfl))) (List.mem_cons_of_mem _ (List.mem_append_left _ (List.mem_of_getElem? (i := 2) rfl))) (List.mem_cons_of_mem _ (List.mem_append_left _ (List.mem_of_getElem? (i := 3) rfl))) (List.mem_cons_of_mem _ (List.mem_append_left _ (List.mem_of_getElem? (i := 4) rfl))) (gi_sub (fun w h => (List.mem_cons_of_mem _ (List.mem_append_right _ (List.mem_append_right _ (List.mem_append_left _ h))))) zg_k261_X1_firedBits)) rfl rfl rfl (by decide +kernel) ⟨Nat.le_of_ble_eq_true rfl, Nat.le_of_ble_eq_true rfl⟩ 43 rfl rfl rfl rfl (Nat.le_of_ble_eq_true rfl) ⟨Nat.le_of_ble_eq_true rfl, Nat.le_of_ble_eq_true rfl⟩ dX11_fired_13 (fun v ty' w' hp hk' => ?_)
    obtain ⟨I5336, A5336, hI5336, hA5336, hV5336, y5335, rfl, rfl⟩ := hp
    show GW κ 2 0 0 (wX q d I5336 A5336) 16 [(0, .ref (q 0)), (1, .int z1)] [.int y5335]
    have b5337l := Int32.le_toInt y5335
    have b5337h := Int32.toInt_lt y5335
    exact g_iret hk hR rfl ⟨I5336, A5336, (show Md [28, 30, 31, 32, 33, 34] I I5336 from (Md.tr Md.rf hI5336 rfl)), (show Md [21, 22, 23] A A5336 from (Md.tr Md.rf hA5336 rfl)), hV5336, y5335, rfl, rfl⟩ dX11_fired_16
  · skip
    refine g_iconst (v := (-1)) hk dX11_fired_4 (by decide) ?_
    refine g_goto (tgt := 16) hk dX11_fired_5 (by decide) ?_
    exact g_iret hk hR rfl ⟨I, A, (show Md [28, 30, 31, 32, 33, 34] I I from Md.rf), (show Md [21, 22, 23] A A from Md.rf), hIv, (-1), rfl, rfl⟩ dX11_fired_16
def wo_k264_X2_isLess : List Cond := [Cond.methodLink RX2 82 yX2_endsBound, Cond.instanceMethod yX2_endsBound, Cond.selects RX2 yX2_endsBound yX2_endsBound, Cond.initialized RX2, Cond.methodLink RX2 86 yX2_layTable, Cond.instanceMethod yX2_layTable, Cond.selects RX2 yX2_layTable yX2_layTable, Cond.fieldLink RX2 79 "WarpDesk$Fit" "brokenRow" "I", Cond.methodLink RX2 90 yX2_laidDistance, Cond.instanceMethod yX2_laidDistance, Cond.selects RX2 yX2_laidDistance yX2_laidDistance]
def wz_k264_X2_isLess : List Cond := .code yX2_isLess cX2_isLess 2 (some .boolean) :: (wo_k264_X2_isLess ++ (wsX20 ++ (wz_k239_X2_endsBound ++ (wz_k233_X2_layTable ++ (wz_k237_X2_laidDistance ++ ([] : List Cond))))))
theorem zg_k264_X2_isLess : ∀ w ∈ wz_k264_X2_isLess, goodWord w = true := zg_cons rfl (zg_app (by decide +kernel) (zg_app zgU_wsX20 (zg_app zg_k239_X2_endsBound (zg_app zg_k233_X2_layTable (zg_app zg_k237_X2_laidDistance zg_nil)))))
theorem zi_k264_X2_isLess : ∀ w ∈ wz_k264_X2_isLess, w ∈ lw_tbl := zi_cons zw_1127 (zi_app (zi_cons zw_1049 (zi_cons zw_1022 (zi_cons zw_1023 (zi_cons zw_112 (zi_cons zw_997 (zi_cons zw_999 (zi_cons zw_28 (zi_cons zw_350 (zi_cons zw_1013 (zi_cons zw_1014 (zi_cons zw_1015 zi_nil))))))))))) (zi_app inX2 (zi_app zi_k239_X2_endsBound (zi_app zi_k233_X2_layTable (zi_app zi_k237_X2_laidDistance zi_nil)))))
set_option maxHeartbeats 4000000 in
set_option maxRecDepth 100000 in
theorem k264_X2_isLess (l : Launch) (D : va_G) (zt : Nat × Nat × Nat × (Nat → Nat) × (Nat → Nat)) (q : Nat → Nat) (d : Nat → ClassId) (I : Nat → Int32) (A : Nat → Nat → Int32) (z1 : Int32) (hIv : IvX I A) : GM l D zt (tyX d) yX2_isLess wz_k264_X2_isLess ({ frames := 3, cells := 0, slots := 0, locals := 72 } : Room) [.ref (q 38), .int z1] (wX q d I A) (fun v _ w' => ∃ (I' : Nat → Int32) (A' : Nat → Nat → Int32), Md [33, 34] I I' ∧ Md [23] A A' ∧ IvX I' A' ∧ ∃ y0 : Int32, (0 ≤ y0.toInt) ∧ (y0.toInt ≤ 1) ∧ v = some (.int y0) ∧ w' = wX q d I' A') 0 0 := by
  refine GM.of (cc := cX2_isLess) (maxL := 2) (ret := (some .boolean)) (own := RX2) (lv := [(0, .ref (q 38)), (1, .int z1)]) (by decide) rfl rfl (Nat.le_of_ble_eq_true rfl) rfl (fun κ sz hk hR hN => ?_)
  have hin2 : ∀ w ∈ u_ws RX2 TX2 10, w ∈ wz_k264_X2_isLess := fun w h => (List.mem_cons_of_mem _ (List.mem_append_right _ (List.mem_append_left _ h)))
  refine g_aload_n hk dX2_isLess_0 rfl ?_
  refine g_callV (n := 0) hk (k239_X2_endsBound l D zt q d I A  hIv) (SP.same _) (fun _ h => h) (gi_V (List.mem_cons_of_mem _ (List.mem_append_left _ (List.mem_of_getElem? (i := 0) rfl))) (List.mem_cons_of_mem _ (List.mem_append_left _ (List.mem_of_getElem? (i := 1) rfl))) (List.mem_cons_of_mem _ (List.mem_append_left _ (List.mem_of_getElem? (i := 2) rfl))) (List.mem_cons_of_mem _ (List.mem_append_left _ (List.mem_of_getElem? (i := 3) rfl))) (gi_sub (fun w h => (List.mem_cons_of_mem _ (List.mem_append_right _ (List.mem_append_right _ (List.mem_append_left _ h))))) zg_k239_X2_endsBound)) rfl rfl rfl (by decide +kernel) ⟨Nat.le_of_ble_eq_true rfl, Nat.le_of_ble_eq_true rfl⟩ 38 rfl rfl rfl rfl (Nat.le_of_ble_eq_true rfl) ⟨Nat.le_of_ble_eq_true rfl, Nat.le_of_ble_eq_true rfl⟩ dX2_isLess_1 (fun v ty' w' hp hk' => ?_)
  obtain ⟨y5380, rfl, rfl⟩ := hp
  show GW κ 2 0 0 (wX q d I A) 4 [(0, .ref (q 38)), (1, .int z1)] [.int y5380]
  refine g_iload_n hk dX2_isLess_4 rfl ?_
  have b5381l := Int32.le_toInt y5380
  have b5381h := Int32.toInt_lt y5380
  have b5382l := Int32.le_toInt z1
  have b5382h := Int32.toInt_lt z1
  refine g_icmp_lt (tgt := 10) (a := y5380.toInt) (b := z1.toInt) hk dX2_isLess_5 (by decide) rfl rfl (fun c5383 => ?_) (fun c5383 => ?_)
  · skip
    refine g_aload_n hk dX2_isLess_10 rfl ?_
    refine g_iload_n hk dX2_isLess_11 rfl ?_
    refine g_callV (n := 1) hk (k233_X2_layTable l D zt q d I A z1 hIv) (SP.same _) (fun _ h => h) (gi_V (List.mem_cons_of_mem _ (List.mem_append_left _ (List.mem_of_getElem? (i := 4) rfl))) (List.mem_cons_of_mem _ (List.mem_append_left _ (List.mem_of_getElem? (i := 5) rfl))) (List.mem_cons_of_mem _ (List.mem_append_left _ (List.mem_of_getElem? (i := 6) rfl))) (List.mem_cons_of_mem _ (List.mem_append_left _ (List.mem_of_getElem? (i := 3) rfl))) (gi_sub (fun w h => (List.mem_cons_of_mem _ (List.mem_append_right _ (List.mem_append_right _ (List.mem_append_right _ (List.mem_append_left _ h)))))) zg_k233_X2_layTable)) rfl rfl rfl (by decide +kernel) ⟨Nat.le_of_ble_eq_true rfl, Nat.le_of_ble_eq_true rfl⟩ 38 rfl rfl rfl rfl (Nat.le_of_ble_eq_true rfl) ⟨Nat.le_of_ble_eq_true rfl, Nat.le_of_ble_eq_true rfl⟩ dX2_isLess_12 (fun v ty' w' hp hk' => ?_)
    obtain ⟨I5385, A5385, hI5385, hA5385, hV5385, rfl, rfl⟩ := hp
    show GW κ 2 0 0 (wX q d I5385 A5385) 15 [(0, .ref (q 38)), (1, .int z1)] []
    refine g_aload_n hk dX2_isLess_15 rfl ?_
    refine gX_i34 (v := (I5385 34)) hk hin2 (List.mem_cons_of_mem _ (List.mem_append_left _ (List.mem_of_getElem? (i := 7) rfl))) dX2_isLess_16 rfl ?_
    refine g_bipush (v := (-2)) hk dX2_isLess_19 (by decide) ?_
    have b5386l := Int32.le_toInt (I5385 34)
    have b5386h := Int32.toInt_lt (I5385 34)
    refine g_icmp_ne (tgt := 36) (a := (I5385 34).toInt) (b := (-2)) hk dX2_isLess_21 (by decide) rfl rfl (fun c5387 => ?_) (fun c5387 => ?_)
    · skip
      refine g_iconst (v := 0) hk dX2_isLess_36 (by decide) ?_
      exact g_iret hk hR rfl ⟨I5385, A5385, (show Md [33, 34] I I5385 from (Md.tr Md.rf hI5385 rfl)), (show Md [23] A A5385 from (Md.tr Md.rf hA5385 rfl)), hV5385, 0, (by decide), (by decide), rfl, rfl⟩ dX2_isLess_37
    · skip
      refine g_aload_n hk dX2_isLess_24 rfl ?_
      refine g_callV (n := 0) hk (k237_X2_laidDistance l D zt q d I5385 A5385  hV5385) (SP.same _) (fun _ h => h) (gi_V (List.mem_cons_of_mem _ (List.mem_append_left _ (List.mem_of_getElem? (i := 8) rfl))) (List.mem_cons_of_mem _ (List.mem_append_left _ (List.mem_of_getElem? (i := 9) rfl))) (List.mem_cons_of_mem _ (List.mem_append_left _ (List.mem_of_getElem? (i := 10) rfl))) (List.mem_cons_of_mem _ (List.mem_append_left _ (List.mem_of_getElem? (i := 3) rfl))) (gi_sub (fun w h => (List.mem_cons_of_mem _ (List.mem_append_right _ (List.mem_append_right _ (List.mem_append_right _ (List.mem_append_right _ (List.mem_append_left _ h))))))) zg_k237_X2_laidDistance)) rfl rfl rfl (by decide +kernel) ⟨Nat.le_of_ble_eq_true rfl, Nat.le_of_ble_eq_true rfl⟩ 38 rfl rfl rfl rfl (Nat.le_of_ble_eq_true rfl) ⟨Nat.le_of_ble_eq_true rfl, Nat.le_of_ble_eq_true rfl⟩ dX2_isLess_25 (fun v ty' w' hp hk' => ?_)
      obtain ⟨y5388, rfl, rfl⟩ := hp
      show GW κ 2 0 0 (wX q d I5385 A5385) 28 [(0, .ref (q 38)), (1, .int z1)] [.int y5388]
      refine g_iload_n hk dX2_isLess_28 rfl ?_
      have b5389l := Int32.le_toInt y5388
      have b5389h := Int32.toInt_lt y5388
      refine g_icmp_ge (tgt := 36) (a := y5388.toInt) (b := z1.toInt) hk dX2_isLess_29 (by decide) rfl rfl (fun c5390 => ?_) (fun c5390 => ?_)
      · skip
        refine g_iconst (v := 0) hk dX2_isLess_36 (by decide) ?_
        exact g_iret hk hR rfl ⟨I5385, A5385, (show Md [33, 34] I I5385 from (Md.tr Md.rf hI5385 rfl)), (show Md [23] A A5385 from (Md.tr Md.rf hA5385 rfl)), hV5385, 0, (by decide), (by decide), rfl, rfl⟩ dX2_isLess_37
      · skip
        refine g_iconst (v := 1) hk dX2_isLess_32 (by decide) ?_
        refine g_goto (tgt := 37) hk dX2_isLess_33 (by decide) ?_
        exact g_iret hk hR rfl ⟨I5385, A5385, (show Md [33, 34] I I5385 from (Md.tr Md.rf hI5385 rfl)), (show Md [23] A A5385 from (Md.tr Md.rf hA5385 rfl)), hV5385, 1, (by decide), (by decide), rfl, rfl⟩ dX2_isLess_37
  · skip
    refine g_iconst (v := 0) hk dX2_isLess_8 (by decide) ?_
    exact g_iret hk hR rfl ⟨I, A, (show Md [33, 34] I I from Md.rf), (show Md [23] A A from Md.rf), hIv, 0, (by decide), (by decide), rfl, rfl⟩ dX2_isLess_9
