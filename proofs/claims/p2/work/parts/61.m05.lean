def wo_j157_X12_set : List Cond := [Cond.methodLink RX12 244 yX12_in, Cond.static yX12_in, Cond.initialized RX12, Cond.fieldLink RX12 70 "WarpDeskModel" "now" "[I", Cond.methodLink RX12 323 yX12_copies, Cond.instanceMethod yX12_copies, Cond.selects RX12 yX12_copies yX12_copies, Cond.fieldLink RX12 73 "WarpDeskModel" "row" "[I", Cond.methodLink RX12 326 yX12_records, Cond.instanceMethod yX12_records, Cond.selects RX12 yX12_records yX12_records]
def wz_j157_X12_set : List Cond := .code yX12_set cX12_set 5 (some .boolean) :: (wo_j157_X12_set ++ (wsX120 ++ (wz_j145_X12_in ++ (wz_j151_X12_copies ++ (wz_j152_X12_records ++ ([] : List Cond))))))
theorem zg_j157_X12_set : ∀ w ∈ wz_j157_X12_set, goodWord w = true := zg_cons rfl (zg_app (by decide +kernel) (zg_app zgU_wsX120 (zg_app zg_j145_X12_in (zg_app zg_j151_X12_copies (zg_app zg_j152_X12_records zg_nil)))))
theorem zi_j157_X12_set : ∀ w ∈ wz_j157_X12_set, w ∈ lw_tbl := zi_cons zw_1705 (zi_app (zi_cons zw_1656 (zi_cons zw_1657 (zi_cons zw_115 (zi_cons zw_1413 (zi_cons zw_1679 (zi_cons zw_1681 (zi_cons zw_70 (zi_cons zw_1414 (zi_cons zw_1683 (zi_cons zw_1685 (zi_cons zw_71 zi_nil))))))))))) (zi_app inX12 (zi_app zi_j145_X12_in (zi_app zi_j151_X12_copies (zi_app zi_j152_X12_records zi_nil)))))
set_option maxHeartbeats 4000000 in
set_option maxRecDepth 100000 in
theorem j157_X12_set (l : Launch) (D : va_G) (zt : Nat × Nat × Nat × (Nat → Nat) × (Nat → Nat)) (r : Nat → Nat) (g : Nat → ClassId) (I : Nat → Int32) (A : Nat → Nat → Int32) (L : Nat → Nat → Int64) (z1 : Int32) (z2 : Int32) (hIv : IvM I A) : GM l D zt (tyM g) yX12_set wz_j157_X12_set ({ frames := 2, cells := 0, slots := 0, locals := 42 } : Room) [.ref (r 0), .int z1, .int z2] (wM r g I A L) (fun v _ w' => ∃ (I' : Nat → Int32) (A' : Nat → Nat → Int32) (L' : Nat → Nat → Int64), Md [22] I I' ∧ Md [17, 18, 22] A A' ∧ IvM I' A' ∧ ∃ y0 : Int32, (0 ≤ y0.toInt) ∧ (y0.toInt ≤ 1) ∧ v = some (.int y0) ∧ w' = wM r g I' A' L') 0 0 := by
  refine GM.of (cc := cX12_set) (maxL := 5) (ret := (some .boolean)) (own := RX12) (lv := [(0, .ref (r 0)), (1, .int z1), (2, .int z2)]) (by decide) rfl rfl (Nat.le_of_ble_eq_true rfl) rfl (fun κ sz hk hR hN => ?_)
  have hin12 : ∀ w ∈ u_ws RX12 TX12 55, w ∈ wz_j157_X12_set := fun w h => (List.mem_cons_of_mem _ (List.mem_append_right _ (List.mem_append_left _ h)))
  refine g_iload_n hk dX12_set_0 rfl ?_
  refine g_iconst (v := 0) hk dX12_set_1 (by decide) ?_
  refine g_iconst (v := 3) hk dX12_set_2 (by decide) ?_
  have k18314 : (0 : Int32).toInt = 0 := rfl
  have k18315 : (3 : Int32).toInt = 3 := rfl
  refine g_callS (n := 3) hk (j145_X12_in l D zt r g I A L z1 0 3 hIv) (SP.same _) (fun _ h => h) (gi_S (List.mem_cons_of_mem _ (List.mem_append_left _ (List.mem_of_getElem? (i := 0) rfl))) (List.mem_cons_of_mem _ (List.mem_append_left _ (List.mem_of_getElem? (i := 1) rfl))) (List.mem_cons_of_mem _ (List.mem_append_left _ (List.mem_of_getElem? (i := 2) rfl))) (gi_sub (fun w h => (List.mem_cons_of_mem _ (List.mem_append_right _ (List.mem_append_right _ (List.mem_append_left _ h))))) zg_j145_X12_in)) rfl rfl rfl (by decide +kernel) ⟨Nat.le_of_ble_eq_true rfl, Nat.le_of_ble_eq_true rfl⟩ rfl rfl (Nat.le_of_ble_eq_true rfl) ⟨Nat.le_of_ble_eq_true rfl, Nat.le_of_ble_eq_true rfl⟩ dX12_set_3 (fun v ty' w' hp hk' => ?_)
  rcases hp with ⟨c18316, rfl, rfl⟩ | ⟨c18318, c18319, rfl, rfl⟩
  · skip
    have b18321l := Int32.le_toInt z1
    have b18321h := Int32.toInt_lt z1
    show GW κ 5 0 0 (wM r g I A L) 6 [(0, .ref (r 0)), (1, .int z1), (2, .int z2)] [.int 0]
    refine g_if_eq (tgt := 23) (a := 0) hk dX12_set_6 (by decide) rfl (fun _ => ?_) (fun z9 => absurd (show (0 : Int) = (0 : Int) from by decide) z9)
    refine g_iconst (v := 0) hk dX12_set_23 (by decide) ?_
    exact g_iret hk hR rfl ⟨I, A, L, (show Md [22] I I from Md.rf), (show Md [17, 18, 22] A A from Md.rf), hIv, 0, (by decide), (by decide), rfl, rfl⟩ dX12_set_24
  · skip
    show GW κ 5 0 0 (wM r g I A L) 6 [(0, .ref (r 0)), (1, .int z1), (2, .int z2)] [.int 1]
    refine g_if_eq (tgt := 23) (a := 1) hk dX12_set_6 (by decide) rfl (fun z9 => absurd z9 (show ¬ ((1 : Int) = (0 : Int)) from by decide)) (fun _ => ?_)
    refine g_aload_n hk dX12_set_9 rfl ?_
    refine gM_r0_35 hk hin12 (List.mem_cons_of_mem _ (List.mem_append_left _ (List.mem_of_getElem? (i := 3) rfl))) dX12_set_10 ?_
    refine g_sipush (v := 161) hk dX12_set_13 (by decide) ?_
    refine g_iload_n hk dX12_set_16 rfl ?_
    refine g_iadd hk dX12_set_17 ?_
    refine g_topi (fun y18322 ey18322 => ?_)
    have hy18322 : y18322.toInt = 161 + z1.toInt := i32_add ey18322 rfl rfl (by omega) (by omega)
    refine lM_17 (v := (A 17 y18322.toNatClampNeg)) hk (vp_in_iff.mpr ⟨by omega, by omega⟩) rfl dX12_set_18 ?_
    refine g_iload_n hk dX12_set_19 rfl ?_
    have b18323l := Int32.le_toInt (A 17 y18322.toNatClampNeg)
    have b18323h := Int32.toInt_lt (A 17 y18322.toNatClampNeg)
    have b18324l := Int32.le_toInt z2
    have b18324h := Int32.toInt_lt z2
    refine g_icmp_ne (tgt := 25) (a := (A 17 y18322.toNatClampNeg).toInt) (b := z2.toInt) hk dX12_set_20 (by decide) rfl rfl (fun c18325 => ?_) (fun c18325 => ?_)
    · skip
      refine g_iload_n hk dX12_set_25 rfl ?_
      refine g_iconst (v := 3) hk dX12_set_26 (by decide) ?_
      refine g_icmp_ne (tgt := 34) (a := z1.toInt) (b := 3) hk dX12_set_27 (by decide) rfl rfl (fun c18326 => ?_) (fun c18326 => ?_)
      · skip
        refine g_iconst (v := 0) hk dX12_set_34 (by decide) ?_
        refine g_istore_n (lv' := [(3, .int 0), (0, .ref (r 0)), (1, .int z1), (2, .int z2)]) hk dX12_set_35 (by decide) rfl ?_
        refine g_iload_n hk dX12_set_36 rfl ?_
        refine g_if_ne (tgt := 45) (a := z1.toInt) hk dX12_set_37 (by decide) rfl (fun c18327 => ?_) (fun c18327 => ?_)
        · skip
          refine g_iload_n hk dX12_set_45 rfl ?_
          refine g_iconst (v := 1) hk dX12_set_46 (by decide) ?_
          refine g_icmp_ne (tgt := 54) (a := z1.toInt) (b := 1) hk dX12_set_47 (by decide) rfl rfl (fun c18328 => ?_) (fun c18328 => ?_)
          · skip
            refine g_iload_n hk dX12_set_54 rfl ?_
            refine g_iconst (v := 2) hk dX12_set_55 (by decide) ?_
            refine g_icmp_ne (tgt := 63) (a := z1.toInt) (b := 2) hk dX12_set_56 (by decide) rfl rfl (fun z9 => absurd z9 (show ¬ (z1.toInt ≠ 2) from by omega)) (fun _ => ?_)
            refine g_iconst (v := 1) hk dX12_set_59 (by decide) ?_
            refine g_goto (tgt := 65) hk dX12_set_60 (by decide) ?_
            refine g_istore (lv' := [(4, .int 1), (3, .int 0), (0, .ref (r 0)), (1, .int z1), (2, .int z2)]) hk dX12_set_65 (by decide) rfl ?_
            refine g_iload_n hk dX12_set_67 rfl ?_
            refine g_iload_n hk dX12_set_68 rfl ?_
            refine g_iload hk dX12_set_69 rfl ?_
            have k18329 : (1 : Int32).toInt = 1 := rfl
            refine g_callS (n := 3) hk (j145_X12_in l D zt r g I A L z2 0 1 hIv) (SP.same _) (fun _ h => h) (gi_S (List.mem_cons_of_mem _ (List.mem_append_left _ (List.mem_of_getElem? (i := 0) rfl))) (List.mem_cons_of_mem _ (List.mem_append_left _ (List.mem_of_getElem? (i := 1) rfl))) (List.mem_cons_of_mem _ (List.mem_append_left _ (List.mem_of_getElem? (i := 2) rfl))) (gi_sub (fun w h => (List.mem_cons_of_mem _ (List.mem_append_right _ (List.mem_append_right _ (List.mem_append_left _ h))))) zg_j145_X12_in)) rfl rfl rfl (by decide +kernel) ⟨Nat.le_of_ble_eq_true rfl, Nat.le_of_ble_eq_true rfl⟩ rfl rfl (Nat.le_of_ble_eq_true rfl) ⟨Nat.le_of_ble_eq_true rfl, Nat.le_of_ble_eq_true rfl⟩ dX12_set_71 (fun v ty' w' hp hk' => ?_)
            rcases hp with ⟨c18330, rfl, rfl⟩ | ⟨c18332, c18333, rfl, rfl⟩
            · skip
              show GW κ 5 0 0 (wM r g I A L) 74 [(4, .int 1), (3, .int 0), (0, .ref (r 0)), (1, .int z1), (2, .int z2)] [.int 0]
              refine g_if_ne (tgt := 79) (a := 0) hk dX12_set_74 (by decide) rfl (fun z9 => absurd z9 (show ¬ ((0 : Int) ≠ (0 : Int)) from by decide)) (fun _ => ?_)
              refine g_iconst (v := 0) hk dX12_set_77 (by decide) ?_
              exact g_iret hk hR rfl ⟨I, A, L, (show Md [22] I I from Md.rf), (show Md [17, 18, 22] A A from Md.rf), hIv, 0, (by decide), (by decide), rfl, rfl⟩ dX12_set_78
            · skip
              show GW κ 5 0 0 (wM r g I A L) 74 [(4, .int 1), (3, .int 0), (0, .ref (r 0)), (1, .int z1), (2, .int z2)] [.int 1]
              refine g_if_ne (tgt := 79) (a := 1) hk dX12_set_74 (by decide) rfl (fun _ => ?_) (fun z9 => absurd (show (1 : Int) ≠ (0 : Int) from by decide) z9)
              refine g_aload_n hk dX12_set_79 rfl ?_
              refine g_callV (n := 0) hk (j151_X12_copies l D zt r g I A L  hIv) (SP.same _) (fun _ h => h) (gi_V (List.mem_cons_of_mem _ (List.mem_append_left _ (List.mem_of_getElem? (i := 4) rfl))) (List.mem_cons_of_mem _ (List.mem_append_left _ (List.mem_of_getElem? (i := 5) rfl))) (List.mem_cons_of_mem _ (List.mem_append_left _ (List.mem_of_getElem? (i := 6) rfl))) (List.mem_cons_of_mem _ (List.mem_append_left _ (List.mem_of_getElem? (i := 2) rfl))) (gi_sub (fun w h => (List.mem_cons_of_mem _ (List.mem_append_right _ (List.mem_append_right _ (List.mem_append_right _ (List.mem_append_left _ h)))))) zg_j151_X12_copies)) rfl rfl rfl (by decide +kernel) ⟨Nat.le_of_ble_eq_true rfl, Nat.le_of_ble_eq_true rfl⟩ 0 rfl rfl rfl rfl (Nat.le_of_ble_eq_true rfl) ⟨Nat.le_of_ble_eq_true rfl, Nat.le_of_ble_eq_true rfl⟩ dX12_set_80 (fun v ty' w' hp hk' => ?_)
              obtain ⟨I18336, A18336, L18336, hI18336, hA18336, hV18336, r18337, r18338, rfl, rfl⟩ := hp
              have f18339 := IvM_s17_0 hIv
              have f18340 := IvM_s17_164 hIv
              show GW κ 5 0 0 (wM r g I18336 A18336 L18336) 83 [(4, .int 1), (3, .int 0), (0, .ref (r 0)), (1, .int z1), (2, .int z2)] []
              refine g_aload_n hk dX12_set_83 rfl ?_
              refine gM_r0_36 hk hin12 (List.mem_cons_of_mem _ (List.mem_append_left _ (List.mem_of_getElem? (i := 7) rfl))) dX12_set_84 ?_
              refine g_sipush (v := 161) hk dX12_set_87 (by decide) ?_
              refine g_iload_n hk dX12_set_90 rfl ?_
              refine g_iadd hk dX12_set_91 ?_
              refine g_topi (fun y18341 ey18341 => ?_)
              have hy18341 : y18341.toInt = 161 + z1.toInt := i32_add ey18341 rfl rfl (by omega) (by omega)
              refine g_iload_n hk dX12_set_92 rfl ?_
              refine sM_18 (j := y18341.toNatClampNeg) hk (vp_in_iff.mpr ⟨by omega, by omega⟩) rfl dX12_set_93 ?_
              have hS18342 : (up3 A18336 18 (y18341.toNatClampNeg) z2) 18 0 = (A18336 18 0) := (up3_ne (by have := cl_int (y := y18341) (by omega); omega)).trans (show A18336 18 0 = (A18336 18 0) from rfl)
              have hS18343 : (up3 A18336 18 (y18341.toNatClampNeg) z2) 18 164 = (A18336 18 164) := (up3_ne (by have := cl_int (y := y18341) (by omega); omega)).trans (show A18336 18 164 = (A18336 18 164) from rfl)
              refine g_aload_n hk dX12_set_94 rfl ?_
              refine g_callV (n := 0) hk (j152_X12_records l D zt r g I18336 (up3 A18336 18 (y18341.toNatClampNeg) z2) L18336  ⟨(IvM_f1 (I := I18336) (A := A18336) hV18336), (IvM_f2 (I := I18336) (A := A18336) hV18336), (IvM_f3 (I := I18336) (A := A18336) hV18336), (IvM_f4 (I := I18336) (A := A18336) hV18336), (IvM_f6 (I := I18336) (A := A18336) hV18336), (IvM_f8 (I := I18336) (A := A18336) hV18336), (IvM_f15 (I := I18336) (A := A18336) hV18336), (IvM_f16 (I := I18336) (A := A18336) hV18336), (IvM_f17 (I := I18336) (A := A18336) hV18336), (IvM_f18 (I := I18336) (A := A18336) hV18336), (IvM_f22 (I := I18336) (A := A18336) hV18336), (IvM_f23 (I := I18336) (A := A18336) hV18336), (IvM_f24 (I := I18336) (A := A18336) hV18336), (IvM_a11 (I := I18336) (A := A18336) hV18336), (IvM_a26 (I := I18336) (A := A18336) hV18336), (IvM_s8_0 (I := I18336) (A := A18336) hV18336), (IvM_s8_1 (I := I18336) (A := A18336) hV18336), (IvM_s10_0 (I := I18336) (A := A18336) hV18336), (IvM_s10_1 (I := I18336) (A := A18336) hV18336), (IvM_s17_0 (I := I18336) (A := A18336) hV18336), (IvM_s17_164 (I := I18336) (A := A18336) hV18336), (IvM_lv (I := I18336) (A := A18336) hV18336), (IvM_sd (I := I18336) (A := A18336) hV18336), (IvM_nq (I := I18336) (A := A18336) hV18336), (IvM_hr (I := I18336) (A := A18336) hV18336), (IvM_hh (I := I18336) (A := A18336) hV18336), trivial⟩ (by first | (rw [show ((up3 A18336 18 (y18341.toNatClampNeg) z2) 18 0) = (A18336 18 0) from hS18342] <;> omega) | omega) (by first | (rw [show ((up3 A18336 18 (y18341.toNatClampNeg) z2) 18 0) = (A18336 18 0) from hS18342] <;> omega) | omega) (by first | (rw [show ((up3 A18336 18 (y18341.toNatClampNeg) z2) 18 164) = (A18336 18 164) from hS18343] <;> omega) | omega)) (SP.same _) (fun _ h => h) (gi_V (List.mem_cons_of_mem _ (List.mem_append_left _ (List.mem_of_getElem? (i := 8) rfl))) (List.mem_cons_of_mem _ (List.mem_append_left _ (List.mem_of_getElem? (i := 9) rfl))) (List.mem_cons_of_mem _ (List.mem_append_left _ (List.mem_of_getElem? (i := 10) rfl))) (List.mem_cons_of_mem _ (List.mem_append_left _ (List.mem_of_getElem? (i := 2) rfl))) (gi_sub (fun w h => (List.mem_cons_of_mem _ (List.mem_append_right _ (List.mem_append_right _ (List.mem_append_right _ (List.mem_append_right _ (List.mem_append_left _ h))))))) zg_j152_X12_records)) rfl rfl rfl (by decide +kernel) ⟨Nat.le_of_ble_eq_true rfl, Nat.le_of_ble_eq_true rfl⟩ 0 rfl rfl rfl rfl (Nat.le_of_ble_eq_true rfl) ⟨Nat.le_of_ble_eq_true rfl, Nat.le_of_ble_eq_true rfl⟩ dX12_set_95 (fun v ty' w' hp hk' => ?_)
              obtain ⟨I18345, A18345, L18345, hI18345, hA18345, hV18345, rfl, rfl⟩ := hp
              show GW κ 5 0 0 (wM r g I18345 A18345 L18345) 98 [(4, .int 1), (3, .int 0), (0, .ref (r 0)), (1, .int z1), (2, .int z2)] []
              refine g_iconst (v := 1) hk dX12_set_98 (by decide) ?_
              exact g_iret hk hR rfl ⟨I18345, A18345, L18345, (show Md [22] I I18345 from (Md.tr (Md.tr Md.rf hI18336 rfl) hI18345 rfl)), (show Md [17, 18, 22] A A18345 from (Md.tr (Md.up3 (Md.tr Md.rf hA18336 rfl) rfl) hA18345 rfl)), hV18345, 1, (by decide), (by decide), rfl, rfl⟩ dX12_set_99
          · skip
            refine g_iconst (v := 3) hk dX12_set_50 (by decide) ?_
            refine g_goto (tgt := 65) hk dX12_set_51 (by decide) ?_
            refine g_istore (lv' := [(4, .int 3), (3, .int 0), (0, .ref (r 0)), (1, .int z1), (2, .int z2)]) hk dX12_set_65 (by decide) rfl ?_
            refine g_iload_n hk dX12_set_67 rfl ?_
            refine g_iload_n hk dX12_set_68 rfl ?_
            refine g_iload hk dX12_set_69 rfl ?_
            refine g_callS (n := 3) hk (j145_X12_in l D zt r g I A L z2 0 3 hIv) (SP.same _) (fun _ h => h) (gi_S (List.mem_cons_of_mem _ (List.mem_append_left _ (List.mem_of_getElem? (i := 0) rfl))) (List.mem_cons_of_mem _ (List.mem_append_left _ (List.mem_of_getElem? (i := 1) rfl))) (List.mem_cons_of_mem _ (List.mem_append_left _ (List.mem_of_getElem? (i := 2) rfl))) (gi_sub (fun w h => (List.mem_cons_of_mem _ (List.mem_append_right _ (List.mem_append_right _ (List.mem_append_left _ h))))) zg_j145_X12_in)) rfl rfl rfl (by decide +kernel) ⟨Nat.le_of_ble_eq_true rfl, Nat.le_of_ble_eq_true rfl⟩ rfl rfl (Nat.le_of_ble_eq_true rfl) ⟨Nat.le_of_ble_eq_true rfl, Nat.le_of_ble_eq_true rfl⟩ dX12_set_71 (fun v ty' w' hp hk' => ?_)
            rcases hp with ⟨c18346, rfl, rfl⟩ | ⟨c18348, c18349, rfl, rfl⟩
            · skip
              show GW κ 5 0 0 (wM r g I A L) 74 [(4, .int 3), (3, .int 0), (0, .ref (r 0)), (1, .int z1), (2, .int z2)] [.int 0]
              refine g_if_ne (tgt := 79) (a := 0) hk dX12_set_74 (by decide) rfl (fun z9 => absurd z9 (show ¬ ((0 : Int) ≠ (0 : Int)) from by decide)) (fun _ => ?_)
              refine g_iconst (v := 0) hk dX12_set_77 (by decide) ?_
              exact g_iret hk hR rfl ⟨I, A, L, (show Md [22] I I from Md.rf), (show Md [17, 18, 22] A A from Md.rf), hIv, 0, (by decide), (by decide), rfl, rfl⟩ dX12_set_78
            · skip
              show GW κ 5 0 0 (wM r g I A L) 74 [(4, .int 3), (3, .int 0), (0, .ref (r 0)), (1, .int z1), (2, .int z2)] [.int 1]
              refine g_if_ne (tgt := 79) (a := 1) hk dX12_set_74 (by decide) rfl (fun _ => ?_) (fun z9 => absurd (show (1 : Int) ≠ (0 : Int) from by decide) z9)
              refine g_aload_n hk dX12_set_79 rfl ?_
              refine g_callV (n := 0) hk (j151_X12_copies l D zt r g I A L  hIv) (SP.same _) (fun _ h => h) (gi_V (List.mem_cons_of_mem _ (List.mem_append_left _ (List.mem_of_getElem? (i := 4) rfl))) (List.mem_cons_of_mem _ (List.mem_append_left _ (List.mem_of_getElem? (i := 5) rfl))) (List.mem_cons_of_mem _ (List.mem_append_left _ (List.mem_of_getElem? (i := 6) rfl))) (List.mem_cons_of_mem _ (List.mem_append_left _ (List.mem_of_getElem? (i := 2) rfl))) (gi_sub (fun w h => (List.mem_cons_of_mem _ (List.mem_append_right _ (List.mem_append_right _ (List.mem_append_right _ (List.mem_append_left _ h)))))) zg_j151_X12_copies)) rfl rfl rfl (by decide +kernel) ⟨Nat.le_of_ble_eq_true rfl, Nat.le_of_ble_eq_true rfl⟩ 0 rfl rfl rfl rfl (Nat.le_of_ble_eq_true rfl) ⟨Nat.le_of_ble_eq_true rfl, Nat.le_of_ble_eq_true rfl⟩ dX12_set_80 (fun v ty' w' hp hk' => ?_)
              obtain ⟨I18352, A18352, L18352, hI18352, hA18352, hV18352, r18353, r18354, rfl, rfl⟩ := hp
              have f18355 := IvM_s17_0 hIv
              have f18356 := IvM_s17_164 hIv
              show GW κ 5 0 0 (wM r g I18352 A18352 L18352) 83 [(4, .int 3), (3, .int 0), (0, .ref (r 0)), (1, .int z1), (2, .int z2)] []
              refine g_aload_n hk dX12_set_83 rfl ?_
              refine gM_r0_36 hk hin12 (List.mem_cons_of_mem _ (List.mem_append_left _ (List.mem_of_getElem? (i := 7) rfl))) dX12_set_84 ?_
              refine g_sipush (v := 161) hk dX12_set_87 (by decide) ?_
              refine g_iload_n hk dX12_set_90 rfl ?_
              refine g_iadd hk dX12_set_91 ?_
              refine g_topi (fun y18357 ey18357 => ?_)
              have hy18357 : y18357.toInt = 161 + z1.toInt := i32_add ey18357 rfl rfl (by omega) (by omega)
              refine g_iload_n hk dX12_set_92 rfl ?_
              refine sM_18 (j := y18357.toNatClampNeg) hk (vp_in_iff.mpr ⟨by omega, by omega⟩) rfl dX12_set_93 ?_
              have hS18358 : (up3 A18352 18 (y18357.toNatClampNeg) z2) 18 0 = (A18352 18 0) := (up3_ne (by have := cl_int (y := y18357) (by omega); omega)).trans (show A18352 18 0 = (A18352 18 0) from rfl)
              have hS18359 : (up3 A18352 18 (y18357.toNatClampNeg) z2) 18 164 = (A18352 18 164) := (up3_ne (by have := cl_int (y := y18357) (by omega); omega)).trans (show A18352 18 164 = (A18352 18 164) from rfl)
              refine g_aload_n hk dX12_set_94 rfl ?_
              refine g_callV (n := 0) hk (j152_X12_records l D zt r g I18352 (up3 A18352 18 (y18357.toNatClampNeg) z2) L18352  ⟨(IvM_f1 (I := I18352) (A := A18352) hV18352), (IvM_f2 (I := I18352) (A := A18352) hV18352), (IvM_f3 (I := I18352) (A := A18352) hV18352), (IvM_f4 (I := I18352) (A := A18352) hV18352), (IvM_f6 (I := I18352) (A := A18352) hV18352), (IvM_f8 (I := I18352) (A := A18352) hV18352), (IvM_f15 (I := I18352) (A := A18352) hV18352), (IvM_f16 (I := I18352) (A := A18352) hV18352), (IvM_f17 (I := I18352) (A := A18352) hV18352), (IvM_f18 (I := I18352) (A := A18352) hV18352), (IvM_f22 (I := I18352) (A := A18352) hV18352), (IvM_f23 (I := I18352) (A := A18352) hV18352), (IvM_f24 (I := I18352) (A := A18352) hV18352), (IvM_a11 (I := I18352) (A := A18352) hV18352), (IvM_a26 (I := I18352) (A := A18352) hV18352), (IvM_s8_0 (I := I18352) (A := A18352) hV18352), (IvM_s8_1 (I := I18352) (A := A18352) hV18352), (IvM_s10_0 (I := I18352) (A := A18352) hV18352), (IvM_s10_1 (I := I18352) (A := A18352) hV18352), (IvM_s17_0 (I := I18352) (A := A18352) hV18352), (IvM_s17_164 (I := I18352) (A := A18352) hV18352), (IvM_lv (I := I18352) (A := A18352) hV18352), (IvM_sd (I := I18352) (A := A18352) hV18352), (IvM_nq (I := I18352) (A := A18352) hV18352), (IvM_hr (I := I18352) (A := A18352) hV18352), (IvM_hh (I := I18352) (A := A18352) hV18352), trivial⟩ (by first | (rw [show ((up3 A18352 18 (y18357.toNatClampNeg) z2) 18 0) = (A18352 18 0) from hS18358] <;> omega) | omega) (by first | (rw [show ((up3 A18352 18 (y18357.toNatClampNeg) z2) 18 0) = (A18352 18 0) from hS18358] <;> omega) | omega) (by first | (rw [show ((up3 A18352 18 (y18357.toNatClampNeg) z2) 18 164) = (A18352 18 164) from hS18359] <;> omega) | omega)) (SP.same _) (fun _ h => h) (gi_V (List.mem_cons_of_mem _ (List.mem_append_left _ (List.mem_of_getElem? (i := 8) rfl))) (List.mem_cons_of_mem _ (List.mem_append_left _ (List.mem_of_getElem? (i := 9) rfl))) (List.mem_cons_of_mem _ (List.mem_append_left _ (List.mem_of_getElem? (i := 10) rfl))) (List.mem_cons_of_mem _ (List.mem_append_left _ (List.mem_of_getElem? (i := 2) rfl))) (gi_sub (fun w h => (List.mem_cons_of_mem _ (List.mem_append_right _ (List.mem_append_right _ (List.mem_append_right _ (List.mem_append_right _ (List.mem_append_left _ h))))))) zg_j152_X12_records)) rfl rfl rfl (by decide +kernel) ⟨Nat.le_of_ble_eq_true rfl, Nat.le_of_ble_eq_true rfl⟩ 0 rfl rfl rfl rfl (Nat.le_of_ble_eq_true rfl) ⟨Nat.le_of_ble_eq_true rfl, Nat.le_of_ble_eq_true rfl⟩ dX12_set_95 (fun v ty' w' hp hk' => ?_)
              obtain ⟨I18361, A18361, L18361, hI18361, hA18361, hV18361, rfl, rfl⟩ := hp
              show GW κ 5 0 0 (wM r g I18361 A18361 L18361) 98 [(4, .int 3), (3, .int 0), (0, .ref (r 0)), (1, .int z1), (2, .int z2)] []
              refine g_iconst (v := 1) hk dX12_set_98 (by decide) ?_
              exact g_iret hk hR rfl ⟨I18361, A18361, L18361, (show Md [22] I I18361 from (Md.tr (Md.tr Md.rf hI18352 rfl) hI18361 rfl)), (show Md [17, 18, 22] A A18361 from (Md.tr (Md.up3 (Md.tr Md.rf hA18352 rfl) rfl) hA18361 rfl)), hV18361, 1, (by decide), (by decide), rfl, rfl⟩ dX12_set_99
        · skip
          refine g_bipush (v := 15) hk dX12_set_40 (by decide) ?_
          refine g_goto (tgt := 65) hk dX12_set_42 (by decide) ?_
          refine g_istore (lv' := [(4, .int 15), (3, .int 0), (0, .ref (r 0)), (1, .int z1), (2, .int z2)]) hk dX12_set_65 (by decide) rfl ?_
          refine g_iload_n hk dX12_set_67 rfl ?_
          refine g_iload_n hk dX12_set_68 rfl ?_
          refine g_iload hk dX12_set_69 rfl ?_
          have k18362 : (15 : Int32).toInt = 15 := rfl
          refine g_callS (n := 3) hk (j145_X12_in l D zt r g I A L z2 0 15 hIv) (SP.same _) (fun _ h => h) (gi_S (List.mem_cons_of_mem _ (List.mem_append_left _ (List.mem_of_getElem? (i := 0) rfl))) (List.mem_cons_of_mem _ (List.mem_append_left _ (List.mem_of_getElem? (i := 1) rfl))) (List.mem_cons_of_mem _ (List.mem_append_left _ (List.mem_of_getElem? (i := 2) rfl))) (gi_sub (fun w h => (List.mem_cons_of_mem _ (List.mem_append_right _ (List.mem_append_right _ (List.mem_append_left _ h))))) zg_j145_X12_in)) rfl rfl rfl (by decide +kernel) ⟨Nat.le_of_ble_eq_true rfl, Nat.le_of_ble_eq_true rfl⟩ rfl rfl (Nat.le_of_ble_eq_true rfl) ⟨Nat.le_of_ble_eq_true rfl, Nat.le_of_ble_eq_true rfl⟩ dX12_set_71 (fun v ty' w' hp hk' => ?_)
          rcases hp with ⟨c18363, rfl, rfl⟩ | ⟨c18365, c18366, rfl, rfl⟩
          · skip
            show GW κ 5 0 0 (wM r g I A L) 74 [(4, .int 15), (3, .int 0), (0, .ref (r 0)), (1, .int z1), (2, .int z2)] [.int 0]
            refine g_if_ne (tgt := 79) (a := 0) hk dX12_set_74 (by decide) rfl (fun z9 => absurd z9 (show ¬ ((0 : Int) ≠ (0 : Int)) from by decide)) (fun _ => ?_)
            refine g_iconst (v := 0) hk dX12_set_77 (by decide) ?_
            exact g_iret hk hR rfl ⟨I, A, L, (show Md [22] I I from Md.rf), (show Md [17, 18, 22] A A from Md.rf), hIv, 0, (by decide), (by decide), rfl, rfl⟩ dX12_set_78
          · skip
            show GW κ 5 0 0 (wM r g I A L) 74 [(4, .int 15), (3, .int 0), (0, .ref (r 0)), (1, .int z1), (2, .int z2)] [.int 1]
            refine g_if_ne (tgt := 79) (a := 1) hk dX12_set_74 (by decide) rfl (fun _ => ?_) (fun z9 => absurd (show (1 : Int) ≠ (0 : Int) from by decide) z9)
            refine g_aload_n hk dX12_set_79 rfl ?_
            refine g_callV (n := 0) hk (j151_X12_copies l D zt r g I A L  hIv) (SP.same _) (fun _ h => h) (gi_V (List.mem_cons_of_mem _ (List.mem_append_left _ (List.mem_of_getElem? (i := 4) rfl))) (List.mem_cons_of_mem _ (List.mem_append_left _ (List.mem_of_getElem? (i := 5) rfl))) (List.mem_cons_of_mem _ (List.mem_append_left _ (List.mem_of_getElem? (i := 6) rfl))) (List.mem_cons_of_mem _ (List.mem_append_left _ (List.mem_of_getElem? (i := 2) rfl))) (gi_sub (fun w h => (List.mem_cons_of_mem _ (List.mem_append_right _ (List.mem_append_right _ (List.mem_append_right _ (List.mem_append_left _ h)))))) zg_j151_X12_copies)) rfl rfl rfl (by decide +kernel) ⟨Nat.le_of_ble_eq_true rfl, Nat.le_of_ble_eq_true rfl⟩ 0 rfl rfl rfl rfl (Nat.le_of_ble_eq_true rfl) ⟨Nat.le_of_ble_eq_true rfl, Nat.le_of_ble_eq_true rfl⟩ dX12_set_80 (fun v ty' w' hp hk' => ?_)
            obtain ⟨I18369, A18369, L18369, hI18369, hA18369, hV18369, r18370, r18371, rfl, rfl⟩ := hp
            have f18372 := IvM_s17_0 hIv
            have f18373 := IvM_s17_164 hIv
            show GW κ 5 0 0 (wM r g I18369 A18369 L18369) 83 [(4, .int 15), (3, .int 0), (0, .ref (r 0)), (1, .int z1), (2, .int z2)] []
            refine g_aload_n hk dX12_set_83 rfl ?_
            refine gM_r0_36 hk hin12 (List.mem_cons_of_mem _ (List.mem_append_left _ (List.mem_of_getElem? (i := 7) rfl))) dX12_set_84 ?_
            refine g_sipush (v := 161) hk dX12_set_87 (by decide) ?_
            refine g_iload_n hk dX12_set_90 rfl ?_
            refine g_iadd hk dX12_set_91 ?_
            refine g_topi (fun y18374 ey18374 => ?_)
            have hy18374 : y18374.toInt = 161 + z1.toInt := i32_add ey18374 rfl rfl (by omega) (by omega)
            refine g_iload_n hk dX12_set_92 rfl ?_
            refine sM_18 (j := y18374.toNatClampNeg) hk (vp_in_iff.mpr ⟨by omega, by omega⟩) rfl dX12_set_93 ?_
            have hS18375 : (up3 A18369 18 (y18374.toNatClampNeg) z2) 18 0 = (A18369 18 0) := (up3_ne (by have := cl_int (y := y18374) (by omega); omega)).trans (show A18369 18 0 = (A18369 18 0) from rfl)
            have hS18376 : (up3 A18369 18 (y18374.toNatClampNeg) z2) 18 164 = (A18369 18 164) := (up3_ne (by have := cl_int (y := y18374) (by omega); omega)).trans (show A18369 18 164 = (A18369 18 164) from rfl)
            refine g_aload_n hk dX12_set_94 rfl ?_
            refine g_callV (n := 0) hk (j152_X12_records l D zt r g I18369 (up3 A18369 18 (y18374.toNatClampNeg) z2) L18369  ⟨(IvM_f1 (I := I18369) (A := A18369) hV18369), (IvM_f2 (I := I18369) (A := A18369) hV18369), (IvM_f3 (I := I18369) (A := A18369) hV18369), (IvM_f4 (I := I18369) (A := A18369) hV18369), (IvM_f6 (I := I18369) (A := A18369) hV18369), (IvM_f8 (I := I18369) (A := A18369) hV18369), (IvM_f15 (I := I18369) (A := A18369) hV18369), (IvM_f16 (I := I18369) (A := A18369) hV18369), (IvM_f17 (I := I18369) (A := A18369) hV18369), (IvM_f18 (I := I18369) (A := A18369) hV18369), (IvM_f22 (I := I18369) (A := A18369) hV18369), (IvM_f23 (I := I18369) (A := A18369) hV18369), (IvM_f24 (I := I18369) (A := A18369) hV18369), (IvM_a11 (I := I18369) (A := A18369) hV18369), (IvM_a26 (I := I18369) (A := A18369) hV18369), (IvM_s8_0 (I := I18369) (A := A18369) hV18369), (IvM_s8_1 (I := I18369) (A := A18369) hV18369), (IvM_s10_0 (I := I18369) (A := A18369) hV18369), (IvM_s10_1 (I := I18369) (A := A18369) hV18369), (IvM_s17_0 (I := I18369) (A := A18369) hV18369), (IvM_s17_164 (I := I18369) (A := A18369) hV18369), (IvM_lv (I := I18369) (A := A18369) hV18369), (IvM_sd (I := I18369) (A := A18369) hV18369), (IvM_nq (I := I18369) (A := A18369) hV18369), (IvM_hr (I := I18369) (A := A18369) hV18369), (IvM_hh (I := I18369) (A := A18369) hV18369), trivial⟩ (by first | (rw [show ((up3 A18369 18 (y18374.toNatClampNeg) z2) 18 0) = (A18369 18 0) from hS18375] <;> omega) | omega) (by first | (rw [show ((up3 A18369 18 (y18374.toNatClampNeg) z2) 18 0) = (A18369 18 0) from hS18375] <;> omega) | omega) (by first | (rw [show ((up3 A18369 18 (y18374.toNatClampNeg) z2) 18 164) = (A18369 18 164) from hS18376] <;> omega) | omega)) (SP.same _) (fun _ h => h) (gi_V (List.mem_cons_of_mem _ (List.mem_append_left _ (List.mem_of_getElem? (i := 8) rfl))) (List.mem_cons_of_mem _ (List.mem_append_left _ (List.mem_of_getElem? (i := 9) rfl))) (List.mem_cons_of_mem _ (List.mem_append_left _ (List.mem_of_getElem? (i := 10) rfl))) (List.mem_cons_of_mem _ (List.mem_append_left _ (List.mem_of_getElem? (i := 2) rfl))) (gi_sub (fun w h => (List.mem_cons_of_mem _ (List.mem_append_right _ (List.mem_append_right _ (List.mem_append_right _ (List.mem_append_right _ (List.mem_append_left _ h))))))) zg_j152_X12_records)) rfl rfl rfl (by decide +kernel) ⟨Nat.le_of_ble_eq_true rfl, Nat.le_of_ble_eq_true rfl⟩ 0 rfl rfl rfl rfl (Nat.le_of_ble_eq_true rfl) ⟨Nat.le_of_ble_eq_true rfl, Nat.le_of_ble_eq_true rfl⟩ dX12_set_95 (fun v ty' w' hp hk' => ?_)
            obtain ⟨I18378, A18378, L18378, hI18378, hA18378, hV18378, rfl, rfl⟩ := hp
            show GW κ 5 0 0 (wM r g I18378 A18378 L18378) 98 [(4, .int 15), (3, .int 0), (0, .ref (r 0)), (1, .int z1), (2, .int z2)] []
            refine g_iconst (v := 1) hk dX12_set_98 (by decide) ?_
            exact g_iret hk hR rfl ⟨I18378, A18378, L18378, (show Md [22] I I18378 from (Md.tr (Md.tr Md.rf hI18369 rfl) hI18378 rfl)), (show Md [17, 18, 22] A A18378 from (Md.tr (Md.up3 (Md.tr Md.rf hA18369 rfl) rfl) hA18378 rfl)), hV18378, 1, (by decide), (by decide), rfl, rfl⟩ dX12_set_99
      · skip
        refine g_iconst (v := 1) hk dX12_set_30 (by decide) ?_
        refine g_goto (tgt := 35) hk dX12_set_31 (by decide) ?_
        refine g_istore_n (lv' := [(3, .int 1), (0, .ref (r 0)), (1, .int z1), (2, .int z2)]) hk dX12_set_35 (by decide) rfl ?_
        refine g_iload_n hk dX12_set_36 rfl ?_
        refine g_if_ne (tgt := 45) (a := z1.toInt) hk dX12_set_37 (by decide) rfl (fun _ => ?_) (fun z9 => absurd (show z1.toInt ≠ 0 from by omega) z9)
        refine g_iload_n hk dX12_set_45 rfl ?_
        refine g_iconst (v := 1) hk dX12_set_46 (by decide) ?_
        refine g_icmp_ne (tgt := 54) (a := z1.toInt) (b := 1) hk dX12_set_47 (by decide) rfl rfl (fun _ => ?_) (fun z9 => absurd (show z1.toInt ≠ 1 from by omega) z9)
        refine g_iload_n hk dX12_set_54 rfl ?_
        refine g_iconst (v := 2) hk dX12_set_55 (by decide) ?_
        refine g_icmp_ne (tgt := 63) (a := z1.toInt) (b := 2) hk dX12_set_56 (by decide) rfl rfl (fun _ => ?_) (fun z9 => absurd (show z1.toInt ≠ 2 from by omega) z9)
        refine g_bipush (v := 99) hk dX12_set_63 (by decide) ?_
        refine g_istore (lv' := [(4, .int 99), (3, .int 1), (0, .ref (r 0)), (1, .int z1), (2, .int z2)]) hk dX12_set_65 (by decide) rfl ?_
        refine g_iload_n hk dX12_set_67 rfl ?_
        refine g_iload_n hk dX12_set_68 rfl ?_
        refine g_iload hk dX12_set_69 rfl ?_
        have k18379 : (1 : Int32).toInt = 1 := rfl
        have k18380 : (99 : Int32).toInt = 99 := rfl
        refine g_callS (n := 3) hk (j145_X12_in l D zt r g I A L z2 1 99 hIv) (SP.same _) (fun _ h => h) (gi_S (List.mem_cons_of_mem _ (List.mem_append_left _ (List.mem_of_getElem? (i := 0) rfl))) (List.mem_cons_of_mem _ (List.mem_append_left _ (List.mem_of_getElem? (i := 1) rfl))) (List.mem_cons_of_mem _ (List.mem_append_left _ (List.mem_of_getElem? (i := 2) rfl))) (gi_sub (fun w h => (List.mem_cons_of_mem _ (List.mem_append_right _ (List.mem_append_right _ (List.mem_append_left _ h))))) zg_j145_X12_in)) rfl rfl rfl (by decide +kernel) ⟨Nat.le_of_ble_eq_true rfl, Nat.le_of_ble_eq_true rfl⟩ rfl rfl (Nat.le_of_ble_eq_true rfl) ⟨Nat.le_of_ble_eq_true rfl, Nat.le_of_ble_eq_true rfl⟩ dX12_set_71 (fun v ty' w' hp hk' => ?_)
        rcases hp with ⟨c18381, rfl, rfl⟩ | ⟨c18383, c18384, rfl, rfl⟩
        · skip
          show GW κ 5 0 0 (wM r g I A L) 74 [(4, .int 99), (3, .int 1), (0, .ref (r 0)), (1, .int z1), (2, .int z2)] [.int 0]
          refine g_if_ne (tgt := 79) (a := 0) hk dX12_set_74 (by decide) rfl (fun z9 => absurd z9 (show ¬ ((0 : Int) ≠ (0 : Int)) from by decide)) (fun _ => ?_)
          refine g_iconst (v := 0) hk dX12_set_77 (by decide) ?_
          exact g_iret hk hR rfl ⟨I, A, L, (show Md [22] I I from Md.rf), (show Md [17, 18, 22] A A from Md.rf), hIv, 0, (by decide), (by decide), rfl, rfl⟩ dX12_set_78
        · skip
          show GW κ 5 0 0 (wM r g I A L) 74 [(4, .int 99), (3, .int 1), (0, .ref (r 0)), (1, .int z1), (2, .int z2)] [.int 1]
          refine g_if_ne (tgt := 79) (a := 1) hk dX12_set_74 (by decide) rfl (fun _ => ?_) (fun z9 => absurd (show (1 : Int) ≠ (0 : Int) from by decide) z9)
          refine g_aload_n hk dX12_set_79 rfl ?_
          refine g_callV (n := 0) hk (j151_X12_copies l D zt r g I A L  hIv) (SP.same _) (fun _ h => h) (gi_V (List.mem_cons_of_mem _ (List.mem_append_left _ (List.mem_of_getElem? (i := 4) rfl))) (List.mem_cons_of_mem _ (List.mem_append_left _ (List.mem_of_getElem? (i := 5) rfl))) (List.mem_cons_of_mem _ (List.mem_append_left _ (List.mem_of_getElem? (i := 6) rfl))) (List.mem_cons_of_mem _ (List.mem_append_left _ (List.mem_of_getElem? (i := 2) rfl))) (gi_sub (fun w h => (List.mem_cons_of_mem _ (List.mem_append_right _ (List.mem_append_right _ (List.mem_append_right _ (List.mem_append_left _ h)))))) zg_j151_X12_copies)) rfl rfl rfl (by decide +kernel) ⟨Nat.le_of_ble_eq_true rfl, Nat.le_of_ble_eq_true rfl⟩ 0 rfl rfl rfl rfl (Nat.le_of_ble_eq_true rfl) ⟨Nat.le_of_ble_eq_true rfl, Nat.le_of_ble_eq_true rfl⟩ dX12_set_80 (fun v ty' w' hp hk' => ?_)
          obtain ⟨I18387, A18387, L18387, hI18387, hA18387, hV18387, r18388, r18389, rfl, rfl⟩ := hp
          have f18390 := IvM_s17_0 hIv
          have f18391 := IvM_s17_164 hIv
          show GW κ 5 0 0 (wM r g I18387 A18387 L18387) 83 [(4, .int 99), (3, .int 1), (0, .ref (r 0)), (1, .int z1), (2, .int z2)] []
          refine g_aload_n hk dX12_set_83 rfl ?_
          refine gM_r0_36 hk hin12 (List.mem_cons_of_mem _ (List.mem_append_left _ (List.mem_of_getElem? (i := 7) rfl))) dX12_set_84 ?_
          refine g_sipush (v := 161) hk dX12_set_87 (by decide) ?_
          refine g_iload_n hk dX12_set_90 rfl ?_
          refine g_iadd hk dX12_set_91 ?_
          refine g_topi (fun y18392 ey18392 => ?_)
          have hy18392 : y18392.toInt = 161 + z1.toInt := i32_add ey18392 rfl rfl (by omega) (by omega)
          refine g_iload_n hk dX12_set_92 rfl ?_
          refine sM_18 (j := y18392.toNatClampNeg) hk (vp_in_iff.mpr ⟨by omega, by omega⟩) rfl dX12_set_93 ?_
          have hS18393 : (up3 A18387 18 (y18392.toNatClampNeg) z2) 18 0 = (A18387 18 0) := (up3_ne (by have := cl_int (y := y18392) (by omega); omega)).trans (show A18387 18 0 = (A18387 18 0) from rfl)
          have hS18394 : (up3 A18387 18 (y18392.toNatClampNeg) z2) 18 164 = z2 := up3_at (by have := cl_int (y := y18392) (by omega); omega)
          refine g_aload_n hk dX12_set_94 rfl ?_
          refine g_callV (n := 0) hk (j152_X12_records l D zt r g I18387 (up3 A18387 18 (y18392.toNatClampNeg) z2) L18387  ⟨(IvM_f1 (I := I18387) (A := A18387) hV18387), (IvM_f2 (I := I18387) (A := A18387) hV18387), (IvM_f3 (I := I18387) (A := A18387) hV18387), (IvM_f4 (I := I18387) (A := A18387) hV18387), (IvM_f6 (I := I18387) (A := A18387) hV18387), (IvM_f8 (I := I18387) (A := A18387) hV18387), (IvM_f15 (I := I18387) (A := A18387) hV18387), (IvM_f16 (I := I18387) (A := A18387) hV18387), (IvM_f17 (I := I18387) (A := A18387) hV18387), (IvM_f18 (I := I18387) (A := A18387) hV18387), (IvM_f22 (I := I18387) (A := A18387) hV18387), (IvM_f23 (I := I18387) (A := A18387) hV18387), (IvM_f24 (I := I18387) (A := A18387) hV18387), (IvM_a11 (I := I18387) (A := A18387) hV18387), (IvM_a26 (I := I18387) (A := A18387) hV18387), (IvM_s8_0 (I := I18387) (A := A18387) hV18387), (IvM_s8_1 (I := I18387) (A := A18387) hV18387), (IvM_s10_0 (I := I18387) (A := A18387) hV18387), (IvM_s10_1 (I := I18387) (A := A18387) hV18387), (IvM_s17_0 (I := I18387) (A := A18387) hV18387), (IvM_s17_164 (I := I18387) (A := A18387) hV18387), (IvM_lv (I := I18387) (A := A18387) hV18387), (IvM_sd (I := I18387) (A := A18387) hV18387), (IvM_nq (I := I18387) (A := A18387) hV18387), (IvM_hr (I := I18387) (A := A18387) hV18387), (IvM_hh (I := I18387) (A := A18387) hV18387), trivial⟩ (by first | (rw [show ((up3 A18387 18 (y18392.toNatClampNeg) z2) 18 0) = (A18387 18 0) from hS18393] <;> omega) | omega) (by first | (rw [show ((up3 A18387 18 (y18392.toNatClampNeg) z2) 18 0) = (A18387 18 0) from hS18393] <;> omega) | omega) (by first | (rw [show ((up3 A18387 18 (y18392.toNatClampNeg) z2) 18 164) = z2 from hS18394] <;> omega) | omega)) (SP.same _) (fun _ h => h) (gi_V (List.mem_cons_of_mem _ (List.mem_append_left _ (List.mem_of_getElem? (i := 8) rfl))) (List.mem_cons_of_mem _ (List.mem_append_left _ (List.mem_of_getElem? (i := 9) rfl))) (List.mem_cons_of_mem _ (List.mem_append_left _ (List.mem_of_getElem? (i := 10) rfl))) (List.mem_cons_of_mem _ (List.mem_append_left _ (List.mem_of_getElem? (i := 2) rfl))) (gi_sub (fun w h => (List.mem_cons_of_mem _ (List.mem_append_right _ (List.mem_append_right _ (List.mem_append_right _ (List.mem_append_right _ (List.mem_append_left _ h))))))) zg_j152_X12_records)) rfl rfl rfl (by decide +kernel) ⟨Nat.le_of_ble_eq_true rfl, Nat.le_of_ble_eq_true rfl⟩ 0 rfl rfl rfl rfl (Nat.le_of_ble_eq_true rfl) ⟨Nat.le_of_ble_eq_true rfl, Nat.le_of_ble_eq_true rfl⟩ dX12_set_95 (fun v ty' w' hp hk' => ?_)
          obtain ⟨I18396, A18396, L18396, hI18396, hA18396, hV18396, rfl, rfl⟩ := hp
          show GW κ 5 0 0 (wM r g I18396 A18396 L18396) 98 [(4, .int 99), (3, .int 1), (0, .ref (r 0)), (1, .int z1), (2, .int z2)] []
          refine g_iconst (v := 1) hk dX12_set_98 (by decide) ?_
          exact g_iret hk hR rfl ⟨I18396, A18396, L18396, (show Md [22] I I18396 from (Md.tr (Md.tr Md.rf hI18387 rfl) hI18396 rfl)), (show Md [17, 18, 22] A A18396 from (Md.tr (Md.up3 (Md.tr Md.rf hA18387 rfl) rfl) hA18396 rfl)), hV18396, 1, (by decide), (by decide), rfl, rfl⟩ dX12_set_99
    · skip
      refine g_iconst (v := 0) hk dX12_set_23 (by decide) ?_
      exact g_iret hk hR rfl ⟨I, A, L, (show Md [22] I I from Md.rf), (show Md [17, 18, 22] A A from Md.rf), hIv, 0, (by decide), (by decide), rfl, rfl⟩ dX12_set_24
def wo_j158_X12_undo : List Cond := [Cond.fieldLink RX12 209 "WarpDeskModel" "undos" "I", Cond.fieldLink RX12 70 "WarpDeskModel" "now" "[I", Cond.fieldLink RX12 85 "WarpDeskModel" "history" "[I"]
def wz_j158_X12_undo : List Cond := .code yX12_undo cX12_undo 2 (some .boolean) :: (wo_j158_X12_undo ++ (wsX120 ++ ([] : List Cond)))
theorem zg_j158_X12_undo : ∀ w ∈ wz_j158_X12_undo, goodWord w = true := zg_cons rfl (zg_app (by decide +kernel) (zg_app zgU_wsX120 zg_nil))
theorem zi_j158_X12_undo : ∀ w ∈ wz_j158_X12_undo, w ∈ lw_tbl := zi_cons zw_1709 (zi_app (zi_cons zw_1422 (zi_cons zw_1413 (zi_cons zw_1423 zi_nil))) (zi_app inX12 zi_nil))
set_option maxHeartbeats 4000000 in
set_option maxRecDepth 100000 in
theorem j158_X12_undo (l : Launch) (D : va_G) (zt : Nat × Nat × Nat × (Nat → Nat) × (Nat → Nat)) (r : Nat → Nat) (g : Nat → ClassId) (I : Nat → Int32) (A : Nat → Nat → Int32) (L : Nat → Nat → Int64) (hIv : IvM I A) : GM l D zt (tyM g) yX12_undo wz_j158_X12_undo ({ frames := 0, cells := 0, slots := 0, locals := 0 } : Room) [.ref (r 0)] (wM r g I A L) (fun v _ w' => ∃ (I' : Nat → Int32) (A' : Nat → Nat → Int32) (L' : Nat → Nat → Int64), Md [22] I I' ∧ Md [17] A A' ∧ IvM I' A' ∧ ∃ y0 : Int32, (0 ≤ y0.toInt) ∧ (y0.toInt ≤ 1) ∧ v = some (.int y0) ∧ w' = wM r g I' A' L') 0 0 := by
  refine GM.of (cc := cX12_undo) (maxL := 2) (ret := (some .boolean)) (own := RX12) (lv := [(0, .ref (r 0))]) (by decide) rfl rfl (Nat.le_of_ble_eq_true rfl) rfl (fun κ sz hk hR hN => ?_)
  have hin12 : ∀ w ∈ u_ws RX12 TX12 55, w ∈ wz_j158_X12_undo := fun w h => (List.mem_cons_of_mem _ (List.mem_append_right _ (List.mem_append_left _ h)))
  refine g_aload_n hk dX12_undo_0 rfl ?_
  refine gM_i22 (v := (I 22)) hk hin12 (List.mem_cons_of_mem _ (List.mem_append_left _ (List.mem_of_getElem? (i := 0) rfl))) dX12_undo_1 rfl ?_
  have f18397 := IvM_f22 hIv
  refine g_if_ne (tgt := 9) (a := (I 22).toInt) hk dX12_undo_4 (by decide) rfl (fun c18398 => ?_) (fun c18398 => ?_)
  · skip
    refine g_aload_n hk dX12_undo_9 rfl ?_
    refine g_dup hk dX12_undo_10 rfl ?_
    refine gM_i22 (v := (I 22)) hk hin12 (List.mem_cons_of_mem _ (List.mem_append_left _ (List.mem_of_getElem? (i := 0) rfl))) dX12_undo_11 rfl ?_
    refine g_iconst (v := 1) hk dX12_undo_14 (by decide) ?_
    refine g_isub hk dX12_undo_15 ?_
    refine g_topi (fun y18399 ey18399 => ?_)
    have hy18399 : y18399.toInt = (I 22).toInt - 1 := i32_sub ey18399 rfl rfl (by omega) (by omega)
    refine pM_i22 hk hin12 (List.mem_cons_of_mem _ (List.mem_append_left _ (List.mem_of_getElem? (i := 0) rfl))) dX12_undo_16 ?_
    refine g_iconst (v := 0) hk dX12_undo_19 (by decide) ?_
    refine g_istore_n (lv' := [(1, .int 0), (0, .ref (r 0))]) hk dX12_undo_20 (by decide) rfl ?_
    have lp18400 : ∀ (n18402 k18401 : Nat), k18401 + n18402 = 165 → GW κ 2 0 0 (wM r g (upd I 22 y18399) (up2 A 17 (cpo (fun k => A 22 (165 * y18399.toNatClampNeg + k)) (A 17) 0 k18401)) L) 21 [(1, .int (nI k18401)), (0, .ref (r 0))] [] := by
      intro n18402
      induction n18402 with
      | zero =>
        intro k18401 hk18401
        obtain rfl : k18401 = 165 := by omega
        show GW κ 2 0 0 (wM r g (upd I 22 y18399) (up2 A 17 (cpo (fun k => A 22 (165 * y18399.toNatClampNeg + k)) (A 17) 0 165)) L) 21 [(1, .int 165), (0, .ref (r 0))] []
        refine g_iload_n hk dX12_undo_21 rfl ?_
        refine g_sipush (v := 165) hk dX12_undo_22 (by decide) ?_
        refine g_icmp_ge (tgt := 55) (a := 165) (b := 165) hk dX12_undo_25 (by decide) rfl rfl (fun _ => ?_) (fun z9 => absurd (show (165 : Int) ≤ (165 : Int) from by decide) z9)
        refine g_iconst (v := 1) hk dX12_undo_55 (by decide) ?_
        have q18405 := cl_int (y := y18399) (by omega)
        have hw18406 := (IvM_hr (I := I) (A := A) hIv) (y18399.toNatClampNeg) (by omega)
        have g18407 : 0 ≤ (A 22 (165 * y18399.toNatClampNeg + 0)).toInt ∧ (A 22 (165 * y18399.toNatClampNeg + 0)).toInt ≤ 160 := hw18406.1
        have g18408 : 1 ≤ (A 22 (165 * y18399.toNatClampNeg + 164)).toInt := hw18406.2
        have g18409 := Int32.toInt_lt (A 22 (165 * y18399.toNatClampNeg + 164))
        exact g_iret hk hR rfl ⟨(upd I 22 y18399), (up2 A 17 (cpo (fun k => A 22 (165 * y18399.toNatClampNeg + k)) (A 17) 0 165)), L, (show Md [22] I (upd I 22 y18399) from (Md.up Md.rf rfl)), (show Md [17] A (up2 A 17 (cpo (fun k => A 22 (165 * y18399.toNatClampNeg + k)) (A 17) 0 165)) from (Md.up2 Md.rf rfl)), ⟨(IvM_f1 (I := I) (A := A) hIv), (IvM_f2 (I := I) (A := A) hIv), (IvM_f3 (I := I) (A := A) hIv), (IvM_f4 (I := I) (A := A) hIv), (IvM_f6 (I := I) (A := A) hIv), (IvM_f8 (I := I) (A := A) hIv), (IvM_f15 (I := I) (A := A) hIv), (IvM_f16 (I := I) (A := A) hIv), (IvM_f17 (I := I) (A := A) hIv), (IvM_f18 (I := I) (A := A) hIv), (show 0 ≤ y18399.toInt ∧ y18399.toInt ≤ 40 from ⟨by omega, by omega⟩), (IvM_f23 (I := I) (A := A) hIv), (IvM_f24 (I := I) (A := A) hIv), (IvM_a11 (I := I) (A := A) hIv), (IvM_a26 (I := I) (A := A) hIv), (IvM_s8_0 (I := I) (A := A) hIv), (IvM_s8_1 (I := I) (A := A) hIv), (IvM_s10_0 (I := I) (A := A) hIv), (IvM_s10_1 (I := I) (A := A) hIv), (show 0 ≤ ((up2 A 17 (cpo (fun k => A 22 (165 * y18399.toNatClampNeg + k)) (A 17) 0 165)) 17 0).toInt ∧ ((up2 A 17 (cpo (fun k => A 22 (165 * y18399.toNatClampNeg + k)) (A 17) 0 165)) 17 0).toInt ≤ 160 from by rw [show (up2 A 17 (cpo (fun k => A 22 (165 * y18399.toNatClampNeg + k)) (A 17) 0 165)) 17 0 = (A 22 (165 * y18399.toNatClampNeg + 0)) from rfl]; exact ⟨by omega, by omega⟩), (show 1 ≤ ((up2 A 17 (cpo (fun k => A 22 (165 * y18399.toNatClampNeg + k)) (A 17) 0 165)) 17 164).toInt ∧ ((up2 A 17 (cpo (fun k => A 22 (165 * y18399.toNatClampNeg + k)) (A 17) 0 165)) 17 164).toInt ≤ 2147483647 from by rw [show (up2 A 17 (cpo (fun k => A 22 (165 * y18399.toNatClampNeg + k)) (A 17) 0 165)) 17 164 = (A 22 (165 * y18399.toNatClampNeg + 164)) from rfl]; exact ⟨by omega, by omega⟩), (IvM_lv (I := I) (A := A) hIv), (IvM_sd (I := I) (A := A) hIv), (IvM_nq (I := I) (A := A) hIv), (fun j hj => (IvM_hr (I := I) (A := A) hIv) j (by have hj : (j : Int) < y18399.toInt := hj; omega)), (IvM_hh (I := I) (A := A) hIv), trivial⟩, 1, (by decide), (by decide), rfl, rfl⟩ dX12_undo_56
      | succ n18402 ih18404 =>
        intro k18401 hk18401
        obtain ⟨x18403, ex18403⟩ : ∃ x : Int32, x = nI k18401 := ⟨_, rfl⟩
        have hx18403 : x18403.toInt = (k18401 : Int) := by rw [ex18403]; exact nI_toInt (by omega)
        have cx18403 : x18403.toNatClampNeg = k18401 := cl_nat hx18403
        rw [← ex18403]
        have q18410 := cl_int (y := y18399) (by omega)
        refine g_iload_n hk dX12_undo_21 rfl ?_
        refine g_sipush (v := 165) hk dX12_undo_22 (by decide) ?_
        refine g_icmp_ge (tgt := 55) (a := x18403.toInt) (b := 165) hk dX12_undo_25 (by decide) rfl rfl (fun z9 => absurd z9 (show ¬ (165 ≤ x18403.toInt) from by omega)) (fun _ => ?_)
        refine g_aload_n hk dX12_undo_28 rfl ?_
        refine gM_r0_35 hk hin12 (List.mem_cons_of_mem _ (List.mem_append_left _ (List.mem_of_getElem? (i := 1) rfl))) dX12_undo_29 ?_
        refine g_iload_n hk dX12_undo_32 rfl ?_
        refine g_aload_n hk dX12_undo_33 rfl ?_
        refine gM_r0_45 hk hin12 (List.mem_cons_of_mem _ (List.mem_append_left _ (List.mem_of_getElem? (i := 2) rfl))) dX12_undo_34 ?_
        refine g_sipush (v := 165) hk dX12_undo_37 (by decide) ?_
        refine g_aload_n hk dX12_undo_40 rfl ?_
        refine gM_i22 (v := y18399) hk hin12 (List.mem_cons_of_mem _ (List.mem_append_left _ (List.mem_of_getElem? (i := 0) rfl))) dX12_undo_41 rfl ?_
        refine g_imul hk dX12_undo_44 ?_
        refine g_topi (fun y18411 ey18411 => ?_)
        have hy18411 : y18411.toInt = 165 * y18399.toInt := i32_mul ey18411 rfl rfl (by omega) (by omega)
        refine g_iload_n hk dX12_undo_45 rfl ?_
        refine g_iadd hk dX12_undo_46 ?_
        refine g_topi (fun y18412 ey18412 => ?_)
        have hy18412 : y18412.toInt = y18411.toInt + x18403.toInt := i32_add ey18412 rfl rfl (by omega) (by omega)
        refine lM_22 (v := (A 22 y18412.toNatClampNeg)) hk (vp_in_iff.mpr ⟨by omega, by omega⟩) rfl dX12_undo_47 ?_
        refine sM_17 (j := x18403.toNatClampNeg) hk (vp_in_iff.mpr ⟨by omega, by omega⟩) rfl dX12_undo_48 ?_
        obtain ⟨y18413, ey18413⟩ : ∃ y : Int32, y = x18403 + Int32.ofInt 1 := ⟨_, rfl⟩
        have hy18413 : y18413.toInt = x18403.toInt + 1 := i32_add ey18413 rfl (by decide) (by omega) (by omega)
        refine g_iinc (v := y18413) (lv' := [(1, .int y18413), (0, .ref (r 0))]) hk 0 dX12_undo_49 rfl ey18413.symm (by decide) rfl ?_
        refine g_goto (tgt := 21) hk dX12_undo_52 (by decide) ?_
        have q18414 := cl_int (y := y18412) (by omega)
        have q18415 := cl_int (y := x18403) (by omega)
        have eW : (up3 (up2 A 17 (cpo (fun k => A 22 (165 * y18399.toNatClampNeg + k)) (A 17) 0 k18401)) 17 (x18403.toNatClampNeg) (A 22 y18412.toNatClampNeg)) = (up2 A 17 (cpo (fun k => A 22 (165 * y18399.toNatClampNeg + k)) (A 17) 0 (k18401 + 1))) := cpo_st (by omega) (show (A 22 y18412.toNatClampNeg) = (A 22 (165 * y18399.toNatClampNeg + k18401)) from by rw [show y18412.toNatClampNeg = 165 * y18399.toNatClampNeg + k18401 from by omega])
        have fy : y18413 = nI (k18401 + 1) := nI_of_toInt (by omega) (by omega)
        rw [eW, fy]
        exact g_lv (List.forall_mem_cons.mpr ⟨List.mem_of_getElem? (i := 0) rfl, (List.forall_mem_cons.mpr ⟨List.mem_of_getElem? (i := 1) rfl, (fun _ h => absurd h List.not_mem_nil)⟩)⟩) (ih18404 (k18401 + 1) (by omega))
    have lp18400e := lp18400 165 0 (by omega)
    rw [cpo_0] at lp18400e
    exact lp18400e
  · skip
    refine g_iconst (v := 0) hk dX12_undo_7 (by decide) ?_
    exact g_iret hk hR rfl ⟨I, A, L, (show Md [22] I I from Md.rf), (show Md [17] A A from Md.rf), hIv, 0, (by decide), (by decide), rfl, rfl⟩ dX12_undo_8
def wo_j160_X12_isWindow : List Cond := [Cond.fieldLink RX12 70 "WarpDeskModel" "now" "[I", Cond.constant RX12 239 (100000)]
def wz_j160_X12_isWindow : List Cond := .code yX12_isWindow cX12_isWindow 4 (some .boolean) :: (wo_j160_X12_isWindow ++ (wsX120 ++ ([] : List Cond)))
theorem zg_j160_X12_isWindow : ∀ w ∈ wz_j160_X12_isWindow, goodWord w = true := zg_cons rfl (zg_app (by decide +kernel) (zg_app zgU_wsX120 zg_nil))
theorem zi_j160_X12_isWindow : ∀ w ∈ wz_j160_X12_isWindow, w ∈ lw_tbl := zi_cons zw_1717 (zi_app (zi_cons zw_1413 (zi_cons zw_1607 zi_nil)) (zi_app inX12 zi_nil))
set_option maxHeartbeats 4000000 in
set_option maxRecDepth 100000 in
theorem j160_X12_isWindow (l : Launch) (D : va_G) (zt : Nat × Nat × Nat × (Nat → Nat) × (Nat → Nat)) (r : Nat → Nat) (g : Nat → ClassId) (I : Nat → Int32) (A : Nat → Nat → Int32) (L : Nat → Nat → Int64) (z1 : Int32) (z2 : Int32) (hIv : IvM I A) : GM l D zt (tyM g) yX12_isWindow wz_j160_X12_isWindow ({ frames := 0, cells := 0, slots := 0, locals := 0 } : Room) [.ref (r 0), .int z1, .int z2] (wM r g I A L) (fun v _ w' => (v = some (.int 0) ∧ w' = wM r g I A L) ∨ ((¬ (z1.toInt < 0)) ∧ (¬ (z2.toInt < 1)) ∧ (0 ≤ z1.toInt) ∧ (z1.toInt ≤ 159) ∧ (1 ≤ z2.toInt) ∧ (z2.toInt ≤ 160) ∧ (z1.toInt + z2.toInt ≤ 160) ∧ v = some (.int 1) ∧ w' = wM r g I A L)) 0 0 := by
  refine GM.of (cc := cX12_isWindow) (maxL := 4) (ret := (some .boolean)) (own := RX12) (lv := [(0, .ref (r 0)), (1, .int z1), (2, .int z2)]) (by decide) rfl rfl (Nat.le_of_ble_eq_true rfl) rfl (fun κ sz hk hR hN => ?_)
  have hin12 : ∀ w ∈ u_ws RX12 TX12 55, w ∈ wz_j160_X12_isWindow := fun w h => (List.mem_cons_of_mem _ (List.mem_append_right _ (List.mem_append_left _ h)))
  refine g_iload_n hk dX12_isWindow_0 rfl ?_
  have b18416l := Int32.le_toInt z1
  have b18416h := Int32.toInt_lt z1
  refine g_if_lt (tgt := 21) (a := z1.toInt) hk dX12_isWindow_1 (by decide) rfl (fun c18417 => ?_) (fun c18417 => ?_)
  · skip
    refine g_iconst (v := 0) hk dX12_isWindow_21 (by decide) ?_
    exact g_iret hk hR rfl (Or.inl ⟨rfl, rfl⟩) dX12_isWindow_22
  · skip
    refine g_iload_n hk dX12_isWindow_4 rfl ?_
    refine g_iconst (v := 1) hk dX12_isWindow_5 (by decide) ?_
    have b18418l := Int32.le_toInt z2
    have b18418h := Int32.toInt_lt z2
    refine g_icmp_lt (tgt := 21) (a := z2.toInt) (b := 1) hk dX12_isWindow_6 (by decide) rfl rfl (fun c18419 => ?_) (fun c18419 => ?_)
    · skip
      refine g_iconst (v := 0) hk dX12_isWindow_21 (by decide) ?_
      exact g_iret hk hR rfl (Or.inl ⟨rfl, rfl⟩) dX12_isWindow_22
    · skip
      refine g_iload_n hk dX12_isWindow_9 rfl ?_
      refine g_aload_n hk dX12_isWindow_10 rfl ?_
      refine gM_r0_35 hk hin12 (List.mem_cons_of_mem _ (List.mem_append_left _ (List.mem_of_getElem? (i := 0) rfl))) dX12_isWindow_11 ?_
      refine g_iconst (v := 0) hk dX12_isWindow_14 (by decide) ?_
      refine lM_17 (v := (A 17 0)) hk (vp_in_iff.mpr ⟨by decide, by decide⟩) rfl dX12_isWindow_15 ?_
      have f18420 := IvM_s17_0 hIv
      refine g_iload_n hk dX12_isWindow_16 rfl ?_
      refine g_isub hk dX12_isWindow_17 ?_
      refine g_topi (fun y18421 ey18421 => ?_)
      have hy18421 : y18421.toInt = (A 17 0).toInt - z2.toInt := i32_sub ey18421 rfl rfl (by omega) (by omega)
      refine g_icmp_le (tgt := 23) (a := z1.toInt) (b := y18421.toInt) hk dX12_isWindow_18 (by decide) rfl rfl (fun c18422 => ?_) (fun c18422 => ?_)
      · skip
        refine g_iload_n hk dX12_isWindow_23 rfl ?_
        refine g_istore_n (lv' := [(3, .int z1), (0, .ref (r 0)), (1, .int z1), (2, .int z2)]) hk dX12_isWindow_24 (by decide) rfl ?_
        have lp18436 : ∀ (n18437 : Nat) (x18423 : Int32), (0 ≤ x18423.toInt) → (x18423.toInt ≤ 160) → (161 - x18423.toInt < (n18437 : Int)) → (0 < n18437) → GW κ 4 0 0 (wM r g I A L) 25 [(3, .int x18423), (0, .ref (r 0)), (1, .int z1), (2, .int z2)] [] := by
          intro n18437
          induction n18437 with
          | zero =>
            intro x18423 h18434 h18435 m18438 m18438z
            exact absurd m18438z (Nat.lt_irrefl 0)
          | succ n18437 ih18439 =>
            intro x18423 h18434 h18435 m18438 m18438z
            refine g_iload_n hk dX12_isWindow_25 rfl ?_
            refine g_iload_n hk dX12_isWindow_26 rfl ?_
            refine g_iload_n hk dX12_isWindow_27 rfl ?_
            refine g_iadd hk dX12_isWindow_28 ?_
            refine g_topi (fun y18440 ey18440 => ?_)
            have hy18440 : y18440.toInt = z1.toInt + z2.toInt := i32_add ey18440 rfl rfl (by omega) (by omega)
            refine g_icmp_ge (tgt := 53) (a := x18423.toInt) (b := y18440.toInt) hk dX12_isWindow_29 (by decide) rfl rfl (fun c18441 => ?_) (fun c18441 => ?_)
            · skip
              refine g_iconst (v := 1) hk dX12_isWindow_53 (by decide) ?_
              exact g_iret hk hR rfl (Or.inr (⟨c18417, c18419, (by omega), (by omega), (by omega), (by omega), (by omega), rfl, rfl⟩)) dX12_isWindow_54
            · skip
              refine g_aload_n hk dX12_isWindow_32 rfl ?_
              refine gM_r0_35 hk hin12 (List.mem_cons_of_mem _ (List.mem_append_left _ (List.mem_of_getElem? (i := 0) rfl))) dX12_isWindow_33 ?_
              refine g_iconst (v := 1) hk dX12_isWindow_36 (by decide) ?_
              refine g_iload_n hk dX12_isWindow_37 rfl ?_
              refine g_iadd hk dX12_isWindow_38 ?_
              refine g_topi (fun y18442 ey18442 => ?_)
              have hy18442 : y18442.toInt = 1 + x18423.toInt := i32_add ey18442 rfl rfl (by omega) (by omega)
              refine lM_17 (v := (A 17 y18442.toNatClampNeg)) hk (vp_in_iff.mpr ⟨by omega, by omega⟩) rfl dX12_isWindow_39 ?_
              refine g_ldc (v := 100000) hk (List.mem_cons_of_mem _ (List.mem_append_left _ (List.mem_of_getElem? (i := 1) rfl))) dX12_isWindow_40 ?_
              have b18443l := Int32.le_toInt (A 17 y18442.toNatClampNeg)
              have b18443h := Int32.toInt_lt (A 17 y18442.toNatClampNeg)
              refine g_icmp_ne (tgt := 47) (a := (A 17 y18442.toNatClampNeg).toInt) (b := 100000) hk dX12_isWindow_42 (by decide) rfl rfl (fun c18444 => ?_) (fun c18444 => ?_)
              · skip
                obtain ⟨y18445, ey18445⟩ : ∃ y : Int32, y = x18423 + Int32.ofInt 1 := ⟨_, rfl⟩
                have hy18445 : y18445.toInt = x18423.toInt + 1 := i32_add ey18445 rfl (by decide) (by omega) (by omega)
                refine g_iinc (v := y18445) (lv' := [(3, .int y18445), (0, .ref (r 0)), (1, .int z1), (2, .int z2)]) hk 0 dX12_isWindow_47 rfl ey18445.symm (by decide) rfl ?_
                refine g_goto (tgt := 25) hk dX12_isWindow_50 (by decide) ?_
                exact g_lv (List.forall_mem_cons.mpr ⟨List.mem_of_getElem? (i := 0) rfl, (List.forall_mem_cons.mpr ⟨List.mem_of_getElem? (i := 1) rfl, (List.forall_mem_cons.mpr ⟨List.mem_of_getElem? (i := 2) rfl, (List.forall_mem_cons.mpr ⟨List.mem_of_getElem? (i := 3) rfl, (fun _ h => absurd h List.not_mem_nil)⟩)⟩)⟩)⟩) (ih18439 y18445 (by omega) (by omega) (by omega) (by omega))
              · skip
                refine g_iconst (v := 0) hk dX12_isWindow_45 (by decide) ?_
                exact g_iret hk hR rfl (Or.inl ⟨rfl, rfl⟩) dX12_isWindow_46
        obtain ⟨n18446, n18446a, n18446b⟩ : ∃ n : Nat, 161 - z1.toInt < (n : Int) ∧ 0 < n := ⟨((161 - z1.toInt : Int)).toNat + 1, by omega, by omega⟩
        exact lp18436 n18446 z1 (by omega) (by omega) n18446a n18446b
      · skip
        refine g_iconst (v := 0) hk dX12_isWindow_21 (by decide) ?_
        exact g_iret hk hR rfl (Or.inl ⟨rfl, rfl⟩) dX12_isWindow_22
def wo_j161_X12_sumOf : List Cond := [Cond.fieldLink RX12 70 "WarpDeskModel" "now" "[I"]
def wz_j161_X12_sumOf : List Cond := .code yX12_sumOf cX12_sumOf 5 (some .int) :: (wo_j161_X12_sumOf ++ (wsX120 ++ ([] : List Cond)))
theorem zg_j161_X12_sumOf : ∀ w ∈ wz_j161_X12_sumOf, goodWord w = true := zg_cons rfl (zg_app (by decide +kernel) (zg_app zgU_wsX120 zg_nil))
theorem zi_j161_X12_sumOf : ∀ w ∈ wz_j161_X12_sumOf, w ∈ lw_tbl := zi_cons zw_1722 (zi_app (zi_cons zw_1413 zi_nil) (zi_app inX12 zi_nil))
set_option maxHeartbeats 4000000 in
set_option maxRecDepth 100000 in
theorem j161_X12_sumOf (l : Launch) (D : va_G) (zt : Nat × Nat × Nat × (Nat → Nat) × (Nat → Nat)) (r : Nat → Nat) (g : Nat → ClassId) (I : Nat → Int32) (A : Nat → Nat → Int32) (L : Nat → Nat → Int64) (z1 : Int32) (z2 : Int32) (hIv : IvM I A) (hp0 : 0 ≤ z1.toInt) (hp1 : z1.toInt ≤ 159) (hp2 : 1 ≤ z2.toInt) (hp3 : z2.toInt ≤ 160) (hp4 : z1.toInt + z2.toInt ≤ 160) : GM l D zt (tyM g) yX12_sumOf wz_j161_X12_sumOf ({ frames := 0, cells := 0, slots := 0, locals := 0 } : Room) [.ref (r 0), .int z1, .int z2] (wM r g I A L) (fun v _ w' => ∃ y0 : Int32, v = some (.int y0) ∧ w' = wM r g I A L) 0 0 := by
  refine GM.of (cc := cX12_sumOf) (maxL := 5) (ret := (some .int)) (own := RX12) (lv := [(0, .ref (r 0)), (1, .int z1), (2, .int z2)]) (by decide) rfl rfl (Nat.le_of_ble_eq_true rfl) rfl (fun κ sz hk hR hN => ?_)
  have hin12 : ∀ w ∈ u_ws RX12 TX12 55, w ∈ wz_j161_X12_sumOf := fun w h => (List.mem_cons_of_mem _ (List.mem_append_right _ (List.mem_append_left _ h)))
  refine g_iconst (v := 0) hk dX12_sumOf_0 (by decide) ?_
  refine g_istore_n (lv' := [(3, .int 0), (0, .ref (r 0)), (1, .int z1), (2, .int z2)]) hk dX12_sumOf_1 (by decide) rfl ?_
  refine g_iload_n hk dX12_sumOf_2 rfl ?_
  refine g_istore (lv' := [(4, .int z1), (3, .int 0), (0, .ref (r 0)), (1, .int z1), (2, .int z2)]) hk dX12_sumOf_3 (by decide) rfl ?_
  have lp18493 : ∀ (n18494 : Nat) (x18457 : Int32) (x18458 : Int32), (0 ≤ x18457.toInt) → (x18457.toInt ≤ 319) → (320 - x18457.toInt < (n18494 : Int)) → (0 < n18494) → GW κ 5 0 0 (wM r g I A L) 5 [(4, .int x18457), (3, .int x18458), (0, .ref (r 0)), (1, .int z1), (2, .int z2)] [] := by
    intro n18494
    induction n18494 with
    | zero =>
      intro x18457 x18458 h18491 h18492 m18495 m18495z
      exact absurd m18495z (Nat.lt_irrefl 0)
    | succ n18494 ih18496 =>
      intro x18457 x18458 h18491 h18492 m18495 m18495z
      refine g_iload hk dX12_sumOf_5 rfl ?_
      refine g_iload_n hk dX12_sumOf_7 rfl ?_
      refine g_iload_n hk dX12_sumOf_8 rfl ?_
      refine g_iadd hk dX12_sumOf_9 ?_
      refine g_topi (fun y18497 ey18497 => ?_)
      have hy18497 : y18497.toInt = z1.toInt + z2.toInt := i32_add ey18497 rfl rfl (by omega) (by omega)
      refine g_icmp_ge (tgt := 31) (a := x18457.toInt) (b := y18497.toInt) hk dX12_sumOf_10 (by decide) rfl rfl (fun c18498 => ?_) (fun c18498 => ?_)
      · skip
        refine g_iload_n hk dX12_sumOf_31 rfl ?_
        have b18499l := Int32.le_toInt x18458
        have b18499h := Int32.toInt_lt x18458
        exact g_iret hk hR rfl ⟨x18458, rfl, rfl⟩ dX12_sumOf_32
      · skip
        refine g_iload_n hk dX12_sumOf_13 rfl ?_
        refine g_aload_n hk dX12_sumOf_14 rfl ?_
        refine gM_r0_35 hk hin12 (List.mem_cons_of_mem _ (List.mem_append_left _ (List.mem_of_getElem? (i := 0) rfl))) dX12_sumOf_15 ?_
        refine g_iconst (v := 1) hk dX12_sumOf_18 (by decide) ?_
        refine g_iload hk dX12_sumOf_19 rfl ?_
        refine g_iadd hk dX12_sumOf_21 ?_
        refine g_topi (fun y18500 ey18500 => ?_)
        have hy18500 : y18500.toInt = 1 + x18457.toInt := i32_add ey18500 rfl rfl (by omega) (by omega)
        refine lM_17 (v := (A 17 y18500.toNatClampNeg)) hk (vp_in_iff.mpr ⟨by omega, by omega⟩) rfl dX12_sumOf_22 ?_
        have b18501l := Int32.le_toInt x18458
        have b18501h := Int32.toInt_lt x18458
        have b18502l := Int32.le_toInt (A 17 y18500.toNatClampNeg)
        have b18502h := Int32.toInt_lt (A 17 y18500.toNatClampNeg)
        refine g_iadd hk dX12_sumOf_23 ?_
        refine g_topi (fun y18503 ey18503 => ?_)
        refine g_istore_n (lv' := [(3, .int y18503), (4, .int x18457), (0, .ref (r 0)), (1, .int z1), (2, .int z2)]) hk dX12_sumOf_24 (by decide) rfl ?_
        obtain ⟨y18504, ey18504⟩ : ∃ y : Int32, y = x18457 + Int32.ofInt 1 := ⟨_, rfl⟩
        have hy18504 : y18504.toInt = x18457.toInt + 1 := i32_add ey18504 rfl (by decide) (by omega) (by omega)
        refine g_iinc (v := y18504) (lv' := [(4, .int y18504), (3, .int y18503), (0, .ref (r 0)), (1, .int z1), (2, .int z2)]) hk 1 dX12_sumOf_25 rfl ey18504.symm (by decide) rfl ?_
        refine g_goto (tgt := 5) hk dX12_sumOf_28 (by decide) ?_
        have b18505l := Int32.le_toInt y18503
        have b18505h := Int32.toInt_lt y18503
        exact g_lv (List.forall_mem_cons.mpr ⟨List.mem_of_getElem? (i := 0) rfl, (List.forall_mem_cons.mpr ⟨List.mem_of_getElem? (i := 1) rfl, (List.forall_mem_cons.mpr ⟨List.mem_of_getElem? (i := 2) rfl, (List.forall_mem_cons.mpr ⟨List.mem_of_getElem? (i := 3) rfl, (List.forall_mem_cons.mpr ⟨List.mem_of_getElem? (i := 4) rfl, (fun _ h => absurd h List.not_mem_nil)⟩)⟩)⟩)⟩)⟩) (ih18496 y18504 y18503 (by omega) (by omega) (by omega) (by omega))
  have k18506 : (0 : Int32).toInt = 0 := rfl
  obtain ⟨n18507, n18507a, n18507b⟩ : ∃ n : Nat, 320 - z1.toInt < (n : Int) ∧ 0 < n := ⟨((320 - z1.toInt : Int)).toNat + 1, by omega, by omega⟩
  exact lp18493 n18507 z1 0 (by omega) (by omega) n18507a n18507b
def wo_j162_X12_leastOf : List Cond := [Cond.fieldLink RX12 70 "WarpDeskModel" "now" "[I"]
def wz_j162_X12_leastOf : List Cond := .code yX12_leastOf cX12_leastOf 5 (some .int) :: (wo_j162_X12_leastOf ++ (wsX120 ++ ([] : List Cond)))
theorem zg_j162_X12_leastOf : ∀ w ∈ wz_j162_X12_leastOf, goodWord w = true := zg_cons rfl (zg_app (by decide +kernel) (zg_app zgU_wsX120 zg_nil))
theorem zi_j162_X12_leastOf : ∀ w ∈ wz_j162_X12_leastOf, w ∈ lw_tbl := zi_cons zw_1726 (zi_app (zi_cons zw_1413 zi_nil) (zi_app inX12 zi_nil))
set_option maxHeartbeats 4000000 in
set_option maxRecDepth 100000 in
theorem j162_X12_leastOf (l : Launch) (D : va_G) (zt : Nat × Nat × Nat × (Nat → Nat) × (Nat → Nat)) (r : Nat → Nat) (g : Nat → ClassId) (I : Nat → Int32) (A : Nat → Nat → Int32) (L : Nat → Nat → Int64) (z1 : Int32) (z2 : Int32) (hIv : IvM I A) (hp0 : 0 ≤ z1.toInt) (hp1 : z1.toInt ≤ 159) (hp2 : 1 ≤ z2.toInt) (hp3 : z2.toInt ≤ 160) (hp4 : z1.toInt + z2.toInt ≤ 160) : GM l D zt (tyM g) yX12_leastOf wz_j162_X12_leastOf ({ frames := 0, cells := 0, slots := 0, locals := 0 } : Room) [.ref (r 0), .int z1, .int z2] (wM r g I A L) (fun v _ w' => ∃ y0 : Int32, v = some (.int y0) ∧ w' = wM r g I A L) 0 0 := by
  refine GM.of (cc := cX12_leastOf) (maxL := 5) (ret := (some .int)) (own := RX12) (lv := [(0, .ref (r 0)), (1, .int z1), (2, .int z2)]) (by decide) rfl rfl (Nat.le_of_ble_eq_true rfl) rfl (fun κ sz hk hR hN => ?_)
  have hin12 : ∀ w ∈ u_ws RX12 TX12 55, w ∈ wz_j162_X12_leastOf := fun w h => (List.mem_cons_of_mem _ (List.mem_append_right _ (List.mem_append_left _ h)))
  refine g_aload_n hk dX12_leastOf_0 rfl ?_
  refine gM_r0_35 hk hin12 (List.mem_cons_of_mem _ (List.mem_append_left _ (List.mem_of_getElem? (i := 0) rfl))) dX12_leastOf_1 ?_
  refine g_iconst (v := 1) hk dX12_leastOf_4 (by decide) ?_
  refine g_iload_n hk dX12_leastOf_5 rfl ?_
  refine g_iadd hk dX12_leastOf_6 ?_
  refine g_topi (fun y18511 ey18511 => ?_)
  have hy18511 : y18511.toInt = 1 + z1.toInt := i32_add ey18511 rfl rfl (by omega) (by omega)
  refine lM_17 (v := (A 17 y18511.toNatClampNeg)) hk (vp_in_iff.mpr ⟨by omega, by omega⟩) rfl dX12_leastOf_7 ?_
  refine g_istore_n (lv' := [(3, .int (A 17 y18511.toNatClampNeg)), (0, .ref (r 0)), (1, .int z1), (2, .int z2)]) hk dX12_leastOf_8 (by decide) rfl ?_
  refine g_iload_n hk dX12_leastOf_9 rfl ?_
  refine g_istore (lv' := [(4, .int z1), (3, .int (A 17 y18511.toNatClampNeg)), (0, .ref (r 0)), (1, .int z1), (2, .int z2)]) hk dX12_leastOf_10 (by decide) rfl ?_
  have lp18557 : ∀ (n18558 : Nat) (x18512 : Int32) (x18513 : Int32), (0 ≤ x18512.toInt) → (x18512.toInt ≤ 319) → (320 - x18512.toInt < (n18558 : Int)) → (0 < n18558) → GW κ 5 0 0 (wM r g I A L) 12 [(4, .int x18512), (3, .int x18513), (0, .ref (r 0)), (1, .int z1), (2, .int z2)] [] := by
    intro n18558
    induction n18558 with
    | zero =>
      intro x18512 x18513 h18555 h18556 m18559 m18559z
      exact absurd m18559z (Nat.lt_irrefl 0)
    | succ n18558 ih18560 =>
      intro x18512 x18513 h18555 h18556 m18559 m18559z
      refine g_iload hk dX12_leastOf_12 rfl ?_
      refine g_iload_n hk dX12_leastOf_14 rfl ?_
      refine g_iload_n hk dX12_leastOf_15 rfl ?_
      refine g_iadd hk dX12_leastOf_16 ?_
      refine g_topi (fun y18561 ey18561 => ?_)
      have hy18561 : y18561.toInt = z1.toInt + z2.toInt := i32_add ey18561 rfl rfl (by omega) (by omega)
      refine g_icmp_ge (tgt := 49) (a := x18512.toInt) (b := y18561.toInt) hk dX12_leastOf_17 (by decide) rfl rfl (fun c18562 => ?_) (fun c18562 => ?_)
      · skip
        refine g_iload_n hk dX12_leastOf_49 rfl ?_
        have b18563l := Int32.le_toInt x18513
        have b18563h := Int32.toInt_lt x18513
        exact g_iret hk hR rfl ⟨x18513, rfl, rfl⟩ dX12_leastOf_50
      · skip
        refine g_aload_n hk dX12_leastOf_20 rfl ?_
        refine gM_r0_35 hk hin12 (List.mem_cons_of_mem _ (List.mem_append_left _ (List.mem_of_getElem? (i := 0) rfl))) dX12_leastOf_21 ?_
        refine g_iconst (v := 1) hk dX12_leastOf_24 (by decide) ?_
        refine g_iload hk dX12_leastOf_25 rfl ?_
        refine g_iadd hk dX12_leastOf_27 ?_
        refine g_topi (fun y18564 ey18564 => ?_)
        have hy18564 : y18564.toInt = 1 + x18512.toInt := i32_add ey18564 rfl rfl (by omega) (by omega)
        refine lM_17 (v := (A 17 y18564.toNatClampNeg)) hk (vp_in_iff.mpr ⟨by omega, by omega⟩) rfl dX12_leastOf_28 ?_
        refine g_iload_n hk dX12_leastOf_29 rfl ?_
        have b18565l := Int32.le_toInt (A 17 y18564.toNatClampNeg)
        have b18565h := Int32.toInt_lt (A 17 y18564.toNatClampNeg)
        have b18566l := Int32.le_toInt x18513
        have b18566h := Int32.toInt_lt x18513
        refine g_icmp_ge (tgt := 43) (a := (A 17 y18564.toNatClampNeg).toInt) (b := x18513.toInt) hk dX12_leastOf_30 (by decide) rfl rfl (fun c18567 => ?_) (fun c18567 => ?_)
        · skip
          obtain ⟨y18568, ey18568⟩ : ∃ y : Int32, y = x18512 + Int32.ofInt 1 := ⟨_, rfl⟩
          have hy18568 : y18568.toInt = x18512.toInt + 1 := i32_add ey18568 rfl (by decide) (by omega) (by omega)
          refine g_iinc (v := y18568) (lv' := [(4, .int y18568), (3, .int x18513), (0, .ref (r 0)), (1, .int z1), (2, .int z2)]) hk 0 dX12_leastOf_43 rfl ey18568.symm (by decide) rfl ?_
          refine g_goto (tgt := 12) hk dX12_leastOf_46 (by decide) ?_
          exact g_lv (List.forall_mem_cons.mpr ⟨List.mem_of_getElem? (i := 0) rfl, (List.forall_mem_cons.mpr ⟨List.mem_of_getElem? (i := 1) rfl, (List.forall_mem_cons.mpr ⟨List.mem_of_getElem? (i := 2) rfl, (List.forall_mem_cons.mpr ⟨List.mem_of_getElem? (i := 3) rfl, (List.forall_mem_cons.mpr ⟨List.mem_of_getElem? (i := 4) rfl, (fun _ h => absurd h List.not_mem_nil)⟩)⟩)⟩)⟩)⟩) (ih18560 y18568 x18513 (by omega) (by omega) (by omega) (by omega))
        · skip
          refine g_aload_n hk dX12_leastOf_33 rfl ?_
          refine gM_r0_35 hk hin12 (List.mem_cons_of_mem _ (List.mem_append_left _ (List.mem_of_getElem? (i := 0) rfl))) dX12_leastOf_34 ?_
          refine g_iconst (v := 1) hk dX12_leastOf_37 (by decide) ?_
          refine g_iload hk dX12_leastOf_38 rfl ?_
          refine g_iadd hk dX12_leastOf_40 ?_
          refine g_topi (fun y18569 ey18569 => ?_)
          have hy18569 : y18569.toInt = 1 + x18512.toInt := i32_add ey18569 rfl rfl (by omega) (by omega)
          refine lM_17 (v := (A 17 y18569.toNatClampNeg)) hk (vp_in_iff.mpr ⟨by omega, by omega⟩) rfl dX12_leastOf_41 ?_
          refine g_istore_n (lv' := [(3, .int (A 17 y18569.toNatClampNeg)), (4, .int x18512), (0, .ref (r 0)), (1, .int z1), (2, .int z2)]) hk dX12_leastOf_42 (by decide) rfl ?_
          obtain ⟨y18570, ey18570⟩ : ∃ y : Int32, y = x18512 + Int32.ofInt 1 := ⟨_, rfl⟩
          have hy18570 : y18570.toInt = x18512.toInt + 1 := i32_add ey18570 rfl (by decide) (by omega) (by omega)
          refine g_iinc (v := y18570) (lv' := [(4, .int y18570), (3, .int (A 17 y18569.toNatClampNeg)), (0, .ref (r 0)), (1, .int z1), (2, .int z2)]) hk 1 dX12_leastOf_43 rfl ey18570.symm (by decide) rfl ?_
          refine g_goto (tgt := 12) hk dX12_leastOf_46 (by decide) ?_
          have b18571l := Int32.le_toInt (A 17 y18569.toNatClampNeg)
          have b18571h := Int32.toInt_lt (A 17 y18569.toNatClampNeg)
          exact g_lv (List.forall_mem_cons.mpr ⟨List.mem_of_getElem? (i := 0) rfl, (List.forall_mem_cons.mpr ⟨List.mem_of_getElem? (i := 1) rfl, (List.forall_mem_cons.mpr ⟨List.mem_of_getElem? (i := 2) rfl, (List.forall_mem_cons.mpr ⟨List.mem_of_getElem? (i := 3) rfl, (List.forall_mem_cons.mpr ⟨List.mem_of_getElem? (i := 4) rfl, (fun _ h => absurd h List.not_mem_nil)⟩)⟩)⟩)⟩)⟩) (ih18560 y18570 (A 17 y18569.toNatClampNeg) (by omega) (by omega) (by omega) (by omega))
  have b18572l := Int32.le_toInt (A 17 y18511.toNatClampNeg)
  have b18572h := Int32.toInt_lt (A 17 y18511.toNatClampNeg)
  obtain ⟨n18573, n18573a, n18573b⟩ : ∃ n : Nat, 320 - z1.toInt < (n : Int) ∧ 0 < n := ⟨((320 - z1.toInt : Int)).toNat + 1, by omega, by omega⟩
  exact lp18557 n18573 z1 (A 17 y18511.toNatClampNeg) (by omega) (by omega) n18573a n18573b
def wo_j163_X12_mostOf : List Cond := [Cond.fieldLink RX12 70 "WarpDeskModel" "now" "[I"]
def wz_j163_X12_mostOf : List Cond := .code yX12_mostOf cX12_mostOf 5 (some .int) :: (wo_j163_X12_mostOf ++ (wsX120 ++ ([] : List Cond)))
theorem zg_j163_X12_mostOf : ∀ w ∈ wz_j163_X12_mostOf, goodWord w = true := zg_cons rfl (zg_app (by decide +kernel) (zg_app zgU_wsX120 zg_nil))
theorem zi_j163_X12_mostOf : ∀ w ∈ wz_j163_X12_mostOf, w ∈ lw_tbl := zi_cons zw_1730 (zi_app (zi_cons zw_1413 zi_nil) (zi_app inX12 zi_nil))
set_option maxHeartbeats 4000000 in
set_option maxRecDepth 100000 in
theorem j163_X12_mostOf (l : Launch) (D : va_G) (zt : Nat × Nat × Nat × (Nat → Nat) × (Nat → Nat)) (r : Nat → Nat) (g : Nat → ClassId) (I : Nat → Int32) (A : Nat → Nat → Int32) (L : Nat → Nat → Int64) (z1 : Int32) (z2 : Int32) (hIv : IvM I A) (hp0 : 0 ≤ z1.toInt) (hp1 : z1.toInt ≤ 159) (hp2 : 1 ≤ z2.toInt) (hp3 : z2.toInt ≤ 160) (hp4 : z1.toInt + z2.toInt ≤ 160) : GM l D zt (tyM g) yX12_mostOf wz_j163_X12_mostOf ({ frames := 0, cells := 0, slots := 0, locals := 0 } : Room) [.ref (r 0), .int z1, .int z2] (wM r g I A L) (fun v _ w' => ∃ y0 : Int32, v = some (.int y0) ∧ w' = wM r g I A L) 0 0 := by
  refine GM.of (cc := cX12_mostOf) (maxL := 5) (ret := (some .int)) (own := RX12) (lv := [(0, .ref (r 0)), (1, .int z1), (2, .int z2)]) (by decide) rfl rfl (Nat.le_of_ble_eq_true rfl) rfl (fun κ sz hk hR hN => ?_)
  have hin12 : ∀ w ∈ u_ws RX12 TX12 55, w ∈ wz_j163_X12_mostOf := fun w h => (List.mem_cons_of_mem _ (List.mem_append_right _ (List.mem_append_left _ h)))
  refine g_aload_n hk dX12_mostOf_0 rfl ?_
  refine gM_r0_35 hk hin12 (List.mem_cons_of_mem _ (List.mem_append_left _ (List.mem_of_getElem? (i := 0) rfl))) dX12_mostOf_1 ?_
  refine g_iconst (v := 1) hk dX12_mostOf_4 (by decide) ?_
  refine g_iload_n hk dX12_mostOf_5 rfl ?_
  refine g_iadd hk dX12_mostOf_6 ?_
  refine g_topi (fun y18577 ey18577 => ?_)
  have hy18577 : y18577.toInt = 1 + z1.toInt := i32_add ey18577 rfl rfl (by omega) (by omega)
  refine lM_17 (v := (A 17 y18577.toNatClampNeg)) hk (vp_in_iff.mpr ⟨by omega, by omega⟩) rfl dX12_mostOf_7 ?_
  refine g_istore_n (lv' := [(3, .int (A 17 y18577.toNatClampNeg)), (0, .ref (r 0)), (1, .int z1), (2, .int z2)]) hk dX12_mostOf_8 (by decide) rfl ?_
  refine g_iload_n hk dX12_mostOf_9 rfl ?_
  refine g_istore (lv' := [(4, .int z1), (3, .int (A 17 y18577.toNatClampNeg)), (0, .ref (r 0)), (1, .int z1), (2, .int z2)]) hk dX12_mostOf_10 (by decide) rfl ?_
  have lp18623 : ∀ (n18624 : Nat) (x18578 : Int32) (x18579 : Int32), (0 ≤ x18578.toInt) → (x18578.toInt ≤ 319) → (320 - x18578.toInt < (n18624 : Int)) → (0 < n18624) → GW κ 5 0 0 (wM r g I A L) 12 [(4, .int x18578), (3, .int x18579), (0, .ref (r 0)), (1, .int z1), (2, .int z2)] [] := by
    intro n18624
    induction n18624 with
    | zero =>
      intro x18578 x18579 h18621 h18622 m18625 m18625z
      exact absurd m18625z (Nat.lt_irrefl 0)
    | succ n18624 ih18626 =>
      intro x18578 x18579 h18621 h18622 m18625 m18625z
      refine g_iload hk dX12_mostOf_12 rfl ?_
      refine g_iload_n hk dX12_mostOf_14 rfl ?_
      refine g_iload_n hk dX12_mostOf_15 rfl ?_
      refine g_iadd hk dX12_mostOf_16 ?_
      refine g_topi (fun y18627 ey18627 => ?_)
      have hy18627 : y18627.toInt = z1.toInt + z2.toInt := i32_add ey18627 rfl rfl (by omega) (by omega)
      refine g_icmp_ge (tgt := 49) (a := x18578.toInt) (b := y18627.toInt) hk dX12_mostOf_17 (by decide) rfl rfl (fun c18628 => ?_) (fun c18628 => ?_)
      · skip
        refine g_iload_n hk dX12_mostOf_49 rfl ?_
        have b18629l := Int32.le_toInt x18579
        have b18629h := Int32.toInt_lt x18579
        exact g_iret hk hR rfl ⟨x18579, rfl, rfl⟩ dX12_mostOf_50
      · skip
        refine g_aload_n hk dX12_mostOf_20 rfl ?_
        refine gM_r0_35 hk hin12 (List.mem_cons_of_mem _ (List.mem_append_left _ (List.mem_of_getElem? (i := 0) rfl))) dX12_mostOf_21 ?_
        refine g_iconst (v := 1) hk dX12_mostOf_24 (by decide) ?_
        refine g_iload hk dX12_mostOf_25 rfl ?_
        refine g_iadd hk dX12_mostOf_27 ?_
        refine g_topi (fun y18630 ey18630 => ?_)
        have hy18630 : y18630.toInt = 1 + x18578.toInt := i32_add ey18630 rfl rfl (by omega) (by omega)
        refine lM_17 (v := (A 17 y18630.toNatClampNeg)) hk (vp_in_iff.mpr ⟨by omega, by omega⟩) rfl dX12_mostOf_28 ?_
        refine g_iload_n hk dX12_mostOf_29 rfl ?_
        have b18631l := Int32.le_toInt (A 17 y18630.toNatClampNeg)
        have b18631h := Int32.toInt_lt (A 17 y18630.toNatClampNeg)
        have b18632l := Int32.le_toInt x18579
        have b18632h := Int32.toInt_lt x18579
        refine g_icmp_le (tgt := 43) (a := (A 17 y18630.toNatClampNeg).toInt) (b := x18579.toInt) hk dX12_mostOf_30 (by decide) rfl rfl (fun c18633 => ?_) (fun c18633 => ?_)
        · skip
          obtain ⟨y18634, ey18634⟩ : ∃ y : Int32, y = x18578 + Int32.ofInt 1 := ⟨_, rfl⟩
          have hy18634 : y18634.toInt = x18578.toInt + 1 := i32_add ey18634 rfl (by decide) (by omega) (by omega)
          refine g_iinc (v := y18634) (lv' := [(4, .int y18634), (3, .int x18579), (0, .ref (r 0)), (1, .int z1), (2, .int z2)]) hk 0 dX12_mostOf_43 rfl ey18634.symm (by decide) rfl ?_
          refine g_goto (tgt := 12) hk dX12_mostOf_46 (by decide) ?_
          exact g_lv (List.forall_mem_cons.mpr ⟨List.mem_of_getElem? (i := 0) rfl, (List.forall_mem_cons.mpr ⟨List.mem_of_getElem? (i := 1) rfl, (List.forall_mem_cons.mpr ⟨List.mem_of_getElem? (i := 2) rfl, (List.forall_mem_cons.mpr ⟨List.mem_of_getElem? (i := 3) rfl, (List.forall_mem_cons.mpr ⟨List.mem_of_getElem? (i := 4) rfl, (fun _ h => absurd h List.not_mem_nil)⟩)⟩)⟩)⟩)⟩) (ih18626 y18634 x18579 (by omega) (by omega) (by omega) (by omega))
        · skip
          refine g_aload_n hk dX12_mostOf_33 rfl ?_
          refine gM_r0_35 hk hin12 (List.mem_cons_of_mem _ (List.mem_append_left _ (List.mem_of_getElem? (i := 0) rfl))) dX12_mostOf_34 ?_
          refine g_iconst (v := 1) hk dX12_mostOf_37 (by decide) ?_
          refine g_iload hk dX12_mostOf_38 rfl ?_
          refine g_iadd hk dX12_mostOf_40 ?_
          refine g_topi (fun y18635 ey18635 => ?_)
          have hy18635 : y18635.toInt = 1 + x18578.toInt := i32_add ey18635 rfl rfl (by omega) (by omega)
          refine lM_17 (v := (A 17 y18635.toNatClampNeg)) hk (vp_in_iff.mpr ⟨by omega, by omega⟩) rfl dX12_mostOf_41 ?_
          refine g_istore_n (lv' := [(3, .int (A 17 y18635.toNatClampNeg)), (4, .int x18578), (0, .ref (r 0)), (1, .int z1), (2, .int z2)]) hk dX12_mostOf_42 (by decide) rfl ?_
          obtain ⟨y18636, ey18636⟩ : ∃ y : Int32, y = x18578 + Int32.ofInt 1 := ⟨_, rfl⟩
          have hy18636 : y18636.toInt = x18578.toInt + 1 := i32_add ey18636 rfl (by decide) (by omega) (by omega)
          refine g_iinc (v := y18636) (lv' := [(4, .int y18636), (3, .int (A 17 y18635.toNatClampNeg)), (0, .ref (r 0)), (1, .int z1), (2, .int z2)]) hk 1 dX12_mostOf_43 rfl ey18636.symm (by decide) rfl ?_
          refine g_goto (tgt := 12) hk dX12_mostOf_46 (by decide) ?_
          have b18637l := Int32.le_toInt (A 17 y18635.toNatClampNeg)
          have b18637h := Int32.toInt_lt (A 17 y18635.toNatClampNeg)
          exact g_lv (List.forall_mem_cons.mpr ⟨List.mem_of_getElem? (i := 0) rfl, (List.forall_mem_cons.mpr ⟨List.mem_of_getElem? (i := 1) rfl, (List.forall_mem_cons.mpr ⟨List.mem_of_getElem? (i := 2) rfl, (List.forall_mem_cons.mpr ⟨List.mem_of_getElem? (i := 3) rfl, (List.forall_mem_cons.mpr ⟨List.mem_of_getElem? (i := 4) rfl, (fun _ h => absurd h List.not_mem_nil)⟩)⟩)⟩)⟩)⟩) (ih18626 y18636 (A 17 y18635.toNatClampNeg) (by omega) (by omega) (by omega) (by omega))
  have b18638l := Int32.le_toInt (A 17 y18577.toNatClampNeg)
  have b18638h := Int32.toInt_lt (A 17 y18577.toNatClampNeg)
  obtain ⟨n18639, n18639a, n18639b⟩ : ∃ n : Nat, 320 - z1.toInt < (n : Int) ∧ 0 < n := ⟨((320 - z1.toInt : Int)).toNat + 1, by omega, by omega⟩
  exact lp18623 n18639 z1 (A 17 y18577.toNatClampNeg) (by omega) (by omega) n18639a n18639b
def wo_j159_X12_window : List Cond := [Cond.methodLink RX12 257 yX12_isWindow, Cond.instanceMethod yX12_isWindow, Cond.selects RX12 yX12_isWindow yX12_isWindow, Cond.initialized RX12, Cond.constant RX12 332 (-1000000), Cond.methodLink RX12 333 yX12_sumOf, Cond.instanceMethod yX12_sumOf, Cond.selects RX12 yX12_sumOf yX12_sumOf, Cond.methodLink RX12 336 yX12_leastOf, Cond.instanceMethod yX12_leastOf, Cond.selects RX12 yX12_leastOf yX12_leastOf, Cond.methodLink RX12 339 yX12_mostOf, Cond.instanceMethod yX12_mostOf, Cond.selects RX12 yX12_mostOf yX12_mostOf, Cond.methodLink RX12 261 yX12_downBy, Cond.static yX12_downBy]
def wz_j159_X12_window : List Cond := .code yX12_window cX12_window 4 (some .int) :: (wo_j159_X12_window ++ (wz_j160_X12_isWindow ++ (wz_j161_X12_sumOf ++ (wz_j162_X12_leastOf ++ (wz_j163_X12_mostOf ++ (wz_j155_X12_downBy ++ ([] : List Cond)))))))
theorem zg_j159_X12_window : ∀ w ∈ wz_j159_X12_window, goodWord w = true := zg_cons rfl (zg_app (by decide +kernel) (zg_app zg_j160_X12_isWindow (zg_app zg_j161_X12_sumOf (zg_app zg_j162_X12_leastOf (zg_app zg_j163_X12_mostOf (zg_app zg_j155_X12_downBy zg_nil))))))
theorem zi_j159_X12_window : ∀ w ∈ wz_j159_X12_window, w ∈ lw_tbl := zi_cons zw_1713 (zi_app (zi_cons zw_1714 (zi_cons zw_1716 (zi_cons zw_72 (zi_cons zw_115 (zi_cons zw_1718 (zi_cons zw_1719 (zi_cons zw_1721 (zi_cons zw_73 (zi_cons zw_1723 (zi_cons zw_1725 (zi_cons zw_74 (zi_cons zw_1727 (zi_cons zw_1729 (zi_cons zw_75 (zi_cons zw_1695 (zi_cons zw_1696 zi_nil)))))))))))))))) (zi_app zi_j160_X12_isWindow (zi_app zi_j161_X12_sumOf (zi_app zi_j162_X12_leastOf (zi_app zi_j163_X12_mostOf (zi_app zi_j155_X12_downBy zi_nil))))))
set_option maxHeartbeats 4000000 in
set_option maxRecDepth 100000 in
theorem j159_X12_window (l : Launch) (D : va_G) (zt : Nat × Nat × Nat × (Nat → Nat) × (Nat → Nat)) (r : Nat → Nat) (g : Nat → ClassId) (I : Nat → Int32) (A : Nat → Nat → Int32) (L : Nat → Nat → Int64) (z1 : Int32) (z2 : Int32) (z3 : Int32) (hIv : IvM I A) : GM l D zt (tyM g) yX12_window wz_j159_X12_window ({ frames := 1, cells := 0, slots := 0, locals := 24 } : Room) [.ref (r 0), .int z1, .int z2, .int z3] (wM r g I A L) (fun v _ w' => ∃ y0 : Int32, v = some (.int y0) ∧ w' = wM r g I A L) 0 0 := by
  refine GM.of (cc := cX12_window) (maxL := 4) (ret := (some .int)) (own := RX12) (lv := [(0, .ref (r 0)), (1, .int z1), (2, .int z2), (3, .int z3)]) (by decide) rfl rfl (Nat.le_of_ble_eq_true rfl) rfl (fun κ sz hk hR hN => ?_)
  refine g_aload_n hk dX12_window_0 rfl ?_
  refine g_iload_n hk dX12_window_1 rfl ?_
  refine g_iload_n hk dX12_window_2 rfl ?_
  refine g_callV (n := 2) hk (j160_X12_isWindow l D zt r g I A L z1 z2 hIv) (SP.same _) (fun _ h => h) (gi_V (List.mem_cons_of_mem _ (List.mem_append_left _ (List.mem_of_getElem? (i := 0) rfl))) (List.mem_cons_of_mem _ (List.mem_append_left _ (List.mem_of_getElem? (i := 1) rfl))) (List.mem_cons_of_mem _ (List.mem_append_left _ (List.mem_of_getElem? (i := 2) rfl))) (List.mem_cons_of_mem _ (List.mem_append_left _ (List.mem_of_getElem? (i := 3) rfl))) (gi_sub (fun w h => (List.mem_cons_of_mem _ (List.mem_append_right _ (List.mem_append_left _ h)))) zg_j160_X12_isWindow)) rfl rfl rfl (by decide +kernel) ⟨Nat.le_of_ble_eq_true rfl, Nat.le_of_ble_eq_true rfl⟩ 0 rfl rfl rfl rfl (Nat.le_of_ble_eq_true rfl) ⟨Nat.le_of_ble_eq_true rfl, Nat.le_of_ble_eq_true rfl⟩ dX12_window_3 (fun v ty' w' hp hk' => ?_)
  rcases hp with ⟨rfl, rfl⟩ | ⟨c18448, c18449, c18450, c18451, c18452, c18453, c18454, rfl, rfl⟩
  · skip
    show GW κ 4 0 0 (wM r g I A L) 6 [(0, .ref (r 0)), (1, .int z1), (2, .int z2), (3, .int z3)] [.int 0]
    refine g_if_ne (tgt := 13) (a := 0) hk dX12_window_6 (by decide) rfl (fun z9 => absurd z9 (show ¬ ((0 : Int) ≠ (0 : Int)) from by decide)) (fun _ => ?_)
    refine g_ldcw (v := (-1000000)) hk (List.mem_cons_of_mem _ (List.mem_append_left _ (List.mem_of_getElem? (i := 4) rfl))) dX12_window_9 ?_
    exact g_iret hk hR rfl ⟨(-1000000), rfl, rfl⟩ dX12_window_12
  · skip
    show GW κ 4 0 0 (wM r g I A L) 6 [(0, .ref (r 0)), (1, .int z1), (2, .int z2), (3, .int z3)] [.int 1]
    refine g_if_ne (tgt := 13) (a := 1) hk dX12_window_6 (by decide) rfl (fun _ => ?_) (fun z9 => absurd (show (1 : Int) ≠ (0 : Int) from by decide) z9)
    refine g_iload_n hk dX12_window_13 rfl ?_
    by_cases c18456 : z3.toInt = 0
    · refine g_tabIn (tgt := 44) (a := 0) hk dX12_window_14 c18456 (by decide) (by decide) rfl (by decide) ?_
      refine g_aload_n hk dX12_window_44 rfl ?_
      refine g_iload_n hk dX12_window_45 rfl ?_
      refine g_iload_n hk dX12_window_46 rfl ?_
      refine g_callV (n := 2) hk (j161_X12_sumOf l D zt r g I A L z1 z2 hIv (by omega) (by omega) (by omega) (by omega) (by omega)) (SP.same _) (fun _ h => h) (gi_V (List.mem_cons_of_mem _ (List.mem_append_left _ (List.mem_of_getElem? (i := 5) rfl))) (List.mem_cons_of_mem _ (List.mem_append_left _ (List.mem_of_getElem? (i := 6) rfl))) (List.mem_cons_of_mem _ (List.mem_append_left _ (List.mem_of_getElem? (i := 7) rfl))) (List.mem_cons_of_mem _ (List.mem_append_left _ (List.mem_of_getElem? (i := 3) rfl))) (gi_sub (fun w h => (List.mem_cons_of_mem _ (List.mem_append_right _ (List.mem_append_right _ (List.mem_append_left _ h))))) zg_j161_X12_sumOf)) rfl rfl rfl (by decide +kernel) ⟨Nat.le_of_ble_eq_true rfl, Nat.le_of_ble_eq_true rfl⟩ 0 rfl rfl rfl rfl (Nat.le_of_ble_eq_true rfl) ⟨Nat.le_of_ble_eq_true rfl, Nat.le_of_ble_eq_true rfl⟩ dX12_window_47 (fun v ty' w' hp hk' => ?_)
      obtain ⟨y18508, rfl, rfl⟩ := hp
      show GW κ 4 0 0 (wM r g I A L) 50 [(0, .ref (r 0)), (1, .int z1), (2, .int z2), (3, .int z3)] [.int y18508]
      have b18509l := Int32.le_toInt y18508
      have b18509h := Int32.toInt_lt y18508
      exact g_iret hk hR rfl ⟨y18508, rfl, rfl⟩ dX12_window_50
    by_cases c18510 : z3.toInt = 1
    · refine g_tabIn (tgt := 51) (a := 1) hk dX12_window_14 c18510 (by decide) (by decide) rfl (by decide) ?_
      refine g_aload_n hk dX12_window_51 rfl ?_
      refine g_iload_n hk dX12_window_52 rfl ?_
      refine g_iload_n hk dX12_window_53 rfl ?_
      refine g_callV (n := 2) hk (j162_X12_leastOf l D zt r g I A L z1 z2 hIv (by omega) (by omega) (by omega) (by omega) (by omega)) (SP.same _) (fun _ h => h) (gi_V (List.mem_cons_of_mem _ (List.mem_append_left _ (List.mem_of_getElem? (i := 8) rfl))) (List.mem_cons_of_mem _ (List.mem_append_left _ (List.mem_of_getElem? (i := 9) rfl))) (List.mem_cons_of_mem _ (List.mem_append_left _ (List.mem_of_getElem? (i := 10) rfl))) (List.mem_cons_of_mem _ (List.mem_append_left _ (List.mem_of_getElem? (i := 3) rfl))) (gi_sub (fun w h => (List.mem_cons_of_mem _ (List.mem_append_right _ (List.mem_append_right _ (List.mem_append_right _ (List.mem_append_left _ h)))))) zg_j162_X12_leastOf)) rfl rfl rfl (by decide +kernel) ⟨Nat.le_of_ble_eq_true rfl, Nat.le_of_ble_eq_true rfl⟩ 0 rfl rfl rfl rfl (Nat.le_of_ble_eq_true rfl) ⟨Nat.le_of_ble_eq_true rfl, Nat.le_of_ble_eq_true rfl⟩ dX12_window_54 (fun v ty' w' hp hk' => ?_)
      obtain ⟨y18574, rfl, rfl⟩ := hp
      show GW κ 4 0 0 (wM r g I A L) 57 [(0, .ref (r 0)), (1, .int z1), (2, .int z2), (3, .int z3)] [.int y18574]
      have b18575l := Int32.le_toInt y18574
      have b18575h := Int32.toInt_lt y18574
      exact g_iret hk hR rfl ⟨y18574, rfl, rfl⟩ dX12_window_57
    by_cases c18576 : z3.toInt = 2
    · refine g_tabIn (tgt := 58) (a := 2) hk dX12_window_14 c18576 (by decide) (by decide) rfl (by decide) ?_
      refine g_aload_n hk dX12_window_58 rfl ?_
      refine g_iload_n hk dX12_window_59 rfl ?_
      refine g_iload_n hk dX12_window_60 rfl ?_
      refine g_callV (n := 2) hk (j163_X12_mostOf l D zt r g I A L z1 z2 hIv (by omega) (by omega) (by omega) (by omega) (by omega)) (SP.same _) (fun _ h => h) (gi_V (List.mem_cons_of_mem _ (List.mem_append_left _ (List.mem_of_getElem? (i := 11) rfl))) (List.mem_cons_of_mem _ (List.mem_append_left _ (List.mem_of_getElem? (i := 12) rfl))) (List.mem_cons_of_mem _ (List.mem_append_left _ (List.mem_of_getElem? (i := 13) rfl))) (List.mem_cons_of_mem _ (List.mem_append_left _ (List.mem_of_getElem? (i := 3) rfl))) (gi_sub (fun w h => (List.mem_cons_of_mem _ (List.mem_append_right _ (List.mem_append_right _ (List.mem_append_right _ (List.mem_append_right _ (List.mem_append_left _ h))))))) zg_j163_X12_mostOf)) rfl rfl rfl (by decide +kernel) ⟨Nat.le_of_ble_eq_true rfl, Nat.le_of_ble_eq_true rfl⟩ 0 rfl rfl rfl rfl (Nat.le_of_ble_eq_true rfl) ⟨Nat.le_of_ble_eq_true rfl, Nat.le_of_ble_eq_true rfl⟩ dX12_window_61 (fun v ty' w' hp hk' => ?_)
      obtain ⟨y18640, rfl, rfl⟩ := hp
      show GW κ 4 0 0 (wM r g I A L) 64 [(0, .ref (r 0)), (1, .int z1), (2, .int z2), (3, .int z3)] [.int y18640]
      have b18641l := Int32.le_toInt y18640
      have b18641h := Int32.toInt_lt y18640
      exact g_iret hk hR rfl ⟨y18640, rfl, rfl⟩ dX12_window_64
    by_cases c18642 : z3.toInt = 3
    · refine g_tabIn (tgt := 65) (a := 3) hk dX12_window_14 c18642 (by decide) (by decide) rfl (by decide) ?_
      refine g_aload_n hk dX12_window_65 rfl ?_
      refine g_iload_n hk dX12_window_66 rfl ?_
      refine g_iload_n hk dX12_window_67 rfl ?_
      refine g_callV (n := 2) hk (j161_X12_sumOf l D zt r g I A L z1 z2 hIv (by omega) (by omega) (by omega) (by omega) (by omega)) (SP.same _) (fun _ h => h) (gi_V (List.mem_cons_of_mem _ (List.mem_append_left _ (List.mem_of_getElem? (i := 5) rfl))) (List.mem_cons_of_mem _ (List.mem_append_left _ (List.mem_of_getElem? (i := 6) rfl))) (List.mem_cons_of_mem _ (List.mem_append_left _ (List.mem_of_getElem? (i := 7) rfl))) (List.mem_cons_of_mem _ (List.mem_append_left _ (List.mem_of_getElem? (i := 3) rfl))) (gi_sub (fun w h => (List.mem_cons_of_mem _ (List.mem_append_right _ (List.mem_append_right _ (List.mem_append_left _ h))))) zg_j161_X12_sumOf)) rfl rfl rfl (by decide +kernel) ⟨Nat.le_of_ble_eq_true rfl, Nat.le_of_ble_eq_true rfl⟩ 0 rfl rfl rfl rfl (Nat.le_of_ble_eq_true rfl) ⟨Nat.le_of_ble_eq_true rfl, Nat.le_of_ble_eq_true rfl⟩ dX12_window_68 (fun v ty' w' hp hk' => ?_)
      obtain ⟨y18643, rfl, rfl⟩ := hp
      show GW κ 4 0 0 (wM r g I A L) 71 [(0, .ref (r 0)), (1, .int z1), (2, .int z2), (3, .int z3)] [.int y18643]
      refine g_iload_n hk dX12_window_71 rfl ?_
      refine g_callS (n := 2) hk (j155_X12_downBy l D zt r g I A L y18643 z2 hIv (by omega)) (SP.same _) (fun _ h => h) (gi_S (List.mem_cons_of_mem _ (List.mem_append_left _ (List.mem_of_getElem? (i := 14) rfl))) (List.mem_cons_of_mem _ (List.mem_append_left _ (List.mem_of_getElem? (i := 15) rfl))) (List.mem_cons_of_mem _ (List.mem_append_left _ (List.mem_of_getElem? (i := 3) rfl))) (gi_sub (fun w h => (List.mem_cons_of_mem _ (List.mem_append_right _ (List.mem_append_right _ (List.mem_append_right _ (List.mem_append_right _ (List.mem_append_right _ (List.mem_append_left _ h)))))))) zg_j155_X12_downBy)) rfl rfl rfl (by decide +kernel) ⟨Nat.le_of_ble_eq_true rfl, Nat.le_of_ble_eq_true rfl⟩ rfl rfl (Nat.le_of_ble_eq_true rfl) ⟨Nat.le_of_ble_eq_true rfl, Nat.le_of_ble_eq_true rfl⟩ dX12_window_72 (fun v ty' w' hp hk' => ?_)
      obtain ⟨y18644, rfl, rfl⟩ := hp
      show GW κ 4 0 0 (wM r g I A L) 75 [(0, .ref (r 0)), (1, .int z1), (2, .int z2), (3, .int z3)] [.int y18644]
      have b18645l := Int32.le_toInt y18644
      have b18645h := Int32.toInt_lt y18644
      exact g_iret hk hR rfl ⟨y18644, rfl, rfl⟩ dX12_window_75
    refine g_tabOut (tgt := 76) (a := z3.toInt) hk dX12_window_14 rfl (by omega) (by decide) ?_
    refine g_ldcw (v := (-1000000)) hk (List.mem_cons_of_mem _ (List.mem_append_left _ (List.mem_of_getElem? (i := 4) rfl))) dX12_window_76 ?_
    exact g_iret hk hR rfl ⟨(-1000000), rfl, rfl⟩ dX12_window_79
def wo_j166_X12_levelsFirst : List Cond := [Cond.fieldLink RX12 76 "WarpDeskModel" "firstAt" "[I", Cond.methodLink RX12 261 yX12_downBy, Cond.static yX12_downBy, Cond.initialized RX12, Cond.fieldLink RX12 73 "WarpDeskModel" "row" "[I"]
def wz_j166_X12_levelsFirst : List Cond := .code yX12_levelsFirst cX12_levelsFirst 8 none :: (wo_j166_X12_levelsFirst ++ (wsX120 ++ (wz_j155_X12_downBy ++ ([] : List Cond))))
theorem zg_j166_X12_levelsFirst : ∀ w ∈ wz_j166_X12_levelsFirst, goodWord w = true := zg_cons rfl (zg_app (by decide +kernel) (zg_app zgU_wsX120 (zg_app zg_j155_X12_downBy zg_nil)))
theorem zi_j166_X12_levelsFirst : ∀ w ∈ wz_j166_X12_levelsFirst, w ∈ lw_tbl := zi_cons zw_1742 (zi_app (zi_cons zw_1416 (zi_cons zw_1695 (zi_cons zw_1696 (zi_cons zw_115 (zi_cons zw_1414 zi_nil))))) (zi_app inX12 (zi_app zi_j155_X12_downBy zi_nil)))
set_option maxHeartbeats 4000000 in
set_option maxRecDepth 100000 in
theorem j166_X12_levelsFirst (l : Launch) (D : va_G) (zt : Nat × Nat × Nat × (Nat → Nat) × (Nat → Nat)) (r : Nat → Nat) (g : Nat → ClassId) (I : Nat → Int32) (A : Nat → Nat → Int32) (L : Nat → Nat → Int64) (z1 : Int32) (hIv : IvM I A) (hp0 : 1 ≤ z1.toInt) (hp1 : z1.toInt ≤ 16) : GM l D zt (tyM g) yX12_levelsFirst wz_j166_X12_levelsFirst ({ frames := 1, cells := 0, slots := 0, locals := 22 } : Room) [.ref (r 0), .int z1] (wM r g I A L) (fun v _ w' => ∃ (I' : Nat → Int32) (A' : Nat → Nat → Int32) (L' : Nat → Nat → Int64), Md [] I I' ∧ Md [19] A A' ∧ IvM I' A' ∧ v = none ∧ w' = wM r g I' A' L') 0 0 := by
  refine GM.of (cc := cX12_levelsFirst) (maxL := 8) (ret := none) (own := RX12) (lv := [(0, .ref (r 0)), (1, .int z1)]) (by decide) rfl rfl (Nat.le_of_ble_eq_true rfl) rfl (fun κ sz hk hR hN => ?_)
  have hin12 : ∀ w ∈ u_ws RX12 TX12 55, w ∈ wz_j166_X12_levelsFirst := fun w h => (List.mem_cons_of_mem _ (List.mem_append_right _ (List.mem_append_left _ h)))
  refine g_iconst (v := 0) hk dX12_levelsFirst_0 (by decide) ?_
  refine g_istore_n (lv' := [(2, .int 0), (0, .ref (r 0)), (1, .int z1)]) hk dX12_levelsFirst_1 (by decide) rfl ?_
  refine g_aload_n hk dX12_levelsFirst_2 rfl ?_
  refine gM_r0_38 hk hin12 (List.mem_cons_of_mem _ (List.mem_append_left _ (List.mem_of_getElem? (i := 0) rfl))) dX12_levelsFirst_3 ?_
  refine g_iconst (v := 0) hk dX12_levelsFirst_6 (by decide) ?_
  refine lM_19 (v := (A 19 0)) hk (vp_in_iff.mpr ⟨by decide, by decide⟩) rfl dX12_levelsFirst_7 ?_
  refine g_istore_n (lv' := [(3, .int (A 19 0)), (2, .int 0), (0, .ref (r 0)), (1, .int z1)]) hk dX12_levelsFirst_8 (by decide) rfl ?_
  refine g_aload_n hk dX12_levelsFirst_9 rfl ?_
  refine gM_r0_38 hk hin12 (List.mem_cons_of_mem _ (List.mem_append_left _ (List.mem_of_getElem? (i := 0) rfl))) dX12_levelsFirst_10 ?_
  refine g_iconst (v := 0) hk dX12_levelsFirst_13 (by decide) ?_
  refine lM_19 (v := (A 19 0)) hk (vp_in_iff.mpr ⟨by decide, by decide⟩) rfl dX12_levelsFirst_14 ?_
  refine g_istore (lv' := [(4, .int (A 19 0)), (3, .int (A 19 0)), (2, .int 0), (0, .ref (r 0)), (1, .int z1)]) hk dX12_levelsFirst_15 (by decide) rfl ?_
  refine g_aload_n hk dX12_levelsFirst_17 rfl ?_
  refine gM_r0_38 hk hin12 (List.mem_cons_of_mem _ (List.mem_append_left _ (List.mem_of_getElem? (i := 0) rfl))) dX12_levelsFirst_18 ?_
  refine g_iconst (v := 0) hk dX12_levelsFirst_21 (by decide) ?_
  refine lM_19 (v := (A 19 0)) hk (vp_in_iff.mpr ⟨by decide, by decide⟩) rfl dX12_levelsFirst_22 ?_
  refine g_istore (lv' := [(5, .int (A 19 0)), (4, .int (A 19 0)), (3, .int (A 19 0)), (2, .int 0), (0, .ref (r 0)), (1, .int z1)]) hk dX12_levelsFirst_23 (by decide) rfl ?_
  refine g_iconst (v := 0) hk dX12_levelsFirst_25 (by decide) ?_
  refine g_istore (lv' := [(6, .int 0), (5, .int (A 19 0)), (4, .int (A 19 0)), (3, .int (A 19 0)), (2, .int 0), (0, .ref (r 0)), (1, .int z1)]) hk dX12_levelsFirst_26 (by decide) rfl ?_
  have lp19266 : ∀ (n19267 : Nat) (x18685 : Int32) (x18687 : Int32) (x18688 : Int32) (x18689 : Int32), (0 ≤ x18685.toInt) → (x18685.toInt ≤ 16) → (17 - x18685.toInt < (n19267 : Int)) → (0 < n19267) → GW κ 8 0 0 (wM r g I A L) 28 [(6, .int x18685), (5, .int (A 19 0)), (4, .int x18687), (3, .int x18688), (2, .int x18689), (0, .ref (r 0)), (1, .int z1)] [] := by
    intro n19267
    induction n19267 with
    | zero =>
      intro x18685 x18687 x18688 x18689 h19264 h19265 m19268 m19268z
      exact absurd m19268z (Nat.lt_irrefl 0)
    | succ n19267 ih19269 =>
      intro x18685 x18687 x18688 x18689 h19264 h19265 m19268 m19268z
      refine g_iload hk dX12_levelsFirst_28 rfl ?_
      refine g_iload_n hk dX12_levelsFirst_30 rfl ?_
      refine g_icmp_ge (tgt := 90) (a := x18685.toInt) (b := z1.toInt) hk dX12_levelsFirst_31 (by decide) rfl rfl (fun c19270 => ?_) (fun c19270 => ?_)
      · skip
        refine g_iload_n hk dX12_levelsFirst_90 rfl ?_
        refine g_iload_n hk dX12_levelsFirst_91 rfl ?_
        refine g_callS (n := 2) hk (j155_X12_downBy l D zt r g I A L x18689 z1 hIv (by omega)) (SP.same _) (fun _ h => h) (gi_S (List.mem_cons_of_mem _ (List.mem_append_left _ (List.mem_of_getElem? (i := 1) rfl))) (List.mem_cons_of_mem _ (List.mem_append_left _ (List.mem_of_getElem? (i := 2) rfl))) (List.mem_cons_of_mem _ (List.mem_append_left _ (List.mem_of_getElem? (i := 3) rfl))) (gi_sub (fun w h => (List.mem_cons_of_mem _ (List.mem_append_right _ (List.mem_append_right _ (List.mem_append_left _ h))))) zg_j155_X12_downBy)) rfl rfl rfl (by decide +kernel) ⟨Nat.le_of_ble_eq_true rfl, Nat.le_of_ble_eq_true rfl⟩ rfl rfl (Nat.le_of_ble_eq_true rfl) ⟨Nat.le_of_ble_eq_true rfl, Nat.le_of_ble_eq_true rfl⟩ dX12_levelsFirst_92 (fun v ty' w' hp hk' => ?_)
        obtain ⟨y19271, rfl, rfl⟩ := hp
        show GW κ 8 0 0 (wM r g I A L) 95 [(6, .int x18685), (5, .int (A 19 0)), (4, .int x18687), (3, .int x18688), (2, .int x18689), (0, .ref (r 0)), (1, .int z1)] [.int y19271]
        refine g_istore (lv' := [(6, .int y19271), (5, .int (A 19 0)), (4, .int x18687), (3, .int x18688), (2, .int x18689), (0, .ref (r 0)), (1, .int z1)]) hk dX12_levelsFirst_95 (by decide) rfl ?_
        refine g_iconst (v := 0) hk dX12_levelsFirst_97 (by decide) ?_
        refine g_istore (lv' := [(7, .int 0), (6, .int y19271), (5, .int (A 19 0)), (4, .int x18687), (3, .int x18688), (2, .int x18689), (0, .ref (r 0)), (1, .int z1)]) hk dX12_levelsFirst_98 (by decide) rfl ?_
        have lp19381 : ∀ (n19382 : Nat) (x19272 : Int32) (I19280 : Nat → Int32) (A19280 : Nat → Nat → Int32) (L19280 : Nat → Nat → Int64), (Md [] I I19280) → (Md [19] A A19280) → (IvM I19280 A19280) → (0 ≤ x19272.toInt) → (x19272.toInt ≤ 16) → (17 - x19272.toInt < (n19382 : Int)) → (0 < n19382) → GW κ 8 0 0 (wM r g I19280 A19280 L19280) 100 [(7, .int x19272), (6, .int y19271), (5, .int (A 19 0)), (4, .int x18687), (3, .int x18688), (2, .int x18689), (0, .ref (r 0)), (1, .int z1)] [] := by
          intro n19382
          induction n19382 with
          | zero =>
            intro x19272 I19280 A19280 L19280 hI19280 hA19280 hV19280 h19379 h19380 m19383 m19383z
            exact absurd m19383z (Nat.lt_irrefl 0)
          | succ n19382 ih19384 =>
            intro x19272 I19280 A19280 L19280 hI19280 hA19280 hV19280 h19379 h19380 m19383 m19383z
            refine g_iload hk dX12_levelsFirst_100 rfl ?_
            refine g_iload_n hk dX12_levelsFirst_102 rfl ?_
            refine g_icmp_ge (tgt := 214) (a := x19272.toInt) (b := z1.toInt) hk dX12_levelsFirst_103 (by decide) rfl rfl (fun c19385 => ?_) (fun c19385 => ?_)
            · skip
              exact g_vret hk hR ⟨I19280, A19280, L19280, (show Md [] I I19280 from (Md.tr Md.rf hI19280 rfl)), (show Md [19] A A19280 from (Md.tr Md.rf hA19280 rfl)), hV19280, rfl, rfl⟩ dX12_levelsFirst_214
            · skip
              refine g_aload_n hk dX12_levelsFirst_106 rfl ?_
              refine gM_r0_36 hk hin12 (List.mem_cons_of_mem _ (List.mem_append_left _ (List.mem_of_getElem? (i := 4) rfl))) dX12_levelsFirst_107 ?_
              refine g_sipush (v := 162) hk dX12_levelsFirst_110 (by decide) ?_
              refine lM_18 (v := (A 18 162)) hk (vp_in_iff.mpr ⟨by decide, by decide⟩) (congrFun (hA19280 18 rfl) _) dX12_levelsFirst_113 ?_
              by_cases c19386 : (A 18 162).toInt = 0
              · refine g_tabIn (tgt := 140) (a := 0) hk dX12_levelsFirst_114 c19386 (by decide) (by decide) rfl (by decide) ?_
                refine g_goto (tgt := 208) hk dX12_levelsFirst_140 (by decide) ?_
                obtain ⟨y19387, ey19387⟩ : ∃ y : Int32, y = x19272 + Int32.ofInt 1 := ⟨_, rfl⟩
                have hy19387 : y19387.toInt = x19272.toInt + 1 := i32_add ey19387 rfl (by decide) (by omega) (by omega)
                refine g_iinc (v := y19387) (lv' := [(7, .int y19387), (6, .int y19271), (5, .int (A 19 0)), (4, .int x18687), (3, .int x18688), (2, .int x18689), (0, .ref (r 0)), (1, .int z1)]) hk 0 dX12_levelsFirst_208 rfl ey19387.symm (by decide) rfl ?_
                refine g_goto (tgt := 100) hk dX12_levelsFirst_211 (by decide) ?_
                exact g_lv (List.forall_mem_cons.mpr ⟨List.mem_of_getElem? (i := 0) rfl, (List.forall_mem_cons.mpr ⟨List.mem_of_getElem? (i := 1) rfl, (List.forall_mem_cons.mpr ⟨List.mem_of_getElem? (i := 2) rfl, (List.forall_mem_cons.mpr ⟨List.mem_of_getElem? (i := 3) rfl, (List.forall_mem_cons.mpr ⟨List.mem_of_getElem? (i := 4) rfl, (List.forall_mem_cons.mpr ⟨List.mem_of_getElem? (i := 5) rfl, (List.forall_mem_cons.mpr ⟨List.mem_of_getElem? (i := 6) rfl, (List.forall_mem_cons.mpr ⟨List.mem_of_getElem? (i := 7) rfl, (fun _ h => absurd h List.not_mem_nil)⟩)⟩)⟩)⟩)⟩)⟩)⟩)⟩) (ih19384 y19387 I19280 A19280 L19280 (show Md [] I I19280 from Md.tr hI19280 (show Md [] I19280 I19280 from Md.rf) rfl) (show Md [19] A A19280 from Md.tr hA19280 (show Md [19] A19280 A19280 from Md.rf) rfl) hV19280 (by omega) (by omega) (by omega) (by omega))
              by_cases c19388 : (A 18 162).toInt = 1
              · refine g_tabIn (tgt := 143) (a := 1) hk dX12_levelsFirst_114 c19388 (by decide) (by decide) rfl (by decide) ?_
                refine g_aload_n hk dX12_levelsFirst_143 rfl ?_
                refine gM_r0_38 hk hin12 (List.mem_cons_of_mem _ (List.mem_append_left _ (List.mem_of_getElem? (i := 0) rfl))) dX12_levelsFirst_144 ?_
                refine g_iload hk dX12_levelsFirst_147 rfl ?_
                refine g_dup2 hk dX12_levelsFirst_149 rfl rfl ?_
                refine lM_19 (v := (A19280 19 x19272.toNatClampNeg)) hk (vp_in_iff.mpr ⟨by omega, by omega⟩) rfl dX12_levelsFirst_150 ?_
                refine g_iload hk dX12_levelsFirst_151 rfl ?_
                have b19389l := Int32.le_toInt (A19280 19 x19272.toNatClampNeg)
                have b19389h := Int32.toInt_lt (A19280 19 x19272.toNatClampNeg)
                have b19390l := Int32.le_toInt y19271
                have b19390h := Int32.toInt_lt y19271
                refine g_isub hk dX12_levelsFirst_153 ?_
                refine g_topi (fun y19391 ey19391 => ?_)
                have hy19391 := i32_sub0 ey19391
                refine sM_19 (j := x19272.toNatClampNeg) hk (vp_in_iff.mpr ⟨by omega, by omega⟩) rfl dX12_levelsFirst_154 ?_
                refine g_goto (tgt := 208) hk dX12_levelsFirst_155 (by decide) ?_
                obtain ⟨y19392, ey19392⟩ : ∃ y : Int32, y = x19272 + Int32.ofInt 1 := ⟨_, rfl⟩
                have hy19392 : y19392.toInt = x19272.toInt + 1 := i32_add ey19392 rfl (by decide) (by omega) (by omega)
                refine g_iinc (v := y19392) (lv' := [(7, .int y19392), (6, .int y19271), (5, .int (A 19 0)), (4, .int x18687), (3, .int x18688), (2, .int x18689), (0, .ref (r 0)), (1, .int z1)]) hk 0 dX12_levelsFirst_208 rfl ey19392.symm (by decide) rfl ?_
                refine g_goto (tgt := 100) hk dX12_levelsFirst_211 (by decide) ?_
                exact g_lv (List.forall_mem_cons.mpr ⟨List.mem_of_getElem? (i := 0) rfl, (List.forall_mem_cons.mpr ⟨List.mem_of_getElem? (i := 1) rfl, (List.forall_mem_cons.mpr ⟨List.mem_of_getElem? (i := 2) rfl, (List.forall_mem_cons.mpr ⟨List.mem_of_getElem? (i := 3) rfl, (List.forall_mem_cons.mpr ⟨List.mem_of_getElem? (i := 4) rfl, (List.forall_mem_cons.mpr ⟨List.mem_of_getElem? (i := 5) rfl, (List.forall_mem_cons.mpr ⟨List.mem_of_getElem? (i := 6) rfl, (List.forall_mem_cons.mpr ⟨List.mem_of_getElem? (i := 7) rfl, (fun _ h => absurd h List.not_mem_nil)⟩)⟩)⟩)⟩)⟩)⟩)⟩)⟩) (ih19384 y19392 I19280 (up3 A19280 19 (x19272.toNatClampNeg) y19391) L19280 (show Md [] I I19280 from Md.tr hI19280 (show Md [] I19280 I19280 from Md.rf) rfl) (show Md [19] A (up3 A19280 19 (x19272.toNatClampNeg) y19391) from Md.tr hA19280 (show Md [19] A19280 (up3 A19280 19 (x19272.toNatClampNeg) y19391) from (Md.up3 Md.rf rfl)) rfl) ⟨(IvM_f1 (I := I19280) (A := A19280) hV19280), (IvM_f2 (I := I19280) (A := A19280) hV19280), (IvM_f3 (I := I19280) (A := A19280) hV19280), (IvM_f4 (I := I19280) (A := A19280) hV19280), (IvM_f6 (I := I19280) (A := A19280) hV19280), (IvM_f8 (I := I19280) (A := A19280) hV19280), (IvM_f15 (I := I19280) (A := A19280) hV19280), (IvM_f16 (I := I19280) (A := A19280) hV19280), (IvM_f17 (I := I19280) (A := A19280) hV19280), (IvM_f18 (I := I19280) (A := A19280) hV19280), (IvM_f22 (I := I19280) (A := A19280) hV19280), (IvM_f23 (I := I19280) (A := A19280) hV19280), (IvM_f24 (I := I19280) (A := A19280) hV19280), (IvM_a11 (I := I19280) (A := A19280) hV19280), (IvM_a26 (I := I19280) (A := A19280) hV19280), (IvM_s8_0 (I := I19280) (A := A19280) hV19280), (IvM_s8_1 (I := I19280) (A := A19280) hV19280), (IvM_s10_0 (I := I19280) (A := A19280) hV19280), (IvM_s10_1 (I := I19280) (A := A19280) hV19280), (IvM_s17_0 (I := I19280) (A := A19280) hV19280), (IvM_s17_164 (I := I19280) (A := A19280) hV19280), (IvM_lv (I := I19280) (A := A19280) hV19280), (IvM_sd (I := I19280) (A := A19280) hV19280), (IvM_nq (I := I19280) (A := A19280) hV19280), (IvM_hr (I := I19280) (A := A19280) hV19280), (IvM_hh (I := I19280) (A := A19280) hV19280), trivial⟩ (by omega) (by omega) (by omega) (by omega))
              by_cases c19393 : (A 18 162).toInt = 2
              · refine g_tabIn (tgt := 158) (a := 2) hk dX12_levelsFirst_114 c19393 (by decide) (by decide) rfl (by decide) ?_
                refine g_aload_n hk dX12_levelsFirst_158 rfl ?_
                refine gM_r0_38 hk hin12 (List.mem_cons_of_mem _ (List.mem_append_left _ (List.mem_of_getElem? (i := 0) rfl))) dX12_levelsFirst_159 ?_
                refine g_iload hk dX12_levelsFirst_162 rfl ?_
                refine g_dup2 hk dX12_levelsFirst_164 rfl rfl ?_
                refine lM_19 (v := (A19280 19 x19272.toNatClampNeg)) hk (vp_in_iff.mpr ⟨by omega, by omega⟩) rfl dX12_levelsFirst_165 ?_
                refine g_iload hk dX12_levelsFirst_166 rfl ?_
                have b19394l := Int32.le_toInt (A19280 19 x19272.toNatClampNeg)
                have b19394h := Int32.toInt_lt (A19280 19 x19272.toNatClampNeg)
                have b19395l := Int32.le_toInt (A 19 0)
                have b19395h := Int32.toInt_lt (A 19 0)
                refine g_isub hk dX12_levelsFirst_168 ?_
                refine g_topi (fun y19396 ey19396 => ?_)
                have hy19396 := i32_sub0 ey19396
                refine sM_19 (j := x19272.toNatClampNeg) hk (vp_in_iff.mpr ⟨by omega, by omega⟩) rfl dX12_levelsFirst_169 ?_
                refine g_goto (tgt := 208) hk dX12_levelsFirst_170 (by decide) ?_
                obtain ⟨y19397, ey19397⟩ : ∃ y : Int32, y = x19272 + Int32.ofInt 1 := ⟨_, rfl⟩
                have hy19397 : y19397.toInt = x19272.toInt + 1 := i32_add ey19397 rfl (by decide) (by omega) (by omega)
                refine g_iinc (v := y19397) (lv' := [(7, .int y19397), (6, .int y19271), (5, .int (A 19 0)), (4, .int x18687), (3, .int x18688), (2, .int x18689), (0, .ref (r 0)), (1, .int z1)]) hk 0 dX12_levelsFirst_208 rfl ey19397.symm (by decide) rfl ?_
                refine g_goto (tgt := 100) hk dX12_levelsFirst_211 (by decide) ?_
                exact g_lv (List.forall_mem_cons.mpr ⟨List.mem_of_getElem? (i := 0) rfl, (List.forall_mem_cons.mpr ⟨List.mem_of_getElem? (i := 1) rfl, (List.forall_mem_cons.mpr ⟨List.mem_of_getElem? (i := 2) rfl, (List.forall_mem_cons.mpr ⟨List.mem_of_getElem? (i := 3) rfl, (List.forall_mem_cons.mpr ⟨List.mem_of_getElem? (i := 4) rfl, (List.forall_mem_cons.mpr ⟨List.mem_of_getElem? (i := 5) rfl, (List.forall_mem_cons.mpr ⟨List.mem_of_getElem? (i := 6) rfl, (List.forall_mem_cons.mpr ⟨List.mem_of_getElem? (i := 7) rfl, (fun _ h => absurd h List.not_mem_nil)⟩)⟩)⟩)⟩)⟩)⟩)⟩)⟩) (ih19384 y19397 I19280 (up3 A19280 19 (x19272.toNatClampNeg) y19396) L19280 (show Md [] I I19280 from Md.tr hI19280 (show Md [] I19280 I19280 from Md.rf) rfl) (show Md [19] A (up3 A19280 19 (x19272.toNatClampNeg) y19396) from Md.tr hA19280 (show Md [19] A19280 (up3 A19280 19 (x19272.toNatClampNeg) y19396) from (Md.up3 Md.rf rfl)) rfl) ⟨(IvM_f1 (I := I19280) (A := A19280) hV19280), (IvM_f2 (I := I19280) (A := A19280) hV19280), (IvM_f3 (I := I19280) (A := A19280) hV19280), (IvM_f4 (I := I19280) (A := A19280) hV19280), (IvM_f6 (I := I19280) (A := A19280) hV19280), (IvM_f8 (I := I19280) (A := A19280) hV19280), (IvM_f15 (I := I19280) (A := A19280) hV19280), (IvM_f16 (I := I19280) (A := A19280) hV19280), (IvM_f17 (I := I19280) (A := A19280) hV19280), (IvM_f18 (I := I19280) (A := A19280) hV19280), (IvM_f22 (I := I19280) (A := A19280) hV19280), (IvM_f23 (I := I19280) (A := A19280) hV19280), (IvM_f24 (I := I19280) (A := A19280) hV19280), (IvM_a11 (I := I19280) (A := A19280) hV19280), (IvM_a26 (I := I19280) (A := A19280) hV19280), (IvM_s8_0 (I := I19280) (A := A19280) hV19280), (IvM_s8_1 (I := I19280) (A := A19280) hV19280), (IvM_s10_0 (I := I19280) (A := A19280) hV19280), (IvM_s10_1 (I := I19280) (A := A19280) hV19280), (IvM_s17_0 (I := I19280) (A := A19280) hV19280), (IvM_s17_164 (I := I19280) (A := A19280) hV19280), (IvM_lv (I := I19280) (A := A19280) hV19280), (IvM_sd (I := I19280) (A := A19280) hV19280), (IvM_nq (I := I19280) (A := A19280) hV19280), (IvM_hr (I := I19280) (A := A19280) hV19280), (IvM_hh (I := I19280) (A := A19280) hV19280), trivial⟩ (by omega) (by omega) (by omega) (by omega))
              refine g_tabOut (tgt := 173) (a := (A 18 162).toInt) hk dX12_levelsFirst_114 rfl (by omega) (by decide) ?_
              refine g_aload_n hk dX12_levelsFirst_173 rfl ?_
              refine gM_r0_38 hk hin12 (List.mem_cons_of_mem _ (List.mem_append_left _ (List.mem_of_getElem? (i := 0) rfl))) dX12_levelsFirst_174 ?_
              refine g_iload hk dX12_levelsFirst_177 rfl ?_
              refine g_iload hk dX12_levelsFirst_179 rfl ?_
              refine g_iload_n hk dX12_levelsFirst_181 rfl ?_
              have b19398l := Int32.le_toInt x18687
              have b19398h := Int32.toInt_lt x18687
              have b19399l := Int32.le_toInt x18688
              have b19399h := Int32.toInt_lt x18688
              refine g_icmp_ne (tgt := 189) (a := x18687.toInt) (b := x18688.toInt) hk dX12_levelsFirst_182 (by decide) rfl rfl (fun c19400 => ?_) (fun c19400 => ?_)
              · skip
                refine g_sipush (v := 1000) hk dX12_levelsFirst_189 (by decide) ?_
                refine g_aload_n hk dX12_levelsFirst_192 rfl ?_
                refine gM_r0_38 hk hin12 (List.mem_cons_of_mem _ (List.mem_append_left _ (List.mem_of_getElem? (i := 0) rfl))) dX12_levelsFirst_193 ?_
                refine g_iload hk dX12_levelsFirst_196 rfl ?_
                refine lM_19 (v := (A19280 19 x19272.toNatClampNeg)) hk (vp_in_iff.mpr ⟨by omega, by omega⟩) rfl dX12_levelsFirst_198 ?_
                refine g_iload_n hk dX12_levelsFirst_199 rfl ?_
                have b19401l := Int32.le_toInt (A19280 19 x19272.toNatClampNeg)
                have b19401h := Int32.toInt_lt (A19280 19 x19272.toNatClampNeg)
                refine g_isub hk dX12_levelsFirst_200 ?_
                refine g_topi (fun y19402 ey19402 => ?_)
                have hy19402 := i32_sub0 ey19402
                have b19403l := Int32.le_toInt y19402
                have b19403h := Int32.toInt_lt y19402
                refine g_imul hk dX12_levelsFirst_201 ?_
                refine g_topi (fun y19404 ey19404 => ?_)
                refine g_iload hk dX12_levelsFirst_202 rfl ?_
                refine g_iload_n hk dX12_levelsFirst_204 rfl ?_
                refine g_isub hk dX12_levelsFirst_205 ?_
                refine g_topi (fun y19405 ey19405 => ?_)
                have hy19405 := i32_sub0 ey19405
                have b19406l := Int32.le_toInt y19405
                have b19406h := Int32.toInt_lt y19405
                refine g_idiv hk dX12_levelsFirst_206 (i32_ne0 (by omega)) ?_
                refine g_topi (fun y19407 ey19407 => ?_)
                refine sM_19 (j := x19272.toNatClampNeg) hk (vp_in_iff.mpr ⟨by omega, by omega⟩) rfl dX12_levelsFirst_207 ?_
                obtain ⟨y19408, ey19408⟩ : ∃ y : Int32, y = x19272 + Int32.ofInt 1 := ⟨_, rfl⟩
                have hy19408 : y19408.toInt = x19272.toInt + 1 := i32_add ey19408 rfl (by decide) (by omega) (by omega)
                refine g_iinc (v := y19408) (lv' := [(7, .int y19408), (6, .int y19271), (5, .int (A 19 0)), (4, .int x18687), (3, .int x18688), (2, .int x18689), (0, .ref (r 0)), (1, .int z1)]) hk 0 dX12_levelsFirst_208 rfl ey19408.symm (by decide) rfl ?_
                refine g_goto (tgt := 100) hk dX12_levelsFirst_211 (by decide) ?_
                exact g_lv (List.forall_mem_cons.mpr ⟨List.mem_of_getElem? (i := 0) rfl, (List.forall_mem_cons.mpr ⟨List.mem_of_getElem? (i := 1) rfl, (List.forall_mem_cons.mpr ⟨List.mem_of_getElem? (i := 2) rfl, (List.forall_mem_cons.mpr ⟨List.mem_of_getElem? (i := 3) rfl, (List.forall_mem_cons.mpr ⟨List.mem_of_getElem? (i := 4) rfl, (List.forall_mem_cons.mpr ⟨List.mem_of_getElem? (i := 5) rfl, (List.forall_mem_cons.mpr ⟨List.mem_of_getElem? (i := 6) rfl, (List.forall_mem_cons.mpr ⟨List.mem_of_getElem? (i := 7) rfl, (fun _ h => absurd h List.not_mem_nil)⟩)⟩)⟩)⟩)⟩)⟩)⟩)⟩) (ih19384 y19408 I19280 (up3 A19280 19 (x19272.toNatClampNeg) y19407) L19280 (show Md [] I I19280 from Md.tr hI19280 (show Md [] I19280 I19280 from Md.rf) rfl) (show Md [19] A (up3 A19280 19 (x19272.toNatClampNeg) y19407) from Md.tr hA19280 (show Md [19] A19280 (up3 A19280 19 (x19272.toNatClampNeg) y19407) from (Md.up3 Md.rf rfl)) rfl) ⟨(IvM_f1 (I := I19280) (A := A19280) hV19280), (IvM_f2 (I := I19280) (A := A19280) hV19280), (IvM_f3 (I := I19280) (A := A19280) hV19280), (IvM_f4 (I := I19280) (A := A19280) hV19280), (IvM_f6 (I := I19280) (A := A19280) hV19280), (IvM_f8 (I := I19280) (A := A19280) hV19280), (IvM_f15 (I := I19280) (A := A19280) hV19280), (IvM_f16 (I := I19280) (A := A19280) hV19280), (IvM_f17 (I := I19280) (A := A19280) hV19280), (IvM_f18 (I := I19280) (A := A19280) hV19280), (IvM_f22 (I := I19280) (A := A19280) hV19280), (IvM_f23 (I := I19280) (A := A19280) hV19280), (IvM_f24 (I := I19280) (A := A19280) hV19280), (IvM_a11 (I := I19280) (A := A19280) hV19280), (IvM_a26 (I := I19280) (A := A19280) hV19280), (IvM_s8_0 (I := I19280) (A := A19280) hV19280), (IvM_s8_1 (I := I19280) (A := A19280) hV19280), (IvM_s10_0 (I := I19280) (A := A19280) hV19280), (IvM_s10_1 (I := I19280) (A := A19280) hV19280), (IvM_s17_0 (I := I19280) (A := A19280) hV19280), (IvM_s17_164 (I := I19280) (A := A19280) hV19280), (IvM_lv (I := I19280) (A := A19280) hV19280), (IvM_sd (I := I19280) (A := A19280) hV19280), (IvM_nq (I := I19280) (A := A19280) hV19280), (IvM_hr (I := I19280) (A := A19280) hV19280), (IvM_hh (I := I19280) (A := A19280) hV19280), trivial⟩ (by omega) (by omega) (by omega) (by omega))
              · skip
                refine g_iconst (v := 0) hk dX12_levelsFirst_185 (by decide) ?_
                refine g_goto (tgt := 207) hk dX12_levelsFirst_186 (by decide) ?_
                have k19409 : (0 : Int32).toInt = 0 := rfl
                refine sM_19 (j := x19272.toNatClampNeg) hk (vp_in_iff.mpr ⟨by omega, by omega⟩) rfl dX12_levelsFirst_207 ?_
                obtain ⟨y19410, ey19410⟩ : ∃ y : Int32, y = x19272 + Int32.ofInt 1 := ⟨_, rfl⟩
                have hy19410 : y19410.toInt = x19272.toInt + 1 := i32_add ey19410 rfl (by decide) (by omega) (by omega)
                refine g_iinc (v := y19410) (lv' := [(7, .int y19410), (6, .int y19271), (5, .int (A 19 0)), (4, .int x18687), (3, .int x18688), (2, .int x18689), (0, .ref (r 0)), (1, .int z1)]) hk 0 dX12_levelsFirst_208 rfl ey19410.symm (by decide) rfl ?_
                refine g_goto (tgt := 100) hk dX12_levelsFirst_211 (by decide) ?_
                exact g_lv (List.forall_mem_cons.mpr ⟨List.mem_of_getElem? (i := 0) rfl, (List.forall_mem_cons.mpr ⟨List.mem_of_getElem? (i := 1) rfl, (List.forall_mem_cons.mpr ⟨List.mem_of_getElem? (i := 2) rfl, (List.forall_mem_cons.mpr ⟨List.mem_of_getElem? (i := 3) rfl, (List.forall_mem_cons.mpr ⟨List.mem_of_getElem? (i := 4) rfl, (List.forall_mem_cons.mpr ⟨List.mem_of_getElem? (i := 5) rfl, (List.forall_mem_cons.mpr ⟨List.mem_of_getElem? (i := 6) rfl, (List.forall_mem_cons.mpr ⟨List.mem_of_getElem? (i := 7) rfl, (fun _ h => absurd h List.not_mem_nil)⟩)⟩)⟩)⟩)⟩)⟩)⟩)⟩) (ih19384 y19410 I19280 (up3 A19280 19 (x19272.toNatClampNeg) 0) L19280 (show Md [] I I19280 from Md.tr hI19280 (show Md [] I19280 I19280 from Md.rf) rfl) (show Md [19] A (up3 A19280 19 (x19272.toNatClampNeg) 0) from Md.tr hA19280 (show Md [19] A19280 (up3 A19280 19 (x19272.toNatClampNeg) 0) from (Md.up3 Md.rf rfl)) rfl) ⟨(IvM_f1 (I := I19280) (A := A19280) hV19280), (IvM_f2 (I := I19280) (A := A19280) hV19280), (IvM_f3 (I := I19280) (A := A19280) hV19280), (IvM_f4 (I := I19280) (A := A19280) hV19280), (IvM_f6 (I := I19280) (A := A19280) hV19280), (IvM_f8 (I := I19280) (A := A19280) hV19280), (IvM_f15 (I := I19280) (A := A19280) hV19280), (IvM_f16 (I := I19280) (A := A19280) hV19280), (IvM_f17 (I := I19280) (A := A19280) hV19280), (IvM_f18 (I := I19280) (A := A19280) hV19280), (IvM_f22 (I := I19280) (A := A19280) hV19280), (IvM_f23 (I := I19280) (A := A19280) hV19280), (IvM_f24 (I := I19280) (A := A19280) hV19280), (IvM_a11 (I := I19280) (A := A19280) hV19280), (IvM_a26 (I := I19280) (A := A19280) hV19280), (IvM_s8_0 (I := I19280) (A := A19280) hV19280), (IvM_s8_1 (I := I19280) (A := A19280) hV19280), (IvM_s10_0 (I := I19280) (A := A19280) hV19280), (IvM_s10_1 (I := I19280) (A := A19280) hV19280), (IvM_s17_0 (I := I19280) (A := A19280) hV19280), (IvM_s17_164 (I := I19280) (A := A19280) hV19280), (IvM_lv (I := I19280) (A := A19280) hV19280), (IvM_sd (I := I19280) (A := A19280) hV19280), (IvM_nq (I := I19280) (A := A19280) hV19280), (IvM_hr (I := I19280) (A := A19280) hV19280), (IvM_hh (I := I19280) (A := A19280) hV19280), trivial⟩ (by omega) (by omega) (by omega) (by omega))
        have k19411 : (0 : Int32).toInt = 0 := rfl
        obtain ⟨n19412, n19412a, n19412b⟩ : ∃ n : Nat, 17 - (0 : Int32).toInt < (n : Int) ∧ 0 < n := ⟨((17 - (0 : Int32).toInt : Int)).toNat + 1, by omega, by omega⟩
        exact lp19381 n19412 0 I A L Md.rf Md.rf hIv (by omega) (by omega) n19412a n19412b
      · skip
        refine g_iload_n hk dX12_levelsFirst_34 rfl ?_
        refine g_aload_n hk dX12_levelsFirst_35 rfl ?_
        refine gM_r0_38 hk hin12 (List.mem_cons_of_mem _ (List.mem_append_left _ (List.mem_of_getElem? (i := 0) rfl))) dX12_levelsFirst_36 ?_
        refine g_iload hk dX12_levelsFirst_39 rfl ?_
        refine lM_19 (v := (A 19 x18685.toNatClampNeg)) hk (vp_in_iff.mpr ⟨by omega, by omega⟩) rfl dX12_levelsFirst_41 ?_
        have b19413l := Int32.le_toInt x18689
        have b19413h := Int32.toInt_lt x18689
        have b19414l := Int32.le_toInt (A 19 x18685.toNatClampNeg)
        have b19414h := Int32.toInt_lt (A 19 x18685.toNatClampNeg)
        refine g_iadd hk dX12_levelsFirst_42 ?_
        refine g_topi (fun y19415 ey19415 => ?_)
        refine g_istore_n (lv' := [(2, .int y19415), (6, .int x18685), (5, .int (A 19 0)), (4, .int x18687), (3, .int x18688), (0, .ref (r 0)), (1, .int z1)]) hk dX12_levelsFirst_43 (by decide) rfl ?_
        refine g_aload_n hk dX12_levelsFirst_44 rfl ?_
        refine gM_r0_38 hk hin12 (List.mem_cons_of_mem _ (List.mem_append_left _ (List.mem_of_getElem? (i := 0) rfl))) dX12_levelsFirst_45 ?_
        refine g_iload hk dX12_levelsFirst_48 rfl ?_
        refine lM_19 (v := (A 19 x18685.toNatClampNeg)) hk (vp_in_iff.mpr ⟨by omega, by omega⟩) rfl dX12_levelsFirst_50 ?_
        refine g_iload_n hk dX12_levelsFirst_51 rfl ?_
        have b19416l := Int32.le_toInt x18688
        have b19416h := Int32.toInt_lt x18688
        refine g_icmp_ge (tgt := 63) (a := (A 19 x18685.toNatClampNeg).toInt) (b := x18688.toInt) hk dX12_levelsFirst_52 (by decide) rfl rfl (fun c19417 => ?_) (fun c19417 => ?_)
        · skip
          refine g_aload_n hk dX12_levelsFirst_63 rfl ?_
          refine gM_r0_38 hk hin12 (List.mem_cons_of_mem _ (List.mem_append_left _ (List.mem_of_getElem? (i := 0) rfl))) dX12_levelsFirst_64 ?_
          refine g_iload hk dX12_levelsFirst_67 rfl ?_
          refine lM_19 (v := (A 19 x18685.toNatClampNeg)) hk (vp_in_iff.mpr ⟨by omega, by omega⟩) rfl dX12_levelsFirst_69 ?_
          refine g_iload hk dX12_levelsFirst_70 rfl ?_
          have b19418l := Int32.le_toInt x18687
          have b19418h := Int32.toInt_lt x18687
          refine g_icmp_le (tgt := 84) (a := (A 19 x18685.toNatClampNeg).toInt) (b := x18687.toInt) hk dX12_levelsFirst_72 (by decide) rfl rfl (fun c19419 => ?_) (fun c19419 => ?_)
          · skip
            obtain ⟨y19420, ey19420⟩ : ∃ y : Int32, y = x18685 + Int32.ofInt 1 := ⟨_, rfl⟩
            have hy19420 : y19420.toInt = x18685.toInt + 1 := i32_add ey19420 rfl (by decide) (by omega) (by omega)
            refine g_iinc (v := y19420) (lv' := [(6, .int y19420), (2, .int y19415), (5, .int (A 19 0)), (4, .int x18687), (3, .int x18688), (0, .ref (r 0)), (1, .int z1)]) hk 1 dX12_levelsFirst_84 rfl ey19420.symm (by decide) rfl ?_
            refine g_goto (tgt := 28) hk dX12_levelsFirst_87 (by decide) ?_
            have b19421l := Int32.le_toInt y19415
            have b19421h := Int32.toInt_lt y19415
            exact g_lv (List.forall_mem_cons.mpr ⟨List.mem_of_getElem? (i := 0) rfl, (List.forall_mem_cons.mpr ⟨List.mem_of_getElem? (i := 2) rfl, (List.forall_mem_cons.mpr ⟨List.mem_of_getElem? (i := 3) rfl, (List.forall_mem_cons.mpr ⟨List.mem_of_getElem? (i := 4) rfl, (List.forall_mem_cons.mpr ⟨List.mem_of_getElem? (i := 1) rfl, (List.forall_mem_cons.mpr ⟨List.mem_of_getElem? (i := 5) rfl, (List.forall_mem_cons.mpr ⟨List.mem_of_getElem? (i := 6) rfl, (fun _ h => absurd h List.not_mem_nil)⟩)⟩)⟩)⟩)⟩)⟩)⟩) (ih19269 y19420 x18687 x18688 y19415 (by omega) (by omega) (by omega) (by omega))
          · skip
            refine g_aload_n hk dX12_levelsFirst_75 rfl ?_
            refine gM_r0_38 hk hin12 (List.mem_cons_of_mem _ (List.mem_append_left _ (List.mem_of_getElem? (i := 0) rfl))) dX12_levelsFirst_76 ?_
            refine g_iload hk dX12_levelsFirst_79 rfl ?_
            refine lM_19 (v := (A 19 x18685.toNatClampNeg)) hk (vp_in_iff.mpr ⟨by omega, by omega⟩) rfl dX12_levelsFirst_81 ?_
            refine g_istore (lv' := [(4, .int (A 19 x18685.toNatClampNeg)), (2, .int y19415), (6, .int x18685), (5, .int (A 19 0)), (3, .int x18688), (0, .ref (r 0)), (1, .int z1)]) hk dX12_levelsFirst_82 (by decide) rfl ?_
            obtain ⟨y19422, ey19422⟩ : ∃ y : Int32, y = x18685 + Int32.ofInt 1 := ⟨_, rfl⟩
            have hy19422 : y19422.toInt = x18685.toInt + 1 := i32_add ey19422 rfl (by decide) (by omega) (by omega)
            refine g_iinc (v := y19422) (lv' := [(6, .int y19422), (4, .int (A 19 x18685.toNatClampNeg)), (2, .int y19415), (5, .int (A 19 0)), (3, .int x18688), (0, .ref (r 0)), (1, .int z1)]) hk 2 dX12_levelsFirst_84 rfl ey19422.symm (by decide) rfl ?_
            refine g_goto (tgt := 28) hk dX12_levelsFirst_87 (by decide) ?_
            have b19423l := Int32.le_toInt y19415
            have b19423h := Int32.toInt_lt y19415
            exact g_lv (List.forall_mem_cons.mpr ⟨List.mem_of_getElem? (i := 0) rfl, (List.forall_mem_cons.mpr ⟨List.mem_of_getElem? (i := 3) rfl, (List.forall_mem_cons.mpr ⟨List.mem_of_getElem? (i := 1) rfl, (List.forall_mem_cons.mpr ⟨List.mem_of_getElem? (i := 4) rfl, (List.forall_mem_cons.mpr ⟨List.mem_of_getElem? (i := 2) rfl, (List.forall_mem_cons.mpr ⟨List.mem_of_getElem? (i := 5) rfl, (List.forall_mem_cons.mpr ⟨List.mem_of_getElem? (i := 6) rfl, (fun _ h => absurd h List.not_mem_nil)⟩)⟩)⟩)⟩)⟩)⟩)⟩) (ih19269 y19422 (A 19 x18685.toNatClampNeg) x18688 y19415 (by omega) (by omega) (by omega) (by omega))
        · skip
          refine g_aload_n hk dX12_levelsFirst_55 rfl ?_
          refine gM_r0_38 hk hin12 (List.mem_cons_of_mem _ (List.mem_append_left _ (List.mem_of_getElem? (i := 0) rfl))) dX12_levelsFirst_56 ?_
          refine g_iload hk dX12_levelsFirst_59 rfl ?_
          refine lM_19 (v := (A 19 x18685.toNatClampNeg)) hk (vp_in_iff.mpr ⟨by omega, by omega⟩) rfl dX12_levelsFirst_61 ?_
          refine g_istore_n (lv' := [(3, .int (A 19 x18685.toNatClampNeg)), (2, .int y19415), (6, .int x18685), (5, .int (A 19 0)), (4, .int x18687), (0, .ref (r 0)), (1, .int z1)]) hk dX12_levelsFirst_62 (by decide) rfl ?_
          refine g_aload_n hk dX12_levelsFirst_63 rfl ?_
          refine gM_r0_38 hk hin12 (List.mem_cons_of_mem _ (List.mem_append_left _ (List.mem_of_getElem? (i := 0) rfl))) dX12_levelsFirst_64 ?_
          refine g_iload hk dX12_levelsFirst_67 rfl ?_
          refine lM_19 (v := (A 19 x18685.toNatClampNeg)) hk (vp_in_iff.mpr ⟨by omega, by omega⟩) rfl dX12_levelsFirst_69 ?_
          refine g_iload hk dX12_levelsFirst_70 rfl ?_
          have b19424l := Int32.le_toInt x18687
          have b19424h := Int32.toInt_lt x18687
          refine g_icmp_le (tgt := 84) (a := (A 19 x18685.toNatClampNeg).toInt) (b := x18687.toInt) hk dX12_levelsFirst_72 (by decide) rfl rfl (fun c19425 => ?_) (fun c19425 => ?_)
          · skip
            obtain ⟨y19426, ey19426⟩ : ∃ y : Int32, y = x18685 + Int32.ofInt 1 := ⟨_, rfl⟩
            have hy19426 : y19426.toInt = x18685.toInt + 1 := i32_add ey19426 rfl (by decide) (by omega) (by omega)
            refine g_iinc (v := y19426) (lv' := [(6, .int y19426), (3, .int (A 19 x18685.toNatClampNeg)), (2, .int y19415), (5, .int (A 19 0)), (4, .int x18687), (0, .ref (r 0)), (1, .int z1)]) hk 2 dX12_levelsFirst_84 rfl ey19426.symm (by decide) rfl ?_
            refine g_goto (tgt := 28) hk dX12_levelsFirst_87 (by decide) ?_
            have b19427l := Int32.le_toInt y19415
            have b19427h := Int32.toInt_lt y19415
            exact g_lv (List.forall_mem_cons.mpr ⟨List.mem_of_getElem? (i := 0) rfl, (List.forall_mem_cons.mpr ⟨List.mem_of_getElem? (i := 3) rfl, (List.forall_mem_cons.mpr ⟨List.mem_of_getElem? (i := 4) rfl, (List.forall_mem_cons.mpr ⟨List.mem_of_getElem? (i := 1) rfl, (List.forall_mem_cons.mpr ⟨List.mem_of_getElem? (i := 2) rfl, (List.forall_mem_cons.mpr ⟨List.mem_of_getElem? (i := 5) rfl, (List.forall_mem_cons.mpr ⟨List.mem_of_getElem? (i := 6) rfl, (fun _ h => absurd h List.not_mem_nil)⟩)⟩)⟩)⟩)⟩)⟩)⟩) (ih19269 y19426 x18687 (A 19 x18685.toNatClampNeg) y19415 (by omega) (by omega) (by omega) (by omega))
          · skip
            refine g_aload_n hk dX12_levelsFirst_75 rfl ?_
            refine gM_r0_38 hk hin12 (List.mem_cons_of_mem _ (List.mem_append_left _ (List.mem_of_getElem? (i := 0) rfl))) dX12_levelsFirst_76 ?_
            refine g_iload hk dX12_levelsFirst_79 rfl ?_
            refine lM_19 (v := (A 19 x18685.toNatClampNeg)) hk (vp_in_iff.mpr ⟨by omega, by omega⟩) rfl dX12_levelsFirst_81 ?_
            refine g_istore (lv' := [(4, .int (A 19 x18685.toNatClampNeg)), (3, .int (A 19 x18685.toNatClampNeg)), (2, .int y19415), (6, .int x18685), (5, .int (A 19 0)), (0, .ref (r 0)), (1, .int z1)]) hk dX12_levelsFirst_82 (by decide) rfl ?_
            obtain ⟨y19428, ey19428⟩ : ∃ y : Int32, y = x18685 + Int32.ofInt 1 := ⟨_, rfl⟩
            have hy19428 : y19428.toInt = x18685.toInt + 1 := i32_add ey19428 rfl (by decide) (by omega) (by omega)
            refine g_iinc (v := y19428) (lv' := [(6, .int y19428), (4, .int (A 19 x18685.toNatClampNeg)), (3, .int (A 19 x18685.toNatClampNeg)), (2, .int y19415), (5, .int (A 19 0)), (0, .ref (r 0)), (1, .int z1)]) hk 3 dX12_levelsFirst_84 rfl ey19428.symm (by decide) rfl ?_
            refine g_goto (tgt := 28) hk dX12_levelsFirst_87 (by decide) ?_
            have b19429l := Int32.le_toInt y19415
            have b19429h := Int32.toInt_lt y19415
            exact g_lv (List.forall_mem_cons.mpr ⟨List.mem_of_getElem? (i := 0) rfl, (List.forall_mem_cons.mpr ⟨List.mem_of_getElem? (i := 4) rfl, (List.forall_mem_cons.mpr ⟨List.mem_of_getElem? (i := 1) rfl, (List.forall_mem_cons.mpr ⟨List.mem_of_getElem? (i := 2) rfl, (List.forall_mem_cons.mpr ⟨List.mem_of_getElem? (i := 3) rfl, (List.forall_mem_cons.mpr ⟨List.mem_of_getElem? (i := 5) rfl, (List.forall_mem_cons.mpr ⟨List.mem_of_getElem? (i := 6) rfl, (fun _ h => absurd h List.not_mem_nil)⟩)⟩)⟩)⟩)⟩)⟩)⟩) (ih19269 y19428 (A 19 x18685.toNatClampNeg) (A 19 x18685.toNatClampNeg) y19415 (by omega) (by omega) (by omega) (by omega))
  have k19430 : (0 : Int32).toInt = 0 := rfl
  have b19431l := Int32.le_toInt (A 19 0)
  have b19431h := Int32.toInt_lt (A 19 0)
  obtain ⟨n19432, n19432a, n19432b⟩ : ∃ n : Nat, 17 - (0 : Int32).toInt < (n : Int) ∧ 0 < n := ⟨((17 - (0 : Int32).toInt : Int)).toNat + 1, by omega, by omega⟩
  exact lp19266 n19432 0 (A 19 0) (A 19 0) 0 (by omega) (by omega) n19432a n19432b
def wo_j165_X12_laysWindow : List Cond := [Cond.fieldLink RX12 76 "WarpDeskModel" "firstAt" "[I", Cond.fieldLink RX12 73 "WarpDeskModel" "row" "[I", Cond.methodLink RX12 264 yX12_levelsFirst, Cond.instanceMethod yX12_levelsFirst, Cond.selects RX12 yX12_levelsFirst yX12_levelsFirst, Cond.initialized RX12]
def wz_j165_X12_laysWindow : List Cond := .code yX12_laysWindow cX12_laysWindow 4 none :: (wo_j165_X12_laysWindow ++ (wsX120 ++ (wz_j166_X12_levelsFirst ++ ([] : List Cond))))
theorem zg_j165_X12_laysWindow : ∀ w ∈ wz_j165_X12_laysWindow, goodWord w = true := zg_cons rfl (zg_app (by decide +kernel) (zg_app zgU_wsX120 (zg_app zg_j166_X12_levelsFirst zg_nil)))
theorem zi_j165_X12_laysWindow : ∀ w ∈ wz_j165_X12_laysWindow, w ∈ lw_tbl := zi_cons zw_1738 (zi_app (zi_cons zw_1416 (zi_cons zw_1414 (zi_cons zw_1739 (zi_cons zw_1741 (zi_cons zw_77 (zi_cons zw_115 zi_nil)))))) (zi_app inX12 (zi_app zi_j166_X12_levelsFirst zi_nil)))
set_option maxHeartbeats 4000000 in
set_option maxRecDepth 100000 in
theorem j165_X12_laysWindow (l : Launch) (D : va_G) (zt : Nat × Nat × Nat × (Nat → Nat) × (Nat → Nat)) (r : Nat → Nat) (g : Nat → ClassId) (I : Nat → Int32) (A : Nat → Nat → Int32) (L : Nat → Nat → Int64) (z1 : Int32) (z2 : Int32) (hIv : IvM I A) (hp0 : 0 ≤ z1.toInt) (hp1 : z1.toInt ≤ 159) (hp2 : 1 ≤ z2.toInt) (hp3 : z2.toInt ≤ 16) (hp4 : z1.toInt + z2.toInt ≤ 160) : GM l D zt (tyM g) yX12_laysWindow wz_j165_X12_laysWindow ({ frames := 2, cells := 0, slots := 0, locals := 49 } : Room) [.ref (r 0), .int z1, .int z2] (wM r g I A L) (fun v _ w' => ∃ (I' : Nat → Int32) (A' : Nat → Nat → Int32) (L' : Nat → Nat → Int64), Md [] I I' ∧ Md [19] A A' ∧ IvM I' A' ∧ v = none ∧ w' = wM r g I' A' L') 0 0 := by
  refine GM.of (cc := cX12_laysWindow) (maxL := 4) (ret := none) (own := RX12) (lv := [(0, .ref (r 0)), (1, .int z1), (2, .int z2)]) (by decide) rfl rfl (Nat.le_of_ble_eq_true rfl) rfl (fun κ sz hk hR hN => ?_)
  have hin12 : ∀ w ∈ u_ws RX12 TX12 55, w ∈ wz_j165_X12_laysWindow := fun w h => (List.mem_cons_of_mem _ (List.mem_append_right _ (List.mem_append_left _ h)))
  refine g_iconst (v := 0) hk dX12_laysWindow_0 (by decide) ?_
  refine g_istore_n (lv' := [(3, .int 0), (0, .ref (r 0)), (1, .int z1), (2, .int z2)]) hk dX12_laysWindow_1 (by decide) rfl ?_
  have lp19453 : ∀ (n19454 : Nat) (x18677 : Int32) (I18681 : Nat → Int32) (A18681 : Nat → Nat → Int32) (L18681 : Nat → Nat → Int64), (Md [] I I18681) → (Md [19] A A18681) → (IvM I18681 A18681) → (0 ≤ x18677.toInt) → (x18677.toInt ≤ 16) → (17 - x18677.toInt < (n19454 : Int)) → (0 < n19454) → GW κ 4 0 0 (wM r g I18681 A18681 L18681) 2 [(3, .int x18677), (0, .ref (r 0)), (1, .int z1), (2, .int z2)] [] := by
    intro n19454
    induction n19454 with
    | zero =>
      intro x18677 I18681 A18681 L18681 hI18681 hA18681 hV18681 h19451 h19452 m19455 m19455z
      exact absurd m19455z (Nat.lt_irrefl 0)
    | succ n19454 ih19456 =>
      intro x18677 I18681 A18681 L18681 hI18681 hA18681 hV18681 h19451 h19452 m19455 m19455z
      refine g_iload_n hk dX12_laysWindow_2 rfl ?_
      refine g_iload_n hk dX12_laysWindow_3 rfl ?_
      refine g_icmp_ge (tgt := 29) (a := x18677.toInt) (b := z2.toInt) hk dX12_laysWindow_4 (by decide) rfl rfl (fun c19457 => ?_) (fun c19457 => ?_)
      · skip
        refine g_aload_n hk dX12_laysWindow_29 rfl ?_
        refine g_iload_n hk dX12_laysWindow_30 rfl ?_
        refine g_callV (n := 1) hk (j166_X12_levelsFirst l D zt r g I18681 A18681 L18681 z2 hV18681 (by omega) (by omega)) (SP.same _) (fun _ h => h) (gi_V (List.mem_cons_of_mem _ (List.mem_append_left _ (List.mem_of_getElem? (i := 2) rfl))) (List.mem_cons_of_mem _ (List.mem_append_left _ (List.mem_of_getElem? (i := 3) rfl))) (List.mem_cons_of_mem _ (List.mem_append_left _ (List.mem_of_getElem? (i := 4) rfl))) (List.mem_cons_of_mem _ (List.mem_append_left _ (List.mem_of_getElem? (i := 5) rfl))) (gi_sub (fun w h => (List.mem_cons_of_mem _ (List.mem_append_right _ (List.mem_append_right _ (List.mem_append_left _ h))))) zg_j166_X12_levelsFirst)) rfl rfl rfl (by decide +kernel) ⟨Nat.le_of_ble_eq_true rfl, Nat.le_of_ble_eq_true rfl⟩ 0 rfl rfl rfl rfl (Nat.le_of_ble_eq_true rfl) ⟨Nat.le_of_ble_eq_true rfl, Nat.le_of_ble_eq_true rfl⟩ dX12_laysWindow_31 (fun v ty' w' hp hk' => ?_)
        obtain ⟨I19459, A19459, L19459, hI19459, hA19459, hV19459, rfl, rfl⟩ := hp
        show GW κ 4 0 0 (wM r g I19459 A19459 L19459) 34 [(3, .int x18677), (0, .ref (r 0)), (1, .int z1), (2, .int z2)] []
        exact g_vret hk hR ⟨I19459, A19459, L19459, (show Md [] I I19459 from (Md.tr (Md.tr Md.rf hI18681 rfl) hI19459 rfl)), (show Md [19] A A19459 from (Md.tr (Md.tr Md.rf hA18681 rfl) hA19459 rfl)), hV19459, rfl, rfl⟩ dX12_laysWindow_34
      · skip
        refine g_aload_n hk dX12_laysWindow_7 rfl ?_
        refine gM_r0_38 hk hin12 (List.mem_cons_of_mem _ (List.mem_append_left _ (List.mem_of_getElem? (i := 0) rfl))) dX12_laysWindow_8 ?_
        refine g_iload_n hk dX12_laysWindow_11 rfl ?_
        refine g_aload_n hk dX12_laysWindow_12 rfl ?_
        refine gM_r0_36 hk hin12 (List.mem_cons_of_mem _ (List.mem_append_left _ (List.mem_of_getElem? (i := 1) rfl))) dX12_laysWindow_13 ?_
        refine g_iconst (v := 1) hk dX12_laysWindow_16 (by decide) ?_
        refine g_iload_n hk dX12_laysWindow_17 rfl ?_
        refine g_iadd hk dX12_laysWindow_18 ?_
        refine g_topi (fun y19460 ey19460 => ?_)
        have hy19460 : y19460.toInt = 1 + z1.toInt := i32_add ey19460 rfl rfl (by omega) (by omega)
        refine g_iload_n hk dX12_laysWindow_19 rfl ?_
        refine g_iadd hk dX12_laysWindow_20 ?_
        refine g_topi (fun y19461 ey19461 => ?_)
        have hy19461 : y19461.toInt = y19460.toInt + x18677.toInt := i32_add ey19461 rfl rfl (by omega) (by omega)
        refine lM_18 (v := (A 18 y19461.toNatClampNeg)) hk (vp_in_iff.mpr ⟨by omega, by omega⟩) (congrFun (hA18681 18 rfl) _) dX12_laysWindow_21 ?_
        refine sM_19 (j := x18677.toNatClampNeg) hk (vp_in_iff.mpr ⟨by omega, by omega⟩) rfl dX12_laysWindow_22 ?_
        obtain ⟨y19462, ey19462⟩ : ∃ y : Int32, y = x18677 + Int32.ofInt 1 := ⟨_, rfl⟩
        have hy19462 : y19462.toInt = x18677.toInt + 1 := i32_add ey19462 rfl (by decide) (by omega) (by omega)
        refine g_iinc (v := y19462) (lv' := [(3, .int y19462), (0, .ref (r 0)), (1, .int z1), (2, .int z2)]) hk 0 dX12_laysWindow_23 rfl ey19462.symm (by decide) rfl ?_
        refine g_goto (tgt := 2) hk dX12_laysWindow_26 (by decide) ?_
        exact g_lv (List.forall_mem_cons.mpr ⟨List.mem_of_getElem? (i := 0) rfl, (List.forall_mem_cons.mpr ⟨List.mem_of_getElem? (i := 1) rfl, (List.forall_mem_cons.mpr ⟨List.mem_of_getElem? (i := 2) rfl, (List.forall_mem_cons.mpr ⟨List.mem_of_getElem? (i := 3) rfl, (fun _ h => absurd h List.not_mem_nil)⟩)⟩)⟩)⟩) (ih19456 y19462 I18681 (up3 A18681 19 (x18677.toNatClampNeg) (A 18 y19461.toNatClampNeg)) L18681 (show Md [] I I18681 from Md.tr hI18681 (show Md [] I18681 I18681 from Md.rf) rfl) (show Md [19] A (up3 A18681 19 (x18677.toNatClampNeg) (A 18 y19461.toNatClampNeg)) from Md.tr hA18681 (show Md [19] A18681 (up3 A18681 19 (x18677.toNatClampNeg) (A 18 y19461.toNatClampNeg)) from (Md.up3 Md.rf rfl)) rfl) ⟨(IvM_f1 (I := I18681) (A := A18681) hV18681), (IvM_f2 (I := I18681) (A := A18681) hV18681), (IvM_f3 (I := I18681) (A := A18681) hV18681), (IvM_f4 (I := I18681) (A := A18681) hV18681), (IvM_f6 (I := I18681) (A := A18681) hV18681), (IvM_f8 (I := I18681) (A := A18681) hV18681), (IvM_f15 (I := I18681) (A := A18681) hV18681), (IvM_f16 (I := I18681) (A := A18681) hV18681), (IvM_f17 (I := I18681) (A := A18681) hV18681), (IvM_f18 (I := I18681) (A := A18681) hV18681), (IvM_f22 (I := I18681) (A := A18681) hV18681), (IvM_f23 (I := I18681) (A := A18681) hV18681), (IvM_f24 (I := I18681) (A := A18681) hV18681), (IvM_a11 (I := I18681) (A := A18681) hV18681), (IvM_a26 (I := I18681) (A := A18681) hV18681), (IvM_s8_0 (I := I18681) (A := A18681) hV18681), (IvM_s8_1 (I := I18681) (A := A18681) hV18681), (IvM_s10_0 (I := I18681) (A := A18681) hV18681), (IvM_s10_1 (I := I18681) (A := A18681) hV18681), (IvM_s17_0 (I := I18681) (A := A18681) hV18681), (IvM_s17_164 (I := I18681) (A := A18681) hV18681), (IvM_lv (I := I18681) (A := A18681) hV18681), (IvM_sd (I := I18681) (A := A18681) hV18681), (IvM_nq (I := I18681) (A := A18681) hV18681), (IvM_hr (I := I18681) (A := A18681) hV18681), (IvM_hh (I := I18681) (A := A18681) hV18681), trivial⟩ (by omega) (by omega) (by omega) (by omega))
  have k19463 : (0 : Int32).toInt = 0 := rfl
  obtain ⟨n19464, n19464a, n19464b⟩ : ∃ n : Nat, 17 - (0 : Int32).toInt < (n : Int) ∧ 0 < n := ⟨((17 - (0 : Int32).toInt : Int)).toNat + 1, by omega, by omega⟩
  exact lp19453 n19464 0 I A L Md.rf Md.rf hIv (by omega) (by omega) n19464a n19464b
def wo_j164_X12_level : List Cond := [Cond.methodLink RX12 244 yX12_in, Cond.static yX12_in, Cond.initialized RX12, Cond.constant RX12 332 (-1000000), Cond.methodLink RX12 257 yX12_isWindow, Cond.instanceMethod yX12_isWindow, Cond.selects RX12 yX12_isWindow yX12_isWindow, Cond.methodLink RX12 323 yX12_copies, Cond.instanceMethod yX12_copies, Cond.selects RX12 yX12_copies yX12_copies, Cond.methodLink RX12 270 yX12_laysWindow, Cond.instanceMethod yX12_laysWindow, Cond.selects RX12 yX12_laysWindow yX12_laysWindow, Cond.fieldLink RX12 76 "WarpDeskModel" "firstAt" "[I"]
def wz_j164_X12_level : List Cond := .code yX12_level cX12_level 4 (some .int) :: (wo_j164_X12_level ++ (wsX120 ++ (wz_j145_X12_in ++ (wz_j160_X12_isWindow ++ (wz_j151_X12_copies ++ (wz_j165_X12_laysWindow ++ ([] : List Cond)))))))
theorem zg_j164_X12_level : ∀ w ∈ wz_j164_X12_level, goodWord w = true := zg_cons rfl (zg_app (by decide +kernel) (zg_app zgU_wsX120 (zg_app zg_j145_X12_in (zg_app zg_j160_X12_isWindow (zg_app zg_j151_X12_copies (zg_app zg_j165_X12_laysWindow zg_nil))))))
theorem zi_j164_X12_level : ∀ w ∈ wz_j164_X12_level, w ∈ lw_tbl := zi_cons zw_1734 (zi_app (zi_cons zw_1656 (zi_cons zw_1657 (zi_cons zw_115 (zi_cons zw_1718 (zi_cons zw_1714 (zi_cons zw_1716 (zi_cons zw_72 (zi_cons zw_1679 (zi_cons zw_1681 (zi_cons zw_70 (zi_cons zw_1735 (zi_cons zw_1737 (zi_cons zw_76 (zi_cons zw_1416 zi_nil)))))))))))))) (zi_app inX12 (zi_app zi_j145_X12_in (zi_app zi_j160_X12_isWindow (zi_app zi_j151_X12_copies (zi_app zi_j165_X12_laysWindow zi_nil))))))
set_option maxHeartbeats 4000000 in
set_option maxRecDepth 100000 in
theorem j164_X12_level (l : Launch) (D : va_G) (zt : Nat × Nat × Nat × (Nat → Nat) × (Nat → Nat)) (r : Nat → Nat) (g : Nat → ClassId) (I : Nat → Int32) (A : Nat → Nat → Int32) (L : Nat → Nat → Int64) (z1 : Int32) (z2 : Int32) (z3 : Int32) (hIv : IvM I A) : GM l D zt (tyM g) yX12_level wz_j164_X12_level ({ frames := 3, cells := 0, slots := 0, locals := 72 } : Room) [.ref (r 0), .int z1, .int z2, .int z3] (wM r g I A L) (fun v _ w' => ∃ (I' : Nat → Int32) (A' : Nat → Nat → Int32) (L' : Nat → Nat → Int64), Md [] I I' ∧ Md [18, 19] A A' ∧ IvM I' A' ∧ ∃ y0 : Int32, v = some (.int y0) ∧ w' = wM r g I' A' L') 0 0 := by
  refine GM.of (cc := cX12_level) (maxL := 4) (ret := (some .int)) (own := RX12) (lv := [(0, .ref (r 0)), (1, .int z1), (2, .int z2), (3, .int z3)]) (by decide) rfl rfl (Nat.le_of_ble_eq_true rfl) rfl (fun κ sz hk hR hN => ?_)
  have hin12 : ∀ w ∈ u_ws RX12 TX12 55, w ∈ wz_j164_X12_level := fun w h => (List.mem_cons_of_mem _ (List.mem_append_right _ (List.mem_append_left _ h)))
  refine g_iload_n hk dX12_level_0 rfl ?_
  refine g_iconst (v := 2) hk dX12_level_1 (by decide) ?_
  refine g_bipush (v := 16) hk dX12_level_2 (by decide) ?_
  have k18646 : (2 : Int32).toInt = 2 := rfl
  have k18647 : (16 : Int32).toInt = 16 := rfl
  refine g_callS (n := 3) hk (j145_X12_in l D zt r g I A L z2 2 16 hIv) (SP.same _) (fun _ h => h) (gi_S (List.mem_cons_of_mem _ (List.mem_append_left _ (List.mem_of_getElem? (i := 0) rfl))) (List.mem_cons_of_mem _ (List.mem_append_left _ (List.mem_of_getElem? (i := 1) rfl))) (List.mem_cons_of_mem _ (List.mem_append_left _ (List.mem_of_getElem? (i := 2) rfl))) (gi_sub (fun w h => (List.mem_cons_of_mem _ (List.mem_append_right _ (List.mem_append_right _ (List.mem_append_left _ h))))) zg_j145_X12_in)) rfl rfl rfl (by decide +kernel) ⟨Nat.le_of_ble_eq_true rfl, Nat.le_of_ble_eq_true rfl⟩ rfl rfl (Nat.le_of_ble_eq_true rfl) ⟨Nat.le_of_ble_eq_true rfl, Nat.le_of_ble_eq_true rfl⟩ dX12_level_4 (fun v ty' w' hp hk' => ?_)
  rcases hp with ⟨c18648, rfl, rfl⟩ | ⟨c18650, c18651, rfl, rfl⟩
  · skip
    have b18653l := Int32.le_toInt z2
    have b18653h := Int32.toInt_lt z2
    show GW κ 4 0 0 (wM r g I A L) 7 [(0, .ref (r 0)), (1, .int z1), (2, .int z2), (3, .int z3)] [.int 0]
    refine g_if_eq (tgt := 30) (a := 0) hk dX12_level_7 (by decide) rfl (fun _ => ?_) (fun z9 => absurd (show (0 : Int) = (0 : Int) from by decide) z9)
    refine g_ldcw (v := (-1000000)) hk (List.mem_cons_of_mem _ (List.mem_append_left _ (List.mem_of_getElem? (i := 3) rfl))) dX12_level_30 ?_
    exact g_iret hk hR rfl ⟨I, A, L, (show Md [] I I from Md.rf), (show Md [18, 19] A A from Md.rf), hIv, (-1000000), rfl, rfl⟩ dX12_level_33
  · skip
    show GW κ 4 0 0 (wM r g I A L) 7 [(0, .ref (r 0)), (1, .int z1), (2, .int z2), (3, .int z3)] [.int 1]
    refine g_if_eq (tgt := 30) (a := 1) hk dX12_level_7 (by decide) rfl (fun z9 => absurd z9 (show ¬ ((1 : Int) = (0 : Int)) from by decide)) (fun _ => ?_)
    refine g_aload_n hk dX12_level_10 rfl ?_
    refine g_iload_n hk dX12_level_11 rfl ?_
    refine g_iload_n hk dX12_level_12 rfl ?_
    refine g_callV (n := 2) hk (j160_X12_isWindow l D zt r g I A L z1 z2 hIv) (SP.same _) (fun _ h => h) (gi_V (List.mem_cons_of_mem _ (List.mem_append_left _ (List.mem_of_getElem? (i := 4) rfl))) (List.mem_cons_of_mem _ (List.mem_append_left _ (List.mem_of_getElem? (i := 5) rfl))) (List.mem_cons_of_mem _ (List.mem_append_left _ (List.mem_of_getElem? (i := 6) rfl))) (List.mem_cons_of_mem _ (List.mem_append_left _ (List.mem_of_getElem? (i := 2) rfl))) (gi_sub (fun w h => (List.mem_cons_of_mem _ (List.mem_append_right _ (List.mem_append_right _ (List.mem_append_right _ (List.mem_append_left _ h)))))) zg_j160_X12_isWindow)) rfl rfl rfl (by decide +kernel) ⟨Nat.le_of_ble_eq_true rfl, Nat.le_of_ble_eq_true rfl⟩ 0 rfl rfl rfl rfl (Nat.le_of_ble_eq_true rfl) ⟨Nat.le_of_ble_eq_true rfl, Nat.le_of_ble_eq_true rfl⟩ dX12_level_13 (fun v ty' w' hp hk' => ?_)
    rcases hp with ⟨rfl, rfl⟩ | ⟨c18655, c18656, c18657, c18658, c18659, c18660, c18661, rfl, rfl⟩
    · skip
      show GW κ 4 0 0 (wM r g I A L) 16 [(0, .ref (r 0)), (1, .int z1), (2, .int z2), (3, .int z3)] [.int 0]
      refine g_if_eq (tgt := 30) (a := 0) hk dX12_level_16 (by decide) rfl (fun _ => ?_) (fun z9 => absurd (show (0 : Int) = (0 : Int) from by decide) z9)
      refine g_ldcw (v := (-1000000)) hk (List.mem_cons_of_mem _ (List.mem_append_left _ (List.mem_of_getElem? (i := 3) rfl))) dX12_level_30 ?_
      exact g_iret hk hR rfl ⟨I, A, L, (show Md [] I I from Md.rf), (show Md [18, 19] A A from Md.rf), hIv, (-1000000), rfl, rfl⟩ dX12_level_33
    · skip
      show GW κ 4 0 0 (wM r g I A L) 16 [(0, .ref (r 0)), (1, .int z1), (2, .int z2), (3, .int z3)] [.int 1]
      refine g_if_eq (tgt := 30) (a := 1) hk dX12_level_16 (by decide) rfl (fun z9 => absurd z9 (show ¬ ((1 : Int) = (0 : Int)) from by decide)) (fun _ => ?_)
      refine g_iload_n hk dX12_level_19 rfl ?_
      refine g_iconst (v := 0) hk dX12_level_20 (by decide) ?_
      refine g_iload_n hk dX12_level_21 rfl ?_
      refine g_iconst (v := 1) hk dX12_level_22 (by decide) ?_
      refine g_isub hk dX12_level_23 ?_
      refine g_topi (fun y18663 ey18663 => ?_)
      have hy18663 : y18663.toInt = z2.toInt - 1 := i32_sub ey18663 rfl rfl (by omega) (by omega)
      have k18664 : (0 : Int32).toInt = 0 := rfl
      refine g_callS (n := 3) hk (j145_X12_in l D zt r g I A L z3 0 y18663 hIv) (SP.same _) (fun _ h => h) (gi_S (List.mem_cons_of_mem _ (List.mem_append_left _ (List.mem_of_getElem? (i := 0) rfl))) (List.mem_cons_of_mem _ (List.mem_append_left _ (List.mem_of_getElem? (i := 1) rfl))) (List.mem_cons_of_mem _ (List.mem_append_left _ (List.mem_of_getElem? (i := 2) rfl))) (gi_sub (fun w h => (List.mem_cons_of_mem _ (List.mem_append_right _ (List.mem_append_right _ (List.mem_append_left _ h))))) zg_j145_X12_in)) rfl rfl rfl (by decide +kernel) ⟨Nat.le_of_ble_eq_true rfl, Nat.le_of_ble_eq_true rfl⟩ rfl rfl (Nat.le_of_ble_eq_true rfl) ⟨Nat.le_of_ble_eq_true rfl, Nat.le_of_ble_eq_true rfl⟩ dX12_level_24 (fun v ty' w' hp hk' => ?_)
      rcases hp with ⟨c18665, rfl, rfl⟩ | ⟨c18667, c18668, rfl, rfl⟩
      · skip
        have b18670l := Int32.le_toInt z3
        have b18670h := Int32.toInt_lt z3
        show GW κ 4 0 0 (wM r g I A L) 27 [(0, .ref (r 0)), (1, .int z1), (2, .int z2), (3, .int z3)] [.int 0]
        refine g_if_ne (tgt := 34) (a := 0) hk dX12_level_27 (by decide) rfl (fun z9 => absurd z9 (show ¬ ((0 : Int) ≠ (0 : Int)) from by decide)) (fun _ => ?_)
        refine g_ldcw (v := (-1000000)) hk (List.mem_cons_of_mem _ (List.mem_append_left _ (List.mem_of_getElem? (i := 3) rfl))) dX12_level_30 ?_
        exact g_iret hk hR rfl ⟨I, A, L, (show Md [] I I from Md.rf), (show Md [18, 19] A A from Md.rf), hIv, (-1000000), rfl, rfl⟩ dX12_level_33
      · skip
        show GW κ 4 0 0 (wM r g I A L) 27 [(0, .ref (r 0)), (1, .int z1), (2, .int z2), (3, .int z3)] [.int 1]
        refine g_if_ne (tgt := 34) (a := 1) hk dX12_level_27 (by decide) rfl (fun _ => ?_) (fun z9 => absurd (show (1 : Int) ≠ (0 : Int) from by decide) z9)
        refine g_aload_n hk dX12_level_34 rfl ?_
        refine g_callV (n := 0) hk (j151_X12_copies l D zt r g I A L  hIv) (SP.same _) (fun _ h => h) (gi_V (List.mem_cons_of_mem _ (List.mem_append_left _ (List.mem_of_getElem? (i := 7) rfl))) (List.mem_cons_of_mem _ (List.mem_append_left _ (List.mem_of_getElem? (i := 8) rfl))) (List.mem_cons_of_mem _ (List.mem_append_left _ (List.mem_of_getElem? (i := 9) rfl))) (List.mem_cons_of_mem _ (List.mem_append_left _ (List.mem_of_getElem? (i := 2) rfl))) (gi_sub (fun w h => (List.mem_cons_of_mem _ (List.mem_append_right _ (List.mem_append_right _ (List.mem_append_right _ (List.mem_append_right _ (List.mem_append_left _ h))))))) zg_j151_X12_copies)) rfl rfl rfl (by decide +kernel) ⟨Nat.le_of_ble_eq_true rfl, Nat.le_of_ble_eq_true rfl⟩ 0 rfl rfl rfl rfl (Nat.le_of_ble_eq_true rfl) ⟨Nat.le_of_ble_eq_true rfl, Nat.le_of_ble_eq_true rfl⟩ dX12_level_35 (fun v ty' w' hp hk' => ?_)
        obtain ⟨I18672, A18672, L18672, hI18672, hA18672, hV18672, r18673, r18674, rfl, rfl⟩ := hp
        have f18675 := IvM_s17_0 hIv
        have f18676 := IvM_s17_164 hIv
        show GW κ 4 0 0 (wM r g I18672 A18672 L18672) 38 [(0, .ref (r 0)), (1, .int z1), (2, .int z2), (3, .int z3)] []
        refine g_aload_n hk dX12_level_38 rfl ?_
        refine g_iload_n hk dX12_level_39 rfl ?_
        refine g_iload_n hk dX12_level_40 rfl ?_
        refine g_callV (n := 2) hk (j165_X12_laysWindow l D zt r g I18672 A18672 L18672 z1 z2 hV18672 (by omega) (by omega) (by omega) (by omega) (by omega)) (SP.same _) (fun _ h => h) (gi_V (List.mem_cons_of_mem _ (List.mem_append_left _ (List.mem_of_getElem? (i := 10) rfl))) (List.mem_cons_of_mem _ (List.mem_append_left _ (List.mem_of_getElem? (i := 11) rfl))) (List.mem_cons_of_mem _ (List.mem_append_left _ (List.mem_of_getElem? (i := 12) rfl))) (List.mem_cons_of_mem _ (List.mem_append_left _ (List.mem_of_getElem? (i := 2) rfl))) (gi_sub (fun w h => (List.mem_cons_of_mem _ (List.mem_append_right _ (List.mem_append_right _ (List.mem_append_right _ (List.mem_append_right _ (List.mem_append_right _ (List.mem_append_left _ h)))))))) zg_j165_X12_laysWindow)) rfl rfl rfl (by decide +kernel) ⟨Nat.le_of_ble_eq_true rfl, Nat.le_of_ble_eq_true rfl⟩ 0 rfl rfl rfl rfl (Nat.le_of_ble_eq_true rfl) ⟨Nat.le_of_ble_eq_true rfl, Nat.le_of_ble_eq_true rfl⟩ dX12_level_41 (fun v ty' w' hp hk' => ?_)
        obtain ⟨I19466, A19466, L19466, hI19466, hA19466, hV19466, rfl, rfl⟩ := hp
        show GW κ 4 0 0 (wM r g I19466 A19466 L19466) 44 [(0, .ref (r 0)), (1, .int z1), (2, .int z2), (3, .int z3)] []
        refine g_aload_n hk dX12_level_44 rfl ?_
        refine gM_r0_38 hk hin12 (List.mem_cons_of_mem _ (List.mem_append_left _ (List.mem_of_getElem? (i := 13) rfl))) dX12_level_45 ?_
        refine g_iload_n hk dX12_level_48 rfl ?_
        refine lM_19 (v := (A19466 19 z3.toNatClampNeg)) hk (vp_in_iff.mpr ⟨by omega, by omega⟩) rfl dX12_level_49 ?_
        have b19467l := Int32.le_toInt (A19466 19 z3.toNatClampNeg)
        have b19467h := Int32.toInt_lt (A19466 19 z3.toNatClampNeg)
        exact g_iret hk hR rfl ⟨I19466, A19466, L19466, (show Md [] I I19466 from (Md.tr (Md.tr Md.rf hI18672 rfl) hI19466 rfl)), (show Md [18, 19] A A19466 from (Md.tr (Md.tr Md.rf hA18672 rfl) hA19466 rfl)), hV19466, (A19466 19 z3.toNatClampNeg), rfl, rfl⟩ dX12_level_50
def wo_j168_X12_isOf : List Cond := [Cond.methodLink RX12 251 yX12_isQuery, Cond.instanceMethod yX12_isQuery, Cond.selects RX12 yX12_isQuery yX12_isQuery, Cond.initialized RX12, Cond.methodLink RX12 254 yX12_wideOf, Cond.instanceMethod yX12_wideOf, Cond.selects RX12 yX12_wideOf yX12_wideOf, Cond.methodLink RX12 257 yX12_isWindow, Cond.instanceMethod yX12_isWindow, Cond.selects RX12 yX12_isWindow yX12_isWindow]
def wz_j168_X12_isOf : List Cond := .code yX12_isOf cX12_isOf 3 (some .boolean) :: (wo_j168_X12_isOf ++ (wz_j147_X12_isQuery ++ (wz_j148_X12_wideOf ++ (wz_j160_X12_isWindow ++ ([] : List Cond)))))
theorem zg_j168_X12_isOf : ∀ w ∈ wz_j168_X12_isOf, goodWord w = true := zg_cons rfl (zg_app (by decide +kernel) (zg_app zg_j147_X12_isQuery (zg_app zg_j148_X12_wideOf (zg_app zg_j160_X12_isWindow zg_nil))))
theorem zi_j168_X12_isOf : ∀ w ∈ wz_j168_X12_isOf, w ∈ lw_tbl := zi_cons zw_1758 (zi_app (zi_cons zw_1663 (zi_cons zw_1665 (zi_cons zw_67 (zi_cons zw_115 (zi_cons zw_1667 (zi_cons zw_1669 (zi_cons zw_68 (zi_cons zw_1714 (zi_cons zw_1716 (zi_cons zw_72 zi_nil)))))))))) (zi_app zi_j147_X12_isQuery (zi_app zi_j148_X12_wideOf (zi_app zi_j160_X12_isWindow zi_nil))))
set_option maxHeartbeats 4000000 in
set_option maxRecDepth 100000 in
theorem j168_X12_isOf (l : Launch) (D : va_G) (zt : Nat × Nat × Nat × (Nat → Nat) × (Nat → Nat)) (r : Nat → Nat) (g : Nat → ClassId) (I : Nat → Int32) (A : Nat → Nat → Int32) (L : Nat → Nat → Int64) (z1 : Int32) (z2 : Int32) (hIv : IvM I A) : GM l D zt (tyM g) yX12_isOf wz_j168_X12_isOf ({ frames := 2, cells := 0, slots := 0, locals := 43 } : Room) [.ref (r 0), .int z1, .int z2] (wM r g I A L) (fun v _ w' => (v = some (.int 0) ∧ w' = wM r g I A L) ∨ ((¬ (0.toInt < 0)) ∧ (0 ≤ z1.toInt) ∧ (z1.toInt ≤ 4) ∧ (0 ≤ z1.toInt) ∧ (z1.toInt ≤ 4) ∧ (0 ≤ z2.toInt) ∧ (z2.toInt ≤ 159) ∧ (1 ≤ (A 11 (5 * (I 15) + z1).toNatClampNeg).toInt) ∧ (z2.toInt + (A 11 (5 * (I 15) + z1).toNatClampNeg).toInt ≤ 160) ∧ v = some (.int 1) ∧ w' = wM r g I A L)) 0 0 := by
  refine GM.of (cc := cX12_isOf) (maxL := 3) (ret := (some .boolean)) (own := RX12) (lv := [(0, .ref (r 0)), (1, .int z1), (2, .int z2)]) (by decide) rfl rfl (Nat.le_of_ble_eq_true rfl) rfl (fun κ sz hk hR hN => ?_)
  refine g_aload_n hk dX12_isOf_0 rfl ?_
  refine g_iload_n hk dX12_isOf_1 rfl ?_
  refine g_callV (n := 1) hk (j147_X12_isQuery l D zt r g I A L z1 hIv) (SP.same _) (fun _ h => h) (gi_V (List.mem_cons_of_mem _ (List.mem_append_left _ (List.mem_of_getElem? (i := 0) rfl))) (List.mem_cons_of_mem _ (List.mem_append_left _ (List.mem_of_getElem? (i := 1) rfl))) (List.mem_cons_of_mem _ (List.mem_append_left _ (List.mem_of_getElem? (i := 2) rfl))) (List.mem_cons_of_mem _ (List.mem_append_left _ (List.mem_of_getElem? (i := 3) rfl))) (gi_sub (fun w h => (List.mem_cons_of_mem _ (List.mem_append_right _ (List.mem_append_left _ h)))) zg_j147_X12_isQuery)) rfl rfl rfl (by decide +kernel) ⟨Nat.le_of_ble_eq_true rfl, Nat.le_of_ble_eq_true rfl⟩ 0 rfl rfl rfl rfl (Nat.le_of_ble_eq_true rfl) ⟨Nat.le_of_ble_eq_true rfl, Nat.le_of_ble_eq_true rfl⟩ dX12_isOf_2 (fun v ty' w' hp hk' => ?_)
  rcases hp with ⟨rfl, rfl⟩ | ⟨c19469, c19470, c19471, c19472, rfl, rfl⟩
  · skip
    show GW κ 3 0 0 (wM r g I A L) 5 [(0, .ref (r 0)), (1, .int z1), (2, .int z2)] [.int 0]
    refine g_if_eq (tgt := 25) (a := 0) hk dX12_isOf_5 (by decide) rfl (fun _ => ?_) (fun z9 => absurd (show (0 : Int) = (0 : Int) from by decide) z9)
    refine g_iconst (v := 0) hk dX12_isOf_25 (by decide) ?_
    exact g_iret hk hR rfl (Or.inl ⟨rfl, rfl⟩) dX12_isOf_26
  · skip
    have f19474 : 0 ≤ (A 11 (5 * (I 15) + z1).toNatClampNeg).toInt ∧ (A 11 (5 * (I 15) + z1).toNatClampNeg).toInt ≤ 16 := IvM_a11 hIv _
    show GW κ 3 0 0 (wM r g I A L) 5 [(0, .ref (r 0)), (1, .int z1), (2, .int z2)] [.int 1]
    refine g_if_eq (tgt := 25) (a := 1) hk dX12_isOf_5 (by decide) rfl (fun z9 => absurd z9 (show ¬ ((1 : Int) = (0 : Int)) from by decide)) (fun _ => ?_)
    refine g_aload_n hk dX12_isOf_8 rfl ?_
    refine g_iload_n hk dX12_isOf_9 rfl ?_
    refine g_aload_n hk dX12_isOf_10 rfl ?_
    refine g_iload_n hk dX12_isOf_11 rfl ?_
    refine g_callV (n := 1) hk (j148_X12_wideOf l D zt r g I A L z1 hIv (by omega) (by omega)) (SP.same _) (fun _ h => h) (gi_V (List.mem_cons_of_mem _ (List.mem_append_left _ (List.mem_of_getElem? (i := 4) rfl))) (List.mem_cons_of_mem _ (List.mem_append_left _ (List.mem_of_getElem? (i := 5) rfl))) (List.mem_cons_of_mem _ (List.mem_append_left _ (List.mem_of_getElem? (i := 6) rfl))) (List.mem_cons_of_mem _ (List.mem_append_left _ (List.mem_of_getElem? (i := 3) rfl))) (gi_sub (fun w h => (List.mem_cons_of_mem _ (List.mem_append_right _ (List.mem_append_right _ (List.mem_append_left _ h))))) zg_j148_X12_wideOf)) rfl rfl rfl (by decide +kernel) ⟨Nat.le_of_ble_eq_true rfl, Nat.le_of_ble_eq_true rfl⟩ 0 rfl rfl rfl rfl (Nat.le_of_ble_eq_true rfl) ⟨Nat.le_of_ble_eq_true rfl, Nat.le_of_ble_eq_true rfl⟩ dX12_isOf_12 (fun v ty' w' hp hk' => ?_)
    obtain ⟨rfl, rfl⟩ := hp
    show GW κ 3 0 0 (wM r g I A L) 15 [(0, .ref (r 0)), (1, .int z1), (2, .int z2)] [.int (A 11 (5 * (I 15) + z1).toNatClampNeg), .int z2, .ref (r 0)]
    refine g_callV (n := 2) hk (j160_X12_isWindow l D zt r g I A L z2 (A 11 (5 * (I 15) + z1).toNatClampNeg) hIv) (SP.same _) (fun _ h => h) (gi_V (List.mem_cons_of_mem _ (List.mem_append_left _ (List.mem_of_getElem? (i := 7) rfl))) (List.mem_cons_of_mem _ (List.mem_append_left _ (List.mem_of_getElem? (i := 8) rfl))) (List.mem_cons_of_mem _ (List.mem_append_left _ (List.mem_of_getElem? (i := 9) rfl))) (List.mem_cons_of_mem _ (List.mem_append_left _ (List.mem_of_getElem? (i := 3) rfl))) (gi_sub (fun w h => (List.mem_cons_of_mem _ (List.mem_append_right _ (List.mem_append_right _ (List.mem_append_right _ (List.mem_append_left _ h)))))) zg_j160_X12_isWindow)) rfl rfl rfl (by decide +kernel) ⟨Nat.le_of_ble_eq_true rfl, Nat.le_of_ble_eq_true rfl⟩ 0 rfl rfl rfl rfl (Nat.le_of_ble_eq_true rfl) ⟨Nat.le_of_ble_eq_true rfl, Nat.le_of_ble_eq_true rfl⟩ dX12_isOf_15 (fun v ty' w' hp hk' => ?_)
    rcases hp with ⟨rfl, rfl⟩ | ⟨c19476, c19477, c19478, c19479, c19480, c19481, c19482, rfl, rfl⟩
    · skip
      show GW κ 3 0 0 (wM r g I A L) 18 [(0, .ref (r 0)), (1, .int z1), (2, .int z2)] [.int 0]
      refine g_if_eq (tgt := 25) (a := 0) hk dX12_isOf_18 (by decide) rfl (fun _ => ?_) (fun z9 => absurd (show (0 : Int) = (0 : Int) from by decide) z9)
      refine g_iconst (v := 0) hk dX12_isOf_25 (by decide) ?_
      exact g_iret hk hR rfl (Or.inl ⟨rfl, rfl⟩) dX12_isOf_26
    · skip
      show GW κ 3 0 0 (wM r g I A L) 18 [(0, .ref (r 0)), (1, .int z1), (2, .int z2)] [.int 1]
      refine g_if_eq (tgt := 25) (a := 1) hk dX12_isOf_18 (by decide) rfl (fun z9 => absurd z9 (show ¬ ((1 : Int) = (0 : Int)) from by decide)) (fun _ => ?_)
      refine g_iconst (v := 1) hk dX12_isOf_21 (by decide) ?_
      refine g_goto (tgt := 26) hk dX12_isOf_22 (by decide) ?_
      exact g_iret hk hR rfl (Or.inr (⟨c19469, c19470, c19471, (by omega), (by omega), (by omega), (by omega), (by omega), (by omega), rfl, rfl⟩)) dX12_isOf_26
def wo_j171_X12_changesBoth : List Cond := [Cond.fieldLink RX12 76 "WarpDeskModel" "firstAt" "[I", Cond.fieldLink RX12 79 "WarpDeskModel" "otherAt" "[I"]
def wz_j171_X12_changesBoth : List Cond := .code yX12_changesBoth cX12_changesBoth 4 none :: (wo_j171_X12_changesBoth ++ (wsX120 ++ ([] : List Cond)))
theorem zg_j171_X12_changesBoth : ∀ w ∈ wz_j171_X12_changesBoth, goodWord w = true := zg_cons rfl (zg_app (by decide +kernel) (zg_app zgU_wsX120 zg_nil))
theorem zi_j171_X12_changesBoth : ∀ w ∈ wz_j171_X12_changesBoth, w ∈ lw_tbl := zi_cons zw_1770 (zi_app (zi_cons zw_1416 (zi_cons zw_1417 zi_nil)) (zi_app inX12 zi_nil))
set_option maxHeartbeats 4000000 in
set_option maxRecDepth 100000 in
theorem j171_X12_changesBoth (l : Launch) (D : va_G) (zt : Nat × Nat × Nat × (Nat → Nat) × (Nat → Nat)) (r : Nat → Nat) (g : Nat → ClassId) (I : Nat → Int32) (A : Nat → Nat → Int32) (L : Nat → Nat → Int64) (z1 : Int32) (hIv : IvM I A) (hp0 : 0 ≤ z1.toInt) (hp1 : z1.toInt ≤ 16) : GM l D zt (tyM g) yX12_changesBoth wz_j171_X12_changesBoth ({ frames := 0, cells := 0, slots := 0, locals := 0 } : Room) [.ref (r 0), .int z1] (wM r g I A L) (fun v _ w' => ∃ (I' : Nat → Int32) (A' : Nat → Nat → Int32) (L' : Nat → Nat → Int64), Md [] I I' ∧ Md [19, 20] A A' ∧ IvM I' A' ∧ v = none ∧ w' = wM r g I' A' L') 0 0 := by
  refine GM.of (cc := cX12_changesBoth) (maxL := 4) (ret := none) (own := RX12) (lv := [(0, .ref (r 0)), (1, .int z1)]) (by decide) rfl rfl (Nat.le_of_ble_eq_true rfl) rfl (fun κ sz hk hR hN => ?_)
  have hin12 : ∀ w ∈ u_ws RX12 TX12 55, w ∈ wz_j171_X12_changesBoth := fun w h => (List.mem_cons_of_mem _ (List.mem_append_right _ (List.mem_append_left _ h)))
  refine g_iconst (v := 0) hk dX12_changesBoth_0 (by decide) ?_
  refine g_istore_n (lv' := [(2, .int 0), (0, .ref (r 0)), (1, .int z1)]) hk dX12_changesBoth_1 (by decide) rfl ?_
  have lp19519 : ∀ (n19520 : Nat) (x19505 : Int32) (I19508 : Nat → Int32) (A19508 : Nat → Nat → Int32) (L19508 : Nat → Nat → Int64), (Md [] I I19508) → (Md [19, 20] A A19508) → (IvM I19508 A19508) → (0 ≤ x19505.toInt) → (x19505.toInt ≤ 16) → (17 - x19505.toInt < (n19520 : Int)) → (0 < n19520) → GW κ 4 0 0 (wM r g I19508 A19508 L19508) 2 [(2, .int x19505), (0, .ref (r 0)), (1, .int z1)] [] := by
    intro n19520
    induction n19520 with
    | zero =>
      intro x19505 I19508 A19508 L19508 hI19508 hA19508 hV19508 h19517 h19518 m19521 m19521z
      exact absurd m19521z (Nat.lt_irrefl 0)
    | succ n19520 ih19522 =>
      intro x19505 I19508 A19508 L19508 hI19508 hA19508 hV19508 h19517 h19518 m19521 m19521z
      refine g_iload_n hk dX12_changesBoth_2 rfl ?_
      refine g_iload_n hk dX12_changesBoth_3 rfl ?_
      refine g_icmp_ge (tgt := 39) (a := x19505.toInt) (b := z1.toInt) hk dX12_changesBoth_4 (by decide) rfl rfl (fun c19523 => ?_) (fun c19523 => ?_)
      · skip
        exact g_vret hk hR ⟨I19508, A19508, L19508, (show Md [] I I19508 from (Md.tr Md.rf hI19508 rfl)), (show Md [19, 20] A A19508 from (Md.tr Md.rf hA19508 rfl)), hV19508, rfl, rfl⟩ dX12_changesBoth_39
      · skip
        refine g_aload_n hk dX12_changesBoth_7 rfl ?_
        refine gM_r0_38 hk hin12 (List.mem_cons_of_mem _ (List.mem_append_left _ (List.mem_of_getElem? (i := 0) rfl))) dX12_changesBoth_8 ?_
        refine g_iload_n hk dX12_changesBoth_11 rfl ?_
        refine lM_19 (v := (A19508 19 x19505.toNatClampNeg)) hk (vp_in_iff.mpr ⟨by omega, by omega⟩) rfl dX12_changesBoth_12 ?_
        refine g_istore_n (lv' := [(3, .int (A19508 19 x19505.toNatClampNeg)), (2, .int x19505), (0, .ref (r 0)), (1, .int z1)]) hk dX12_changesBoth_13 (by decide) rfl ?_
        refine g_aload_n hk dX12_changesBoth_14 rfl ?_
        refine gM_r0_38 hk hin12 (List.mem_cons_of_mem _ (List.mem_append_left _ (List.mem_of_getElem? (i := 0) rfl))) dX12_changesBoth_15 ?_
        refine g_iload_n hk dX12_changesBoth_18 rfl ?_
        refine g_aload_n hk dX12_changesBoth_19 rfl ?_
        refine gM_r0_39 hk hin12 (List.mem_cons_of_mem _ (List.mem_append_left _ (List.mem_of_getElem? (i := 1) rfl))) dX12_changesBoth_20 ?_
        refine g_iload_n hk dX12_changesBoth_23 rfl ?_
        refine lM_20 (v := (A19508 20 x19505.toNatClampNeg)) hk (vp_in_iff.mpr ⟨by omega, by omega⟩) rfl dX12_changesBoth_24 ?_
        refine sM_19 (j := x19505.toNatClampNeg) hk (vp_in_iff.mpr ⟨by omega, by omega⟩) rfl dX12_changesBoth_25 ?_
        refine g_aload_n hk dX12_changesBoth_26 rfl ?_
        refine gM_r0_39 hk hin12 (List.mem_cons_of_mem _ (List.mem_append_left _ (List.mem_of_getElem? (i := 1) rfl))) dX12_changesBoth_27 ?_
        refine g_iload_n hk dX12_changesBoth_30 rfl ?_
        refine g_iload_n hk dX12_changesBoth_31 rfl ?_
        refine sM_20 (j := x19505.toNatClampNeg) hk (vp_in_iff.mpr ⟨by omega, by omega⟩) rfl dX12_changesBoth_32 ?_
        obtain ⟨y19524, ey19524⟩ : ∃ y : Int32, y = x19505 + Int32.ofInt 1 := ⟨_, rfl⟩
        have hy19524 : y19524.toInt = x19505.toInt + 1 := i32_add ey19524 rfl (by decide) (by omega) (by omega)
        refine g_iinc (v := y19524) (lv' := [(2, .int y19524), (3, .int (A19508 19 x19505.toNatClampNeg)), (0, .ref (r 0)), (1, .int z1)]) hk 1 dX12_changesBoth_33 rfl ey19524.symm (by decide) rfl ?_
        refine g_goto (tgt := 2) hk dX12_changesBoth_36 (by decide) ?_
        exact g_lv (List.forall_mem_cons.mpr ⟨List.mem_of_getElem? (i := 0) rfl, (List.forall_mem_cons.mpr ⟨List.mem_of_getElem? (i := 2) rfl, (List.forall_mem_cons.mpr ⟨List.mem_of_getElem? (i := 3) rfl, (fun _ h => absurd h List.not_mem_nil)⟩)⟩)⟩) (ih19522 y19524 I19508 (up3 (up3 A19508 19 (x19505.toNatClampNeg) (A19508 20 x19505.toNatClampNeg)) 20 (x19505.toNatClampNeg) (A19508 19 x19505.toNatClampNeg)) L19508 (show Md [] I I19508 from Md.tr hI19508 (show Md [] I19508 I19508 from Md.rf) rfl) (show Md [19, 20] A (up3 (up3 A19508 19 (x19505.toNatClampNeg) (A19508 20 x19505.toNatClampNeg)) 20 (x19505.toNatClampNeg) (A19508 19 x19505.toNatClampNeg)) from Md.tr hA19508 (show Md [19, 20] A19508 (up3 (up3 A19508 19 (x19505.toNatClampNeg) (A19508 20 x19505.toNatClampNeg)) 20 (x19505.toNatClampNeg) (A19508 19 x19505.toNatClampNeg)) from (Md.up3 (Md.up3 Md.rf rfl) rfl)) rfl) ⟨(IvM_f1 (I := I19508) (A := A19508) hV19508), (IvM_f2 (I := I19508) (A := A19508) hV19508), (IvM_f3 (I := I19508) (A := A19508) hV19508), (IvM_f4 (I := I19508) (A := A19508) hV19508), (IvM_f6 (I := I19508) (A := A19508) hV19508), (IvM_f8 (I := I19508) (A := A19508) hV19508), (IvM_f15 (I := I19508) (A := A19508) hV19508), (IvM_f16 (I := I19508) (A := A19508) hV19508), (IvM_f17 (I := I19508) (A := A19508) hV19508), (IvM_f18 (I := I19508) (A := A19508) hV19508), (IvM_f22 (I := I19508) (A := A19508) hV19508), (IvM_f23 (I := I19508) (A := A19508) hV19508), (IvM_f24 (I := I19508) (A := A19508) hV19508), (IvM_a11 (I := I19508) (A := A19508) hV19508), (IvM_a26 (I := I19508) (A := A19508) hV19508), (IvM_s8_0 (I := I19508) (A := A19508) hV19508), (IvM_s8_1 (I := I19508) (A := A19508) hV19508), (IvM_s10_0 (I := I19508) (A := A19508) hV19508), (IvM_s10_1 (I := I19508) (A := A19508) hV19508), (IvM_s17_0 (I := I19508) (A := A19508) hV19508), (IvM_s17_164 (I := I19508) (A := A19508) hV19508), (IvM_lv (I := I19508) (A := A19508) hV19508), (IvM_sd (I := I19508) (A := A19508) hV19508), (IvM_nq (I := I19508) (A := A19508) hV19508), (IvM_hr (I := I19508) (A := A19508) hV19508), (IvM_hh (I := I19508) (A := A19508) hV19508), trivial⟩ (by omega) (by omega) (by omega) (by omega))
  have k19525 : (0 : Int32).toInt = 0 := rfl
  obtain ⟨n19526, n19526a, n19526b⟩ : ∃ n : Nat, 17 - (0 : Int32).toInt < (n : Int) ∧ 0 < n := ⟨((17 - (0 : Int32).toInt : Int)).toNat + 1, by omega, by omega⟩
  exact lp19519 n19526 0 I A L Md.rf Md.rf hIv (by omega) (by omega) n19526a n19526b
def wo_j172_X12_laysQuery : List Cond := [Cond.methodLink RX12 254 yX12_wideOf, Cond.instanceMethod yX12_wideOf, Cond.selects RX12 yX12_wideOf yX12_wideOf, Cond.initialized RX12, Cond.methodLink RX12 264 yX12_levelsFirst, Cond.instanceMethod yX12_levelsFirst, Cond.selects RX12 yX12_levelsFirst yX12_levelsFirst, Cond.fieldLink RX12 76 "WarpDeskModel" "firstAt" "[I", Cond.fieldLink RX12 55 "WarpDeskModel" "queryAt" "[I", Cond.fieldLink RX12 197 "WarpDeskModel" "live" "I"]
def wz_j172_X12_laysQuery : List Cond := .code yX12_laysQuery cX12_laysQuery 3 none :: (wo_j172_X12_laysQuery ++ (wsX120 ++ (wz_j148_X12_wideOf ++ (wz_j166_X12_levelsFirst ++ ([] : List Cond)))))
theorem zg_j172_X12_laysQuery : ∀ w ∈ wz_j172_X12_laysQuery, goodWord w = true := zg_cons rfl (zg_app (by decide +kernel) (zg_app zgU_wsX120 (zg_app zg_j148_X12_wideOf (zg_app zg_j166_X12_levelsFirst zg_nil))))
theorem zi_j172_X12_laysQuery : ∀ w ∈ wz_j172_X12_laysQuery, w ∈ lw_tbl := zi_cons zw_1774 (zi_app (zi_cons zw_1667 (zi_cons zw_1669 (zi_cons zw_68 (zi_cons zw_115 (zi_cons zw_1739 (zi_cons zw_1741 (zi_cons zw_77 (zi_cons zw_1416 (zi_cons zw_1408 (zi_cons zw_1400 zi_nil)))))))))) (zi_app inX12 (zi_app zi_j148_X12_wideOf (zi_app zi_j166_X12_levelsFirst zi_nil))))
set_option maxHeartbeats 4000000 in
set_option maxRecDepth 100000 in
theorem j172_X12_laysQuery (l : Launch) (D : va_G) (zt : Nat × Nat × Nat × (Nat → Nat) × (Nat → Nat)) (r : Nat → Nat) (g : Nat → ClassId) (I : Nat → Int32) (A : Nat → Nat → Int32) (L : Nat → Nat → Int64) (z1 : Int32) (hIv : IvM I A) (hp0 : 0 ≤ z1.toInt) (hp1 : z1.toInt ≤ 4) (hp2 : 1 ≤ (A 11 (5 * (I 15) + z1).toNatClampNeg).toInt) : GM l D zt (tyM g) yX12_laysQuery wz_j172_X12_laysQuery ({ frames := 2, cells := 0, slots := 0, locals := 49 } : Room) [.ref (r 0), .int z1] (wM r g I A L) (fun v _ w' => ∃ (I' : Nat → Int32) (A' : Nat → Nat → Int32) (L' : Nat → Nat → Int64), Md [] I I' ∧ Md [19] A A' ∧ IvM I' A' ∧ v = none ∧ w' = wM r g I' A' L') 0 0 := by
  refine GM.of (cc := cX12_laysQuery) (maxL := 3) (ret := none) (own := RX12) (lv := [(0, .ref (r 0)), (1, .int z1)]) (by decide) rfl rfl (Nat.le_of_ble_eq_true rfl) rfl (fun κ sz hk hR hN => ?_)
  have hin12 : ∀ w ∈ u_ws RX12 TX12 55, w ∈ wz_j172_X12_laysQuery := fun w h => (List.mem_cons_of_mem _ (List.mem_append_right _ (List.mem_append_left _ h)))
  refine g_iconst (v := 0) hk dX12_laysQuery_0 (by decide) ?_
  refine g_istore_n (lv' := [(2, .int 0), (0, .ref (r 0)), (1, .int z1)]) hk dX12_laysQuery_1 (by decide) rfl ?_
  have lp19575 : ∀ (n19576 : Nat) (x19529 : Int32) (I19532 : Nat → Int32) (A19532 : Nat → Nat → Int32) (L19532 : Nat → Nat → Int64), (Md [] I I19532) → (Md [19] A A19532) → (IvM I19532 A19532) → (0 ≤ x19529.toInt) → (x19529.toInt ≤ 16) → (17 - x19529.toInt < (n19576 : Int)) → (0 < n19576) → GW κ 3 0 0 (wM r g I19532 A19532 L19532) 2 [(2, .int x19529), (0, .ref (r 0)), (1, .int z1)] [] := by
    intro n19576
    induction n19576 with
    | zero =>
      intro x19529 I19532 A19532 L19532 hI19532 hA19532 hV19532 h19573 h19574 m19577 m19577z
      exact absurd m19577z (Nat.lt_irrefl 0)
    | succ n19576 ih19578 =>
      intro x19529 I19532 A19532 L19532 hI19532 hA19532 hV19532 h19573 h19574 m19577 m19577z
      refine g_iload_n hk dX12_laysQuery_2 rfl ?_
      refine g_aload_n hk dX12_laysQuery_3 rfl ?_
      refine g_iload_n hk dX12_laysQuery_4 rfl ?_
      refine g_callV (n := 1) hk (j148_X12_wideOf l D zt r g I19532 A19532 L19532 z1 hV19532 (by omega) (by omega)) (SP.same _) (fun _ h => h) (gi_V (List.mem_cons_of_mem _ (List.mem_append_left _ (List.mem_of_getElem? (i := 0) rfl))) (List.mem_cons_of_mem _ (List.mem_append_left _ (List.mem_of_getElem? (i := 1) rfl))) (List.mem_cons_of_mem _ (List.mem_append_left _ (List.mem_of_getElem? (i := 2) rfl))) (List.mem_cons_of_mem _ (List.mem_append_left _ (List.mem_of_getElem? (i := 3) rfl))) (gi_sub (fun w h => (List.mem_cons_of_mem _ (List.mem_append_right _ (List.mem_append_right _ (List.mem_append_left _ h))))) zg_j148_X12_wideOf)) rfl rfl rfl (by decide +kernel) ⟨Nat.le_of_ble_eq_true rfl, Nat.le_of_ble_eq_true rfl⟩ 0 rfl rfl rfl rfl (Nat.le_of_ble_eq_true rfl) ⟨Nat.le_of_ble_eq_true rfl, Nat.le_of_ble_eq_true rfl⟩ dX12_laysQuery_5 (fun v ty' w' hp hk' => ?_)
      obtain ⟨rfl, rfl⟩ := hp
      show GW κ 3 0 0 (wM r g I19532 A19532 L19532) 8 [(2, .int x19529), (0, .ref (r 0)), (1, .int z1)] [.int (A19532 11 (5 * (I19532 15) + z1).toNatClampNeg), .int x19529]
      refine g_norm (v := (A 11 (5 * (I 15) + z1).toNatClampNeg)) (by rw [show I19532 15 = (I 15) from (hI19532 15 rfl)]; exact (congrFun (hA19532 11 rfl) _)) ?_
      have f19579 : 0 ≤ (A 11 (5 * (I 15) + z1).toNatClampNeg).toInt ∧ (A 11 (5 * (I 15) + z1).toNatClampNeg).toInt ≤ 16 := IvM_a11 hIv _
      refine g_icmp_ge (tgt := 41) (a := x19529.toInt) (b := (A 11 (5 * (I 15) + z1).toNatClampNeg).toInt) hk dX12_laysQuery_8 (by decide) rfl rfl (fun c19580 => ?_) (fun c19580 => ?_)
      · skip
        refine g_aload_n hk dX12_laysQuery_41 rfl ?_
        refine g_aload_n hk dX12_laysQuery_42 rfl ?_
        refine g_iload_n hk dX12_laysQuery_43 rfl ?_
        refine g_callV (n := 1) hk (j148_X12_wideOf l D zt r g I19532 A19532 L19532 z1 hV19532 (by omega) (by omega)) (SP.same _) (fun _ h => h) (gi_V (List.mem_cons_of_mem _ (List.mem_append_left _ (List.mem_of_getElem? (i := 0) rfl))) (List.mem_cons_of_mem _ (List.mem_append_left _ (List.mem_of_getElem? (i := 1) rfl))) (List.mem_cons_of_mem _ (List.mem_append_left _ (List.mem_of_getElem? (i := 2) rfl))) (List.mem_cons_of_mem _ (List.mem_append_left _ (List.mem_of_getElem? (i := 3) rfl))) (gi_sub (fun w h => (List.mem_cons_of_mem _ (List.mem_append_right _ (List.mem_append_right _ (List.mem_append_left _ h))))) zg_j148_X12_wideOf)) rfl rfl rfl (by decide +kernel) ⟨Nat.le_of_ble_eq_true rfl, Nat.le_of_ble_eq_true rfl⟩ 0 rfl rfl rfl rfl (Nat.le_of_ble_eq_true rfl) ⟨Nat.le_of_ble_eq_true rfl, Nat.le_of_ble_eq_true rfl⟩ dX12_laysQuery_44 (fun v ty' w' hp hk' => ?_)
        obtain ⟨rfl, rfl⟩ := hp
        show GW κ 3 0 0 (wM r g I19532 A19532 L19532) 47 [(2, .int x19529), (0, .ref (r 0)), (1, .int z1)] [.int (A19532 11 (5 * (I19532 15) + z1).toNatClampNeg), .ref (r 0)]
        refine g_norm (v := (A 11 (5 * (I 15) + z1).toNatClampNeg)) (by rw [show I19532 15 = (I 15) from (hI19532 15 rfl)]; exact (congrFun (hA19532 11 rfl) _)) ?_
        refine g_callV (n := 1) hk (j166_X12_levelsFirst l D zt r g I19532 A19532 L19532 (A 11 (5 * (I 15) + z1).toNatClampNeg) hV19532 (by omega) (by omega)) (SP.same _) (fun _ h => h) (gi_V (List.mem_cons_of_mem _ (List.mem_append_left _ (List.mem_of_getElem? (i := 4) rfl))) (List.mem_cons_of_mem _ (List.mem_append_left _ (List.mem_of_getElem? (i := 5) rfl))) (List.mem_cons_of_mem _ (List.mem_append_left _ (List.mem_of_getElem? (i := 6) rfl))) (List.mem_cons_of_mem _ (List.mem_append_left _ (List.mem_of_getElem? (i := 3) rfl))) (gi_sub (fun w h => (List.mem_cons_of_mem _ (List.mem_append_right _ (List.mem_append_right _ (List.mem_append_right _ (List.mem_append_left _ h)))))) zg_j166_X12_levelsFirst)) rfl rfl rfl (by decide +kernel) ⟨Nat.le_of_ble_eq_true rfl, Nat.le_of_ble_eq_true rfl⟩ 0 rfl rfl rfl rfl (Nat.le_of_ble_eq_true rfl) ⟨Nat.le_of_ble_eq_true rfl, Nat.le_of_ble_eq_true rfl⟩ dX12_laysQuery_47 (fun v ty' w' hp hk' => ?_)
        obtain ⟨I19582, A19582, L19582, hI19582, hA19582, hV19582, rfl, rfl⟩ := hp
        show GW κ 3 0 0 (wM r g I19582 A19582 L19582) 50 [(2, .int x19529), (0, .ref (r 0)), (1, .int z1)] []
        exact g_vret hk hR ⟨I19582, A19582, L19582, (show Md [] I I19582 from (Md.tr (Md.tr Md.rf hI19532 rfl) hI19582 rfl)), (show Md [19] A A19582 from (Md.tr (Md.tr Md.rf hA19532 rfl) hA19582 rfl)), hV19582, rfl, rfl⟩ dX12_laysQuery_50
      · skip
        refine g_aload_n hk dX12_laysQuery_11 rfl ?_
        refine gM_r0_38 hk hin12 (List.mem_cons_of_mem _ (List.mem_append_left _ (List.mem_of_getElem? (i := 7) rfl))) dX12_laysQuery_12 ?_
        refine g_iload_n hk dX12_laysQuery_15 rfl ?_
        refine g_aload_n hk dX12_laysQuery_16 rfl ?_
        refine gM_r0_30 hk hin12 (List.mem_cons_of_mem _ (List.mem_append_left _ (List.mem_of_getElem? (i := 8) rfl))) dX12_laysQuery_17 ?_
        refine g_bipush (v := 16) hk dX12_laysQuery_20 (by decide) ?_
        refine g_iconst (v := 5) hk dX12_laysQuery_22 (by decide) ?_
        refine g_aload_n hk dX12_laysQuery_23 rfl ?_
        refine gM_i15 (v := (I 15)) hk hin12 (List.mem_cons_of_mem _ (List.mem_append_left _ (List.mem_of_getElem? (i := 9) rfl))) dX12_laysQuery_24 (hI19532 15 rfl) ?_
        have f19583 := IvM_f15 hIv
        refine g_imul hk dX12_laysQuery_27 ?_
        refine g_topi (fun y19584 ey19584 => ?_)
        have hy19584 : y19584.toInt = 5 * (I 15).toInt := i32_mul ey19584 rfl rfl (by omega) (by omega)
        refine g_iload_n hk dX12_laysQuery_28 rfl ?_
        refine g_iadd hk dX12_laysQuery_29 ?_
        refine g_topi (fun y19585 ey19585 => ?_)
        have hy19585 : y19585.toInt = y19584.toInt + z1.toInt := i32_add ey19585 rfl rfl (by omega) (by omega)
        refine g_imul hk dX12_laysQuery_30 ?_
        refine g_topi (fun y19586 ey19586 => ?_)
        have hy19586 : y19586.toInt = 16 * y19585.toInt := i32_mul ey19586 rfl rfl (by omega) (by omega)
        refine g_iload_n hk dX12_laysQuery_31 rfl ?_
        refine g_iadd hk dX12_laysQuery_32 ?_
        refine g_topi (fun y19587 ey19587 => ?_)
        have hy19587 : y19587.toInt = y19586.toInt + x19529.toInt := i32_add ey19587 rfl rfl (by omega) (by omega)
        refine lM_12 (v := (A 12 y19587.toNatClampNeg)) hk (vp_in_iff.mpr ⟨by omega, by omega⟩) (congrFun (hA19532 12 rfl) _) dX12_laysQuery_33 ?_
        refine sM_19 (j := x19529.toNatClampNeg) hk (vp_in_iff.mpr ⟨by omega, by omega⟩) rfl dX12_laysQuery_34 ?_
        obtain ⟨y19588, ey19588⟩ : ∃ y : Int32, y = x19529 + Int32.ofInt 1 := ⟨_, rfl⟩
        have hy19588 : y19588.toInt = x19529.toInt + 1 := i32_add ey19588 rfl (by decide) (by omega) (by omega)
        refine g_iinc (v := y19588) (lv' := [(2, .int y19588), (0, .ref (r 0)), (1, .int z1)]) hk 0 dX12_laysQuery_35 rfl ey19588.symm (by decide) rfl ?_
        refine g_goto (tgt := 2) hk dX12_laysQuery_38 (by decide) ?_
        exact g_lv (List.forall_mem_cons.mpr ⟨List.mem_of_getElem? (i := 0) rfl, (List.forall_mem_cons.mpr ⟨List.mem_of_getElem? (i := 1) rfl, (List.forall_mem_cons.mpr ⟨List.mem_of_getElem? (i := 2) rfl, (fun _ h => absurd h List.not_mem_nil)⟩)⟩)⟩) (ih19578 y19588 I19532 (up3 A19532 19 (x19529.toNatClampNeg) (A 12 y19587.toNatClampNeg)) L19532 (show Md [] I I19532 from Md.tr hI19532 (show Md [] I19532 I19532 from Md.rf) rfl) (show Md [19] A (up3 A19532 19 (x19529.toNatClampNeg) (A 12 y19587.toNatClampNeg)) from Md.tr hA19532 (show Md [19] A19532 (up3 A19532 19 (x19529.toNatClampNeg) (A 12 y19587.toNatClampNeg)) from (Md.up3 Md.rf rfl)) rfl) ⟨(IvM_f1 (I := I19532) (A := A19532) hV19532), (IvM_f2 (I := I19532) (A := A19532) hV19532), (IvM_f3 (I := I19532) (A := A19532) hV19532), (IvM_f4 (I := I19532) (A := A19532) hV19532), (IvM_f6 (I := I19532) (A := A19532) hV19532), (IvM_f8 (I := I19532) (A := A19532) hV19532), (IvM_f15 (I := I19532) (A := A19532) hV19532), (IvM_f16 (I := I19532) (A := A19532) hV19532), (IvM_f17 (I := I19532) (A := A19532) hV19532), (IvM_f18 (I := I19532) (A := A19532) hV19532), (IvM_f22 (I := I19532) (A := A19532) hV19532), (IvM_f23 (I := I19532) (A := A19532) hV19532), (IvM_f24 (I := I19532) (A := A19532) hV19532), (IvM_a11 (I := I19532) (A := A19532) hV19532), (IvM_a26 (I := I19532) (A := A19532) hV19532), (IvM_s8_0 (I := I19532) (A := A19532) hV19532), (IvM_s8_1 (I := I19532) (A := A19532) hV19532), (IvM_s10_0 (I := I19532) (A := A19532) hV19532), (IvM_s10_1 (I := I19532) (A := A19532) hV19532), (IvM_s17_0 (I := I19532) (A := A19532) hV19532), (IvM_s17_164 (I := I19532) (A := A19532) hV19532), (IvM_lv (I := I19532) (A := A19532) hV19532), (IvM_sd (I := I19532) (A := A19532) hV19532), (IvM_nq (I := I19532) (A := A19532) hV19532), (IvM_hr (I := I19532) (A := A19532) hV19532), (IvM_hh (I := I19532) (A := A19532) hV19532), trivial⟩ (by omega) (by omega) (by omega) (by omega))
  have k19589 : (0 : Int32).toInt = 0 := rfl
  obtain ⟨n19590, n19590a, n19590b⟩ : ∃ n : Nat, 17 - (0 : Int32).toInt < (n : Int) ∧ 0 < n := ⟨((17 - (0 : Int32).toInt : Int)).toNat + 1, by omega, by omega⟩
  exact lp19575 n19590 0 I A L Md.rf Md.rf hIv (by omega) (by omega) n19590a n19590b
def wo_j170_X12_laysBoth : List Cond := [Cond.methodLink RX12 254 yX12_wideOf, Cond.instanceMethod yX12_wideOf, Cond.selects RX12 yX12_wideOf yX12_wideOf, Cond.initialized RX12, Cond.fieldLink RX12 267 "WarpDeskModel" "wide" "I", Cond.methodLink RX12 270 yX12_laysWindow, Cond.instanceMethod yX12_laysWindow, Cond.selects RX12 yX12_laysWindow yX12_laysWindow, Cond.methodLink RX12 273 yX12_changesBoth, Cond.instanceMethod yX12_changesBoth, Cond.selects RX12 yX12_changesBoth yX12_changesBoth, Cond.methodLink RX12 276 yX12_laysQuery, Cond.instanceMethod yX12_laysQuery, Cond.selects RX12 yX12_laysQuery yX12_laysQuery]
def wz_j170_X12_laysBoth : List Cond := .code yX12_laysBoth cX12_laysBoth 3 none :: (wo_j170_X12_laysBoth ++ (wsX120 ++ (wz_j148_X12_wideOf ++ (wz_j165_X12_laysWindow ++ (wz_j171_X12_changesBoth ++ (wz_j172_X12_laysQuery ++ ([] : List Cond)))))))
theorem zg_j170_X12_laysBoth : ∀ w ∈ wz_j170_X12_laysBoth, goodWord w = true := zg_cons rfl (zg_app (by decide +kernel) (zg_app zgU_wsX120 (zg_app zg_j148_X12_wideOf (zg_app zg_j165_X12_laysWindow (zg_app zg_j171_X12_changesBoth (zg_app zg_j172_X12_laysQuery zg_nil))))))
theorem zi_j170_X12_laysBoth : ∀ w ∈ wz_j170_X12_laysBoth, w ∈ lw_tbl := zi_cons zw_1766 (zi_app (zi_cons zw_1667 (zi_cons zw_1669 (zi_cons zw_68 (zi_cons zw_115 (zi_cons zw_1415 (zi_cons zw_1735 (zi_cons zw_1737 (zi_cons zw_76 (zi_cons zw_1767 (zi_cons zw_1769 (zi_cons zw_81 (zi_cons zw_1771 (zi_cons zw_1773 (zi_cons zw_82 zi_nil)))))))))))))) (zi_app inX12 (zi_app zi_j148_X12_wideOf (zi_app zi_j165_X12_laysWindow (zi_app zi_j171_X12_changesBoth (zi_app zi_j172_X12_laysQuery zi_nil))))))
set_option maxHeartbeats 4000000 in
set_option maxRecDepth 100000 in
theorem j170_X12_laysBoth (l : Launch) (D : va_G) (zt : Nat × Nat × Nat × (Nat → Nat) × (Nat → Nat)) (r : Nat → Nat) (g : Nat → ClassId) (I : Nat → Int32) (A : Nat → Nat → Int32) (L : Nat → Nat → Int64) (z1 : Int32) (z2 : Int32) (hIv : IvM I A) (hp0 : 0 ≤ z1.toInt) (hp1 : z1.toInt ≤ 4) (hp2 : 0 ≤ z2.toInt) (hp3 : z2.toInt ≤ 159) (hp4 : 1 ≤ (A 11 (5 * (I 15) + z1).toNatClampNeg).toInt) (hp5 : z2.toInt + (A 11 (5 * (I 15) + z1).toNatClampNeg).toInt ≤ 160) : GM l D zt (tyM g) yX12_laysBoth wz_j170_X12_laysBoth ({ frames := 3, cells := 0, slots := 0, locals := 72 } : Room) [.ref (r 0), .int z1, .int z2] (wM r g I A L) (fun v _ w' => ∃ (I' : Nat → Int32) (A' : Nat → Nat → Int32) (L' : Nat → Nat → Int64), Md [18] I I' ∧ Md [19, 20] A A' ∧ IvM I' A' ∧ (1 ≤ (I' 18).toInt) ∧ v = none ∧ w' = wM r g I' A' L') 0 0 := by
  refine GM.of (cc := cX12_laysBoth) (maxL := 3) (ret := none) (own := RX12) (lv := [(0, .ref (r 0)), (1, .int z1), (2, .int z2)]) (by decide) rfl rfl (Nat.le_of_ble_eq_true rfl) rfl (fun κ sz hk hR hN => ?_)
  have hin12 : ∀ w ∈ u_ws RX12 TX12 55, w ∈ wz_j170_X12_laysBoth := fun w h => (List.mem_cons_of_mem _ (List.mem_append_right _ (List.mem_append_left _ h)))
  refine g_aload_n hk dX12_laysBoth_0 rfl ?_
  refine g_aload_n hk dX12_laysBoth_1 rfl ?_
  refine g_iload_n hk dX12_laysBoth_2 rfl ?_
  refine g_callV (n := 1) hk (j148_X12_wideOf l D zt r g I A L z1 hIv (by omega) (by omega)) (SP.same _) (fun _ h => h) (gi_V (List.mem_cons_of_mem _ (List.mem_append_left _ (List.mem_of_getElem? (i := 0) rfl))) (List.mem_cons_of_mem _ (List.mem_append_left _ (List.mem_of_getElem? (i := 1) rfl))) (List.mem_cons_of_mem _ (List.mem_append_left _ (List.mem_of_getElem? (i := 2) rfl))) (List.mem_cons_of_mem _ (List.mem_append_left _ (List.mem_of_getElem? (i := 3) rfl))) (gi_sub (fun w h => (List.mem_cons_of_mem _ (List.mem_append_right _ (List.mem_append_right _ (List.mem_append_left _ h))))) zg_j148_X12_wideOf)) rfl rfl rfl (by decide +kernel) ⟨Nat.le_of_ble_eq_true rfl, Nat.le_of_ble_eq_true rfl⟩ 0 rfl rfl rfl rfl (Nat.le_of_ble_eq_true rfl) ⟨Nat.le_of_ble_eq_true rfl, Nat.le_of_ble_eq_true rfl⟩ dX12_laysBoth_3 (fun v ty' w' hp hk' => ?_)
  obtain ⟨rfl, rfl⟩ := hp
  show GW κ 3 0 0 (wM r g I A L) 6 [(0, .ref (r 0)), (1, .int z1), (2, .int z2)] [.int (A 11 (5 * (I 15) + z1).toNatClampNeg), .ref (r 0)]
  have f19502 : 0 ≤ (A 11 (5 * (I 15) + z1).toNatClampNeg).toInt ∧ (A 11 (5 * (I 15) + z1).toNatClampNeg).toInt ≤ 16 := IvM_a11 hIv _
  refine pM_i18 hk hin12 (List.mem_cons_of_mem _ (List.mem_append_left _ (List.mem_of_getElem? (i := 4) rfl))) dX12_laysBoth_6 ?_
  refine g_aload_n hk dX12_laysBoth_9 rfl ?_
  refine g_iload_n hk dX12_laysBoth_10 rfl ?_
  refine g_aload_n hk dX12_laysBoth_11 rfl ?_
  refine gM_i18 (v := (A 11 (5 * (I 15) + z1).toNatClampNeg)) hk hin12 (List.mem_cons_of_mem _ (List.mem_append_left _ (List.mem_of_getElem? (i := 4) rfl))) dX12_laysBoth_12 rfl ?_
  refine g_callV (n := 2) hk (j165_X12_laysWindow l D zt r g (upd I 18 (A 11 (5 * (I 15) + z1).toNatClampNeg)) A L z2 (A 11 (5 * (I 15) + z1).toNatClampNeg) ⟨(IvM_f1 (I := I) (A := A) hIv), (IvM_f2 (I := I) (A := A) hIv), (IvM_f3 (I := I) (A := A) hIv), (IvM_f4 (I := I) (A := A) hIv), (IvM_f6 (I := I) (A := A) hIv), (IvM_f8 (I := I) (A := A) hIv), (IvM_f15 (I := I) (A := A) hIv), (IvM_f16 (I := I) (A := A) hIv), (IvM_f17 (I := I) (A := A) hIv), (show 0 ≤ (A 11 (5 * (I 15) + z1).toNatClampNeg).toInt ∧ (A 11 (5 * (I 15) + z1).toNatClampNeg).toInt ≤ 16 from ⟨by omega, by omega⟩), (IvM_f22 (I := I) (A := A) hIv), (IvM_f23 (I := I) (A := A) hIv), (IvM_f24 (I := I) (A := A) hIv), (IvM_a11 (I := I) (A := A) hIv), (IvM_a26 (I := I) (A := A) hIv), (IvM_s8_0 (I := I) (A := A) hIv), (IvM_s8_1 (I := I) (A := A) hIv), (IvM_s10_0 (I := I) (A := A) hIv), (IvM_s10_1 (I := I) (A := A) hIv), (IvM_s17_0 (I := I) (A := A) hIv), (IvM_s17_164 (I := I) (A := A) hIv), (IvM_lv (I := I) (A := A) hIv), (IvM_sd (I := I) (A := A) hIv), (IvM_nq (I := I) (A := A) hIv), (IvM_hr (I := I) (A := A) hIv), (IvM_hh (I := I) (A := A) hIv), trivial⟩ (by omega) (by omega) (by omega) (by omega) (by omega)) (SP.same _) (fun _ h => h) (gi_V (List.mem_cons_of_mem _ (List.mem_append_left _ (List.mem_of_getElem? (i := 5) rfl))) (List.mem_cons_of_mem _ (List.mem_append_left _ (List.mem_of_getElem? (i := 6) rfl))) (List.mem_cons_of_mem _ (List.mem_append_left _ (List.mem_of_getElem? (i := 7) rfl))) (List.mem_cons_of_mem _ (List.mem_append_left _ (List.mem_of_getElem? (i := 3) rfl))) (gi_sub (fun w h => (List.mem_cons_of_mem _ (List.mem_append_right _ (List.mem_append_right _ (List.mem_append_right _ (List.mem_append_left _ h)))))) zg_j165_X12_laysWindow)) rfl rfl rfl (by decide +kernel) ⟨Nat.le_of_ble_eq_true rfl, Nat.le_of_ble_eq_true rfl⟩ 0 rfl rfl rfl rfl (Nat.le_of_ble_eq_true rfl) ⟨Nat.le_of_ble_eq_true rfl, Nat.le_of_ble_eq_true rfl⟩ dX12_laysBoth_15 (fun v ty' w' hp hk' => ?_)
  obtain ⟨I19504, A19504, L19504, hI19504, hA19504, hV19504, rfl, rfl⟩ := hp
  show GW κ 3 0 0 (wM r g I19504 A19504 L19504) 18 [(0, .ref (r 0)), (1, .int z1), (2, .int z2)] []
  refine g_aload_n hk dX12_laysBoth_18 rfl ?_
  refine g_aload_n hk dX12_laysBoth_19 rfl ?_
  refine gM_i18 (v := (A 11 (5 * (I 15) + z1).toNatClampNeg)) hk hin12 (List.mem_cons_of_mem _ (List.mem_append_left _ (List.mem_of_getElem? (i := 4) rfl))) dX12_laysBoth_20 (hI19504 18 rfl) ?_
  refine g_callV (n := 1) hk (j171_X12_changesBoth l D zt r g I19504 A19504 L19504 (A 11 (5 * (I 15) + z1).toNatClampNeg) hV19504 (by omega) (by omega)) (SP.same _) (fun _ h => h) (gi_V (List.mem_cons_of_mem _ (List.mem_append_left _ (List.mem_of_getElem? (i := 8) rfl))) (List.mem_cons_of_mem _ (List.mem_append_left _ (List.mem_of_getElem? (i := 9) rfl))) (List.mem_cons_of_mem _ (List.mem_append_left _ (List.mem_of_getElem? (i := 10) rfl))) (List.mem_cons_of_mem _ (List.mem_append_left _ (List.mem_of_getElem? (i := 3) rfl))) (gi_sub (fun w h => (List.mem_cons_of_mem _ (List.mem_append_right _ (List.mem_append_right _ (List.mem_append_right _ (List.mem_append_right _ (List.mem_append_left _ h))))))) zg_j171_X12_changesBoth)) rfl rfl rfl (by decide +kernel) ⟨Nat.le_of_ble_eq_true rfl, Nat.le_of_ble_eq_true rfl⟩ 0 rfl rfl rfl rfl (Nat.le_of_ble_eq_true rfl) ⟨Nat.le_of_ble_eq_true rfl, Nat.le_of_ble_eq_true rfl⟩ dX12_laysBoth_23 (fun v ty' w' hp hk' => ?_)
  obtain ⟨I19528, A19528, L19528, hI19528, hA19528, hV19528, rfl, rfl⟩ := hp
  show GW κ 3 0 0 (wM r g I19528 A19528 L19528) 26 [(0, .ref (r 0)), (1, .int z1), (2, .int z2)] []
  refine g_aload_n hk dX12_laysBoth_26 rfl ?_
  refine g_iload_n hk dX12_laysBoth_27 rfl ?_
  refine g_callV (n := 1) hk (j172_X12_laysQuery l D zt r g I19528 A19528 L19528 z1 hV19528 (by omega) (by omega) (by first | (rw [show (A19528 11 (5 * (I19528 15) + z1).toNatClampNeg) = (A 11 (5 * (I 15) + z1).toNatClampNeg) from (by rw [show I19528 15 = (I 15) from ((hI19528 15 rfl).trans (hI19504 15 rfl))]; exact ((congrFun (hA19528 11 rfl) _).trans (congrFun (hA19504 11 rfl) _)))] <;> omega) | omega)) (SP.same _) (fun _ h => h) (gi_V (List.mem_cons_of_mem _ (List.mem_append_left _ (List.mem_of_getElem? (i := 11) rfl))) (List.mem_cons_of_mem _ (List.mem_append_left _ (List.mem_of_getElem? (i := 12) rfl))) (List.mem_cons_of_mem _ (List.mem_append_left _ (List.mem_of_getElem? (i := 13) rfl))) (List.mem_cons_of_mem _ (List.mem_append_left _ (List.mem_of_getElem? (i := 3) rfl))) (gi_sub (fun w h => (List.mem_cons_of_mem _ (List.mem_append_right _ (List.mem_append_right _ (List.mem_append_right _ (List.mem_append_right _ (List.mem_append_right _ (List.mem_append_left _ h)))))))) zg_j172_X12_laysQuery)) rfl rfl rfl (by decide +kernel) ⟨Nat.le_of_ble_eq_true rfl, Nat.le_of_ble_eq_true rfl⟩ 0 rfl rfl rfl rfl (Nat.le_of_ble_eq_true rfl) ⟨Nat.le_of_ble_eq_true rfl, Nat.le_of_ble_eq_true rfl⟩ dX12_laysBoth_28 (fun v ty' w' hp hk' => ?_)
  obtain ⟨I19592, A19592, L19592, hI19592, hA19592, hV19592, rfl, rfl⟩ := hp
  show GW κ 3 0 0 (wM r g I19592 A19592 L19592) 31 [(0, .ref (r 0)), (1, .int z1), (2, .int z2)] []
  exact g_vret hk hR ⟨I19592, A19592, L19592, (show Md [18] I I19592 from (Md.tr (Md.tr (Md.tr (Md.up Md.rf rfl) hI19504 rfl) hI19528 rfl) hI19592 rfl)), (show Md [19, 20] A A19592 from (Md.tr (Md.tr (Md.tr Md.rf hA19504 rfl) hA19528 rfl) hA19592 rfl)), hV19592, (by rw [show (I19592 18) = (A 11 (5 * (I 15) + z1).toNatClampNeg) from ((hI19592 18 rfl).trans ((hI19528 18 rfl).trans (hI19504 18 rfl)))] <;> omega), rfl, rfl⟩ dX12_laysBoth_31
def wo_j175_X12_isBand : List Cond := [Cond.fieldLink RX12 267 "WarpDeskModel" "wide" "I", Cond.methodLink RX12 244 yX12_in, Cond.static yX12_in, Cond.initialized RX12, Cond.fieldLink RX12 73 "WarpDeskModel" "row" "[I"]
def wz_j175_X12_isBand : List Cond := .code yX12_isBand cX12_isBand 3 (some .boolean) :: (wo_j175_X12_isBand ++ (wsX120 ++ (wz_j145_X12_in ++ ([] : List Cond))))
theorem zg_j175_X12_isBand : ∀ w ∈ wz_j175_X12_isBand, goodWord w = true := zg_cons rfl (zg_app (by decide +kernel) (zg_app zgU_wsX120 (zg_app zg_j145_X12_in zg_nil)))
theorem zi_j175_X12_isBand : ∀ w ∈ wz_j175_X12_isBand, w ∈ lw_tbl := zi_cons zw_1787 (zi_app (zi_cons zw_1415 (zi_cons zw_1656 (zi_cons zw_1657 (zi_cons zw_115 (zi_cons zw_1414 zi_nil))))) (zi_app inX12 (zi_app zi_j145_X12_in zi_nil)))
set_option maxHeartbeats 4000000 in
set_option maxRecDepth 100000 in
theorem j175_X12_isBand (l : Launch) (D : va_G) (zt : Nat × Nat × Nat × (Nat → Nat) × (Nat → Nat)) (r : Nat → Nat) (g : Nat → ClassId) (I : Nat → Int32) (A : Nat → Nat → Int32) (L : Nat → Nat → Int64) (z1 : Int32) (z2 : Int32) (hIv : IvM I A) (hp0 : (-1) ≤ z1.toInt) (hp1 : z1.toInt ≤ 15) (hp2 : (-1) ≤ z2.toInt) (hp3 : z2.toInt ≤ 15) : GM l D zt (tyM g) yX12_isBand wz_j175_X12_isBand ({ frames := 1, cells := 0, slots := 0, locals := 22 } : Room) [.ref (r 0), .int z1, .int z2] (wM r g I A L) (fun v _ w' => (v = some (.int 0) ∧ w' = wM r g I A L) ∨ ((0 ≤ z2.toInt) ∧ v = some (.int 1) ∧ w' = wM r g I A L)) 0 0 := by
  refine GM.of (cc := cX12_isBand) (maxL := 3) (ret := (some .boolean)) (own := RX12) (lv := [(0, .ref (r 0)), (1, .int z1), (2, .int z2)]) (by decide) rfl rfl (Nat.le_of_ble_eq_true rfl) rfl (fun κ sz hk hR hN => ?_)
  have hin12 : ∀ w ∈ u_ws RX12 TX12 55, w ∈ wz_j175_X12_isBand := fun w h => (List.mem_cons_of_mem _ (List.mem_append_right _ (List.mem_append_left _ h)))
  refine g_iload_n hk dX12_isBand_0 rfl ?_
  refine g_iconst (v := 0) hk dX12_isBand_1 (by decide) ?_
  refine g_aload_n hk dX12_isBand_2 rfl ?_
  refine gM_i18 (v := (I 18)) hk hin12 (List.mem_cons_of_mem _ (List.mem_append_left _ (List.mem_of_getElem? (i := 0) rfl))) dX12_isBand_3 rfl ?_
  have f19608 := IvM_f18 hIv
  refine g_iconst (v := 1) hk dX12_isBand_6 (by decide) ?_
  refine g_isub hk dX12_isBand_7 ?_
  refine g_topi (fun y19609 ey19609 => ?_)
  have hy19609 : y19609.toInt = (I 18).toInt - 1 := i32_sub ey19609 rfl rfl (by omega) (by omega)
  have k19610 : (0 : Int32).toInt = 0 := rfl
  refine g_callS (n := 3) hk (j145_X12_in l D zt r g I A L z2 0 y19609 hIv) (SP.same _) (fun _ h => h) (gi_S (List.mem_cons_of_mem _ (List.mem_append_left _ (List.mem_of_getElem? (i := 1) rfl))) (List.mem_cons_of_mem _ (List.mem_append_left _ (List.mem_of_getElem? (i := 2) rfl))) (List.mem_cons_of_mem _ (List.mem_append_left _ (List.mem_of_getElem? (i := 3) rfl))) (gi_sub (fun w h => (List.mem_cons_of_mem _ (List.mem_append_right _ (List.mem_append_right _ (List.mem_append_left _ h))))) zg_j145_X12_in)) rfl rfl rfl (by decide +kernel) ⟨Nat.le_of_ble_eq_true rfl, Nat.le_of_ble_eq_true rfl⟩ rfl rfl (Nat.le_of_ble_eq_true rfl) ⟨Nat.le_of_ble_eq_true rfl, Nat.le_of_ble_eq_true rfl⟩ dX12_isBand_8 (fun v ty' w' hp hk' => ?_)
  rcases hp with ⟨c19611, rfl, rfl⟩ | ⟨c19613, c19614, rfl, rfl⟩
  · skip
    show GW κ 3 0 0 (wM r g I A L) 11 [(0, .ref (r 0)), (1, .int z1), (2, .int z2)] [.int 0]
    refine g_if_eq (tgt := 44) (a := 0) hk dX12_isBand_11 (by decide) rfl (fun _ => ?_) (fun z9 => absurd (show (0 : Int) = (0 : Int) from by decide) z9)
    refine g_iconst (v := 0) hk dX12_isBand_44 (by decide) ?_
    exact g_iret hk hR rfl (Or.inl ⟨rfl, rfl⟩) dX12_isBand_45
  · skip
    show GW κ 3 0 0 (wM r g I A L) 11 [(0, .ref (r 0)), (1, .int z1), (2, .int z2)] [.int 1]
    refine g_if_eq (tgt := 44) (a := 1) hk dX12_isBand_11 (by decide) rfl (fun z9 => absurd z9 (show ¬ ((1 : Int) = (0 : Int)) from by decide)) (fun _ => ?_)
    refine g_iload_n hk dX12_isBand_14 rfl ?_
    refine g_iload_n hk dX12_isBand_15 rfl ?_
    refine g_isub hk dX12_isBand_16 ?_
    refine g_topi (fun y19616 ey19616 => ?_)
    have hy19616 : y19616.toInt = z1.toInt - z2.toInt := i32_sub ey19616 rfl rfl (by omega) (by omega)
    refine g_aload_n hk dX12_isBand_17 rfl ?_
    refine gM_r0_36 hk hin12 (List.mem_cons_of_mem _ (List.mem_append_left _ (List.mem_of_getElem? (i := 4) rfl))) dX12_isBand_18 ?_
    refine g_sipush (v := 161) hk dX12_isBand_21 (by decide) ?_
    refine lM_18 (v := (A 18 161)) hk (vp_in_iff.mpr ⟨by decide, by decide⟩) rfl dX12_isBand_24 ?_
    refine g_ineg hk dX12_isBand_25 ?_
    refine g_topi (fun y19617 ey19617 => ?_)
    refine g_aload_n hk dX12_isBand_26 rfl ?_
    refine gM_r0_36 hk hin12 (List.mem_cons_of_mem _ (List.mem_append_left _ (List.mem_of_getElem? (i := 4) rfl))) dX12_isBand_27 ?_
    refine g_sipush (v := 161) hk dX12_isBand_30 (by decide) ?_
    refine lM_18 (v := (A 18 161)) hk (vp_in_iff.mpr ⟨by decide, by decide⟩) rfl dX12_isBand_33 ?_
    refine g_callS (n := 3) hk (j145_X12_in l D zt r g I A L y19616 y19617 (A 18 161) hIv) (SP.same _) (fun _ h => h) (gi_S (List.mem_cons_of_mem _ (List.mem_append_left _ (List.mem_of_getElem? (i := 1) rfl))) (List.mem_cons_of_mem _ (List.mem_append_left _ (List.mem_of_getElem? (i := 2) rfl))) (List.mem_cons_of_mem _ (List.mem_append_left _ (List.mem_of_getElem? (i := 3) rfl))) (gi_sub (fun w h => (List.mem_cons_of_mem _ (List.mem_append_right _ (List.mem_append_right _ (List.mem_append_left _ h))))) zg_j145_X12_in)) rfl rfl rfl (by decide +kernel) ⟨Nat.le_of_ble_eq_true rfl, Nat.le_of_ble_eq_true rfl⟩ rfl rfl (Nat.le_of_ble_eq_true rfl) ⟨Nat.le_of_ble_eq_true rfl, Nat.le_of_ble_eq_true rfl⟩ dX12_isBand_34 (fun v ty' w' hp hk' => ?_)
    rcases hp with ⟨c19618, rfl, rfl⟩ | ⟨c19620, c19621, rfl, rfl⟩
    · skip
      have b19623l := Int32.le_toInt y19617
      have b19623h := Int32.toInt_lt y19617
      have b19624l := Int32.le_toInt (A 18 161)
      have b19624h := Int32.toInt_lt (A 18 161)
      show GW κ 3 0 0 (wM r g I A L) 37 [(0, .ref (r 0)), (1, .int z1), (2, .int z2)] [.int 0]
      refine g_if_eq (tgt := 44) (a := 0) hk dX12_isBand_37 (by decide) rfl (fun _ => ?_) (fun z9 => absurd (show (0 : Int) = (0 : Int) from by decide) z9)
      refine g_iconst (v := 0) hk dX12_isBand_44 (by decide) ?_
      exact g_iret hk hR rfl (Or.inl ⟨rfl, rfl⟩) dX12_isBand_45
    · skip
      show GW κ 3 0 0 (wM r g I A L) 37 [(0, .ref (r 0)), (1, .int z1), (2, .int z2)] [.int 1]
      refine g_if_eq (tgt := 44) (a := 1) hk dX12_isBand_37 (by decide) rfl (fun z9 => absurd z9 (show ¬ ((1 : Int) = (0 : Int)) from by decide)) (fun _ => ?_)
      refine g_iconst (v := 1) hk dX12_isBand_40 (by decide) ?_
      refine g_goto (tgt := 45) hk dX12_isBand_41 (by decide) ?_
      exact g_iret hk hR rfl (Or.inr (⟨(by omega), rfl, rfl⟩)) dX12_isBand_45
def wo_j174_X12_atTable : List Cond := [Cond.constant RX12 282 (2000000000), Cond.methodLink RX12 279 yX12_isBand, Cond.instanceMethod yX12_isBand, Cond.selects RX12 yX12_isBand yX12_isBand, Cond.initialized RX12, Cond.fieldLink RX12 82 "WarpDeskModel" "tableAt" "[I"]
def wz_j174_X12_atTable : List Cond := .code yX12_atTable cX12_atTable 3 (some .int) :: (wo_j174_X12_atTable ++ (wsX120 ++ (wz_j175_X12_isBand ++ ([] : List Cond))))
theorem zg_j174_X12_atTable : ∀ w ∈ wz_j174_X12_atTable, goodWord w = true := zg_cons rfl (zg_app (by decide +kernel) (zg_app zgU_wsX120 (zg_app zg_j175_X12_isBand zg_nil)))
theorem zi_j174_X12_atTable : ∀ w ∈ wz_j174_X12_atTable, w ∈ lw_tbl := zi_cons zw_1791 (zi_app (zi_cons zw_1775 (zi_cons zw_1784 (zi_cons zw_1786 (zi_cons zw_85 (zi_cons zw_115 (zi_cons zw_1418 zi_nil)))))) (zi_app inX12 (zi_app zi_j175_X12_isBand zi_nil)))
set_option maxHeartbeats 4000000 in
set_option maxRecDepth 100000 in
theorem j174_X12_atTable (l : Launch) (D : va_G) (zt : Nat × Nat × Nat × (Nat → Nat) × (Nat → Nat)) (r : Nat → Nat) (g : Nat → ClassId) (I : Nat → Int32) (A : Nat → Nat → Int32) (L : Nat → Nat → Int64) (z1 : Int32) (z2 : Int32) (hIv : IvM I A) (hp0 : (-1) ≤ z1.toInt) (hp1 : z1.toInt ≤ 15) (hp2 : (-1) ≤ z2.toInt) (hp3 : z2.toInt ≤ 15) : GM l D zt (tyM g) yX12_atTable wz_j174_X12_atTable ({ frames := 2, cells := 0, slots := 0, locals := 44 } : Room) [.ref (r 0), .int z1, .int z2] (wM r g I A L) (fun v _ w' => ∃ y0 : Int32, v = some (.int y0) ∧ w' = wM r g I A L) 0 0 := by
  refine GM.of (cc := cX12_atTable) (maxL := 3) (ret := (some .int)) (own := RX12) (lv := [(0, .ref (r 0)), (1, .int z1), (2, .int z2)]) (by decide) rfl rfl (Nat.le_of_ble_eq_true rfl) rfl (fun κ sz hk hR hN => ?_)
  have hin12 : ∀ w ∈ u_ws RX12 TX12 55, w ∈ wz_j174_X12_atTable := fun w h => (List.mem_cons_of_mem _ (List.mem_append_right _ (List.mem_append_left _ h)))
  refine g_iload_n hk dX12_atTable_0 rfl ?_
  refine g_if_lt (tgt := 17) (a := z1.toInt) hk dX12_atTable_1 (by decide) rfl (fun c19606 => ?_) (fun c19606 => ?_)
  · skip
    refine g_ldcw (v := 2000000000) hk (List.mem_cons_of_mem _ (List.mem_append_left _ (List.mem_of_getElem? (i := 0) rfl))) dX12_atTable_17 ?_
    refine g_goto (tgt := 34) hk dX12_atTable_20 (by decide) ?_
    exact g_iret hk hR rfl ⟨2000000000, rfl, rfl⟩ dX12_atTable_34
  · skip
    refine g_iload_n hk dX12_atTable_4 rfl ?_
    refine g_if_lt (tgt := 17) (a := z2.toInt) hk dX12_atTable_5 (by decide) rfl (fun c19607 => ?_) (fun c19607 => ?_)
    · skip
      refine g_ldcw (v := 2000000000) hk (List.mem_cons_of_mem _ (List.mem_append_left _ (List.mem_of_getElem? (i := 0) rfl))) dX12_atTable_17 ?_
      refine g_goto (tgt := 34) hk dX12_atTable_20 (by decide) ?_
      exact g_iret hk hR rfl ⟨2000000000, rfl, rfl⟩ dX12_atTable_34
    · skip
      refine g_aload_n hk dX12_atTable_8 rfl ?_
      refine g_iload_n hk dX12_atTable_9 rfl ?_
      refine g_iload_n hk dX12_atTable_10 rfl ?_
      refine g_callV (n := 2) hk (j175_X12_isBand l D zt r g I A L z1 z2 hIv (by omega) (by omega) (by omega) (by omega)) (SP.same _) (fun _ h => h) (gi_V (List.mem_cons_of_mem _ (List.mem_append_left _ (List.mem_of_getElem? (i := 1) rfl))) (List.mem_cons_of_mem _ (List.mem_append_left _ (List.mem_of_getElem? (i := 2) rfl))) (List.mem_cons_of_mem _ (List.mem_append_left _ (List.mem_of_getElem? (i := 3) rfl))) (List.mem_cons_of_mem _ (List.mem_append_left _ (List.mem_of_getElem? (i := 4) rfl))) (gi_sub (fun w h => (List.mem_cons_of_mem _ (List.mem_append_right _ (List.mem_append_right _ (List.mem_append_left _ h))))) zg_j175_X12_isBand)) rfl rfl rfl (by decide +kernel) ⟨Nat.le_of_ble_eq_true rfl, Nat.le_of_ble_eq_true rfl⟩ 0 rfl rfl rfl rfl (Nat.le_of_ble_eq_true rfl) ⟨Nat.le_of_ble_eq_true rfl, Nat.le_of_ble_eq_true rfl⟩ dX12_atTable_11 (fun v ty' w' hp hk' => ?_)
      rcases hp with ⟨rfl, rfl⟩ | ⟨c19626, rfl, rfl⟩
      · skip
        show GW κ 3 0 0 (wM r g I A L) 14 [(0, .ref (r 0)), (1, .int z1), (2, .int z2)] [.int 0]
        refine g_if_ne (tgt := 23) (a := 0) hk dX12_atTable_14 (by decide) rfl (fun z9 => absurd z9 (show ¬ ((0 : Int) ≠ (0 : Int)) from by decide)) (fun _ => ?_)
        refine g_ldcw (v := 2000000000) hk (List.mem_cons_of_mem _ (List.mem_append_left _ (List.mem_of_getElem? (i := 0) rfl))) dX12_atTable_17 ?_
        refine g_goto (tgt := 34) hk dX12_atTable_20 (by decide) ?_
        exact g_iret hk hR rfl ⟨2000000000, rfl, rfl⟩ dX12_atTable_34
      · skip
        show GW κ 3 0 0 (wM r g I A L) 14 [(0, .ref (r 0)), (1, .int z1), (2, .int z2)] [.int 1]
        refine g_if_ne (tgt := 23) (a := 1) hk dX12_atTable_14 (by decide) rfl (fun _ => ?_) (fun z9 => absurd (show (1 : Int) ≠ (0 : Int) from by decide) z9)
        refine g_aload_n hk dX12_atTable_23 rfl ?_
        refine gM_r0_40 hk hin12 (List.mem_cons_of_mem _ (List.mem_append_left _ (List.mem_of_getElem? (i := 5) rfl))) dX12_atTable_24 ?_
        refine g_bipush (v := 16) hk dX12_atTable_27 (by decide) ?_
        refine g_iload_n hk dX12_atTable_29 rfl ?_
        refine g_imul hk dX12_atTable_30 ?_
        refine g_topi (fun y19628 ey19628 => ?_)
        have hy19628 : y19628.toInt = 16 * z1.toInt := i32_mul ey19628 rfl rfl (by omega) (by omega)
        refine g_iload_n hk dX12_atTable_31 rfl ?_
        refine g_iadd hk dX12_atTable_32 ?_
        refine g_topi (fun y19629 ey19629 => ?_)
        have hy19629 : y19629.toInt = y19628.toInt + z2.toInt := i32_add ey19629 rfl rfl (by omega) (by omega)
        refine lM_21 (v := (A 21 y19629.toNatClampNeg)) hk (vp_in_iff.mpr ⟨by omega, by omega⟩) rfl dX12_atTable_33 ?_
        have b19630l := Int32.le_toInt (A 21 y19629.toNatClampNeg)
        have b19630h := Int32.toInt_lt (A 21 y19629.toNatClampNeg)
        exact g_iret hk hR rfl ⟨(A 21 y19629.toNatClampNeg), rfl, rfl⟩ dX12_atTable_34
def wo_j177_X12_least : List Cond := []
def wz_j177_X12_least : List Cond := .code yX12_least cX12_least 2 (some .int) :: (wo_j177_X12_least ++ ([] : List Cond))
theorem zg_j177_X12_least : ∀ w ∈ wz_j177_X12_least, goodWord w = true := zg_cons rfl (zg_app (by decide +kernel) zg_nil)
theorem zi_j177_X12_least : ∀ w ∈ wz_j177_X12_least, w ∈ lw_tbl := zi_cons zw_1794 (zi_app zi_nil zi_nil)
set_option maxHeartbeats 4000000 in
set_option maxRecDepth 100000 in
theorem j177_X12_least (l : Launch) (D : va_G) (zt : Nat × Nat × Nat × (Nat → Nat) × (Nat → Nat)) (r : Nat → Nat) (g : Nat → ClassId) (I : Nat → Int32) (A : Nat → Nat → Int32) (L : Nat → Nat → Int64) (z0 : Int32) (z1 : Int32) (hIv : IvM I A) : GM l D zt (tyM g) yX12_least wz_j177_X12_least ({ frames := 0, cells := 0, slots := 0, locals := 0 } : Room) [.int z0, .int z1] (wM r g I A L) (fun v _ w' => ∃ y0 : Int32, v = some (.int y0) ∧ w' = wM r g I A L) 0 0 := by
  refine GM.of (cc := cX12_least) (maxL := 2) (ret := (some .int)) (own := RX12) (lv := [(0, .int z0), (1, .int z1)]) (by decide) rfl rfl (Nat.le_of_ble_eq_true rfl) rfl (fun κ sz hk hR hN => ?_)
  refine g_iload_n hk dX12_least_0 rfl ?_
  refine g_iload_n hk dX12_least_1 rfl ?_
  have b19649l := Int32.le_toInt z0
  have b19649h := Int32.toInt_lt z0
  have b19650l := Int32.le_toInt z1
  have b19650h := Int32.toInt_lt z1
  refine g_icmp_ge (tgt := 9) (a := z0.toInt) (b := z1.toInt) hk dX12_least_2 (by decide) rfl rfl (fun c19651 => ?_) (fun c19651 => ?_)
  · skip
    refine g_iload_n hk dX12_least_9 rfl ?_
    exact g_iret hk hR rfl ⟨z1, rfl, rfl⟩ dX12_least_10
  · skip
    refine g_iload_n hk dX12_least_5 rfl ?_
    refine g_goto (tgt := 10) hk dX12_least_6 (by decide) ?_
    exact g_iret hk hR rfl ⟨z0, rfl, rfl⟩ dX12_least_10
def wo_j178_X12_costOf : List Cond := [Cond.fieldLink RX12 73 "WarpDeskModel" "row" "[I"]
def wz_j178_X12_costOf : List Cond := .code yX12_costOf cX12_costOf 4 (some .int) :: (wo_j178_X12_costOf ++ (wsX120 ++ ([] : List Cond)))
theorem zg_j178_X12_costOf : ∀ w ∈ wz_j178_X12_costOf, goodWord w = true := zg_cons rfl (zg_app (by decide +kernel) (zg_app zgU_wsX120 zg_nil))
theorem zi_j178_X12_costOf : ∀ w ∈ wz_j178_X12_costOf, w ∈ lw_tbl := zi_cons zw_1798 (zi_app (zi_cons zw_1414 zi_nil) (zi_app inX12 zi_nil))
set_option maxHeartbeats 4000000 in
set_option maxRecDepth 100000 in
theorem j178_X12_costOf (l : Launch) (D : va_G) (zt : Nat × Nat × Nat × (Nat → Nat) × (Nat → Nat)) (r : Nat → Nat) (g : Nat → ClassId) (I : Nat → Int32) (A : Nat → Nat → Int32) (L : Nat → Nat → Int64) (z1 : Int32) (z2 : Int32) (hIv : IvM I A) : GM l D zt (tyM g) yX12_costOf wz_j178_X12_costOf ({ frames := 0, cells := 0, slots := 0, locals := 0 } : Room) [.ref (r 0), .int z1, .int z2] (wM r g I A L) (fun v _ w' => ∃ y0 : Int32, v = some (.int y0) ∧ w' = wM r g I A L) 0 0 := by
  refine GM.of (cc := cX12_costOf) (maxL := 4) (ret := (some .int)) (own := RX12) (lv := [(0, .ref (r 0)), (1, .int z1), (2, .int z2)]) (by decide) rfl rfl (Nat.le_of_ble_eq_true rfl) rfl (fun κ sz hk hR hN => ?_)
  have hin12 : ∀ w ∈ u_ws RX12 TX12 55, w ∈ wz_j178_X12_costOf := fun w h => (List.mem_cons_of_mem _ (List.mem_append_right _ (List.mem_append_left _ h)))
  refine g_iload_n hk dX12_costOf_0 rfl ?_
  refine g_iload_n hk dX12_costOf_1 rfl ?_
  have b19657l := Int32.le_toInt z1
  have b19657h := Int32.toInt_lt z1
  have b19658l := Int32.le_toInt z2
  have b19658h := Int32.toInt_lt z2
  refine g_icmp_ge (tgt := 11) (a := z1.toInt) (b := z2.toInt) hk dX12_costOf_2 (by decide) rfl rfl (fun c19659 => ?_) (fun c19659 => ?_)
  · skip
    refine g_iload_n hk dX12_costOf_11 rfl ?_
    refine g_iload_n hk dX12_costOf_12 rfl ?_
    refine g_isub hk dX12_costOf_13 ?_
    refine g_topi (fun y19660 ey19660 => ?_)
    have hy19660 := i32_sub0 ey19660
    refine g_istore_n (lv' := [(3, .int y19660), (0, .ref (r 0)), (1, .int z1), (2, .int z2)]) hk dX12_costOf_14 (by decide) rfl ?_
    refine g_aload_n hk dX12_costOf_15 rfl ?_
    refine gM_r0_36 hk hin12 (List.mem_cons_of_mem _ (List.mem_append_left _ (List.mem_of_getElem? (i := 0) rfl))) dX12_costOf_16 ?_
    refine g_sipush (v := 163) hk dX12_costOf_19 (by decide) ?_
    refine lM_18 (v := (A 18 163)) hk (vp_in_iff.mpr ⟨by decide, by decide⟩) rfl dX12_costOf_22 ?_
    have b19661l := Int32.le_toInt (A 18 163)
    have b19661h := Int32.toInt_lt (A 18 163)
    refine g_if_ne (tgt := 30) (a := (A 18 163).toInt) hk dX12_costOf_23 (by decide) rfl (fun c19662 => ?_) (fun c19662 => ?_)
    · skip
      refine g_iload_n hk dX12_costOf_30 rfl ?_
      refine g_iload_n hk dX12_costOf_31 rfl ?_
      have b19663l := Int32.le_toInt y19660
      have b19663h := Int32.toInt_lt y19660
      refine g_imul hk dX12_costOf_32 ?_
      refine g_topi (fun y19664 ey19664 => ?_)
      have b19665l := Int32.le_toInt y19664
      have b19665h := Int32.toInt_lt y19664
      exact g_iret hk hR rfl ⟨y19664, rfl, rfl⟩ dX12_costOf_33
    · skip
      refine g_iload_n hk dX12_costOf_26 rfl ?_
      refine g_goto (tgt := 33) hk dX12_costOf_27 (by decide) ?_
      have b19666l := Int32.le_toInt y19660
      have b19666h := Int32.toInt_lt y19660
      exact g_iret hk hR rfl ⟨y19660, rfl, rfl⟩ dX12_costOf_33
  · skip
    refine g_iload_n hk dX12_costOf_5 rfl ?_
    refine g_iload_n hk dX12_costOf_6 rfl ?_
    refine g_isub hk dX12_costOf_7 ?_
    refine g_topi (fun y19667 ey19667 => ?_)
    have hy19667 := i32_sub0 ey19667
    refine g_goto (tgt := 14) hk dX12_costOf_8 (by decide) ?_
    refine g_istore_n (lv' := [(3, .int y19667), (0, .ref (r 0)), (1, .int z1), (2, .int z2)]) hk dX12_costOf_14 (by decide) rfl ?_
    refine g_aload_n hk dX12_costOf_15 rfl ?_
    refine gM_r0_36 hk hin12 (List.mem_cons_of_mem _ (List.mem_append_left _ (List.mem_of_getElem? (i := 0) rfl))) dX12_costOf_16 ?_
    refine g_sipush (v := 163) hk dX12_costOf_19 (by decide) ?_
    refine lM_18 (v := (A 18 163)) hk (vp_in_iff.mpr ⟨by decide, by decide⟩) rfl dX12_costOf_22 ?_
    have b19668l := Int32.le_toInt (A 18 163)
    have b19668h := Int32.toInt_lt (A 18 163)
    refine g_if_ne (tgt := 30) (a := (A 18 163).toInt) hk dX12_costOf_23 (by decide) rfl (fun c19669 => ?_) (fun c19669 => ?_)
    · skip
      refine g_iload_n hk dX12_costOf_30 rfl ?_
      refine g_iload_n hk dX12_costOf_31 rfl ?_
      have b19670l := Int32.le_toInt y19667
      have b19670h := Int32.toInt_lt y19667
      refine g_imul hk dX12_costOf_32 ?_
      refine g_topi (fun y19671 ey19671 => ?_)
      have b19672l := Int32.le_toInt y19671
      have b19672h := Int32.toInt_lt y19671
      exact g_iret hk hR rfl ⟨y19671, rfl, rfl⟩ dX12_costOf_33
    · skip
      refine g_iload_n hk dX12_costOf_26 rfl ?_
      refine g_goto (tgt := 33) hk dX12_costOf_27 (by decide) ?_
      have b19673l := Int32.le_toInt y19667
      have b19673h := Int32.toInt_lt y19667
      exact g_iret hk hR rfl ⟨y19667, rfl, rfl⟩ dX12_costOf_33
def wo_j176_X12_laysRow : List Cond := [Cond.constant RX12 282 (2000000000), Cond.fieldLink RX12 267 "WarpDeskModel" "wide" "I", Cond.methodLink RX12 279 yX12_isBand, Cond.instanceMethod yX12_isBand, Cond.selects RX12 yX12_isBand yX12_isBand, Cond.initialized RX12, Cond.methodLink RX12 283 yX12_atTable, Cond.instanceMethod yX12_atTable, Cond.selects RX12 yX12_atTable yX12_atTable, Cond.methodLink RX12 286 yX12_least, Cond.static yX12_least, Cond.fieldLink RX12 82 "WarpDeskModel" "tableAt" "[I", Cond.fieldLink RX12 76 "WarpDeskModel" "firstAt" "[I", Cond.fieldLink RX12 79 "WarpDeskModel" "otherAt" "[I", Cond.methodLink RX12 289 yX12_costOf, Cond.instanceMethod yX12_costOf, Cond.selects RX12 yX12_costOf yX12_costOf, Cond.fieldLink RX12 292 "WarpDeskModel" "laid" "I"]
def wz_j176_X12_laysRow : List Cond := .code yX12_laysRow cX12_laysRow 5 (some .int) :: (wo_j176_X12_laysRow ++ (wsX120 ++ (wz_j175_X12_isBand ++ (wz_j174_X12_atTable ++ (wz_j177_X12_least ++ (wz_j178_X12_costOf ++ ([] : List Cond)))))))
theorem zg_j176_X12_laysRow : ∀ w ∈ wz_j176_X12_laysRow, goodWord w = true := zg_cons rfl (zg_app (by decide +kernel) (zg_app zgU_wsX120 (zg_app zg_j175_X12_isBand (zg_app zg_j174_X12_atTable (zg_app zg_j177_X12_least (zg_app zg_j178_X12_costOf zg_nil))))))
theorem zi_j176_X12_laysRow : ∀ w ∈ wz_j176_X12_laysRow, w ∈ lw_tbl := zi_cons zw_1783 (zi_app (zi_cons zw_1775 (zi_cons zw_1415 (zi_cons zw_1784 (zi_cons zw_1786 (zi_cons zw_85 (zi_cons zw_115 (zi_cons zw_1788 (zi_cons zw_1790 (zi_cons zw_86 (zi_cons zw_1792 (zi_cons zw_1793 (zi_cons zw_1418 (zi_cons zw_1416 (zi_cons zw_1417 (zi_cons zw_1795 (zi_cons zw_1797 (zi_cons zw_87 (zi_cons zw_1419 zi_nil)))))))))))))))))) (zi_app inX12 (zi_app zi_j175_X12_isBand (zi_app zi_j174_X12_atTable (zi_app zi_j177_X12_least (zi_app zi_j178_X12_costOf zi_nil))))))
set_option maxHeartbeats 4000000 in
set_option maxRecDepth 100000 in
theorem j176_X12_laysRow (l : Launch) (D : va_G) (zt : Nat × Nat × Nat × (Nat → Nat) × (Nat → Nat)) (r : Nat → Nat) (g : Nat → ClassId) (I : Nat → Int32) (A : Nat → Nat → Int32) (L : Nat → Nat → Int64) (z1 : Int32) (hIv : IvM I A) (hp0 : 0 ≤ z1.toInt) (hp1 : z1.toInt ≤ 15) : GM l D zt (tyM g) yX12_laysRow wz_j176_X12_laysRow ({ frames := 3, cells := 0, slots := 0, locals := 66 } : Room) [.ref (r 0), .int z1] (wM r g I A L) (fun v _ w' => ∃ (I' : Nat → Int32) (A' : Nat → Nat → Int32) (L' : Nat → Nat → Int64), Md [19] I I' ∧ Md [21] A A' ∧ IvM I' A' ∧ ∃ y0 : Int32, v = some (.int y0) ∧ w' = wM r g I' A' L') 0 0 := by
  refine GM.of (cc := cX12_laysRow) (maxL := 5) (ret := (some .int)) (own := RX12) (lv := [(0, .ref (r 0)), (1, .int z1)]) (by decide) rfl rfl (Nat.le_of_ble_eq_true rfl) rfl (fun κ sz hk hR hN => ?_)
  have hin12 : ∀ w ∈ u_ws RX12 TX12 55, w ∈ wz_j176_X12_laysRow := fun w h => (List.mem_cons_of_mem _ (List.mem_append_right _ (List.mem_append_left _ h)))
  refine g_ldcw (v := 2000000000) hk (List.mem_cons_of_mem _ (List.mem_append_left _ (List.mem_of_getElem? (i := 0) rfl))) dX12_laysRow_0 ?_
  refine g_istore_n (lv' := [(2, .int 2000000000), (0, .ref (r 0)), (1, .int z1)]) hk dX12_laysRow_3 (by decide) rfl ?_
  refine g_iconst (v := 0) hk dX12_laysRow_4 (by decide) ?_
  refine g_istore_n (lv' := [(3, .int 0), (2, .int 2000000000), (0, .ref (r 0)), (1, .int z1)]) hk dX12_laysRow_5 (by decide) rfl ?_
  have lp19865 : ∀ (n19866 : Nat) (x19632 : Int32) (x19633 : Int32) (I19636 : Nat → Int32) (A19636 : Nat → Nat → Int32) (L19636 : Nat → Nat → Int64), (Md [19] I I19636) → (Md [21] A A19636) → (IvM I19636 A19636) → (0 ≤ x19632.toInt) → (x19632.toInt ≤ 16) → (17 - x19632.toInt < (n19866 : Int)) → (0 < n19866) → GW κ 5 0 0 (wM r g I19636 A19636 L19636) 6 [(3, .int x19632), (2, .int x19633), (0, .ref (r 0)), (1, .int z1)] [] := by
    intro n19866
    induction n19866 with
    | zero =>
      intro x19632 x19633 I19636 A19636 L19636 hI19636 hA19636 hV19636 h19863 h19864 m19867 m19867z
      exact absurd m19867z (Nat.lt_irrefl 0)
    | succ n19866 ih19868 =>
      intro x19632 x19633 I19636 A19636 L19636 hI19636 hA19636 hV19636 h19863 h19864 m19867 m19867z
      refine g_iload_n hk dX12_laysRow_6 rfl ?_
      refine g_aload_n hk dX12_laysRow_7 rfl ?_
      refine gM_i18 (v := (I 18)) hk hin12 (List.mem_cons_of_mem _ (List.mem_append_left _ (List.mem_of_getElem? (i := 1) rfl))) dX12_laysRow_8 (hI19636 18 rfl) ?_
      have f19869 := IvM_f18 hIv
      refine g_icmp_ge (tgt := 133) (a := x19632.toInt) (b := (I 18).toInt) hk dX12_laysRow_11 (by decide) rfl rfl (fun c19870 => ?_) (fun c19870 => ?_)
      · skip
        refine g_iload_n hk dX12_laysRow_133 rfl ?_
        have b19871l := Int32.le_toInt x19633
        have b19871h := Int32.toInt_lt x19633
        exact g_iret hk hR rfl ⟨I19636, A19636, L19636, (show Md [19] I I19636 from (Md.tr Md.rf hI19636 rfl)), (show Md [21] A A19636 from (Md.tr Md.rf hA19636 rfl)), hV19636, x19633, rfl, rfl⟩ dX12_laysRow_134
      · skip
        refine g_aload_n hk dX12_laysRow_14 rfl ?_
        refine g_iload_n hk dX12_laysRow_15 rfl ?_
        refine g_iload_n hk dX12_laysRow_16 rfl ?_
        refine g_callV (n := 2) hk (j175_X12_isBand l D zt r g I19636 A19636 L19636 z1 x19632 hV19636 (by omega) (by omega) (by omega) (by omega)) (SP.same _) (fun _ h => h) (gi_V (List.mem_cons_of_mem _ (List.mem_append_left _ (List.mem_of_getElem? (i := 2) rfl))) (List.mem_cons_of_mem _ (List.mem_append_left _ (List.mem_of_getElem? (i := 3) rfl))) (List.mem_cons_of_mem _ (List.mem_append_left _ (List.mem_of_getElem? (i := 4) rfl))) (List.mem_cons_of_mem _ (List.mem_append_left _ (List.mem_of_getElem? (i := 5) rfl))) (gi_sub (fun w h => (List.mem_cons_of_mem _ (List.mem_append_right _ (List.mem_append_right _ (List.mem_append_left _ h))))) zg_j175_X12_isBand)) rfl rfl rfl (by decide +kernel) ⟨Nat.le_of_ble_eq_true rfl, Nat.le_of_ble_eq_true rfl⟩ 0 rfl rfl rfl rfl (Nat.le_of_ble_eq_true rfl) ⟨Nat.le_of_ble_eq_true rfl, Nat.le_of_ble_eq_true rfl⟩ dX12_laysRow_17 (fun v ty' w' hp hk' => ?_)
        rcases hp with ⟨rfl, rfl⟩ | ⟨c19873, rfl, rfl⟩
        · skip
          show GW κ 5 0 0 (wM r g I19636 A19636 L19636) 20 [(3, .int x19632), (2, .int x19633), (0, .ref (r 0)), (1, .int z1)] [.int 0]
          refine g_if_ne (tgt := 26) (a := 0) hk dX12_laysRow_20 (by decide) rfl (fun z9 => absurd z9 (show ¬ ((0 : Int) ≠ (0 : Int)) from by decide)) (fun _ => ?_)
          refine g_goto (tgt := 127) hk dX12_laysRow_23 (by decide) ?_
          obtain ⟨y19875, ey19875⟩ : ∃ y : Int32, y = x19632 + Int32.ofInt 1 := ⟨_, rfl⟩
          have hy19875 : y19875.toInt = x19632.toInt + 1 := i32_add ey19875 rfl (by decide) (by omega) (by omega)
          refine g_iinc (v := y19875) (lv' := [(3, .int y19875), (2, .int x19633), (0, .ref (r 0)), (1, .int z1)]) hk 0 dX12_laysRow_127 rfl ey19875.symm (by decide) rfl ?_
          refine g_goto (tgt := 6) hk dX12_laysRow_130 (by decide) ?_
          have b19876l := Int32.le_toInt x19633
          have b19876h := Int32.toInt_lt x19633
          exact g_lv (List.forall_mem_cons.mpr ⟨List.mem_of_getElem? (i := 0) rfl, (List.forall_mem_cons.mpr ⟨List.mem_of_getElem? (i := 1) rfl, (List.forall_mem_cons.mpr ⟨List.mem_of_getElem? (i := 2) rfl, (List.forall_mem_cons.mpr ⟨List.mem_of_getElem? (i := 3) rfl, (fun _ h => absurd h List.not_mem_nil)⟩)⟩)⟩)⟩) (ih19868 y19875 x19633 I19636 A19636 L19636 (show Md [19] I I19636 from Md.tr hI19636 (show Md [19] I19636 I19636 from Md.rf) rfl) (show Md [21] A A19636 from Md.tr hA19636 (show Md [21] A19636 A19636 from Md.rf) rfl) hV19636 (by omega) (by omega) (by omega) (by omega))
        · skip
          show GW κ 5 0 0 (wM r g I19636 A19636 L19636) 20 [(3, .int x19632), (2, .int x19633), (0, .ref (r 0)), (1, .int z1)] [.int 1]
          refine g_if_ne (tgt := 26) (a := 1) hk dX12_laysRow_20 (by decide) rfl (fun _ => ?_) (fun z9 => absurd (show (1 : Int) ≠ (0 : Int) from by decide) z9)
          refine g_aload_n hk dX12_laysRow_26 rfl ?_
          refine g_iload_n hk dX12_laysRow_27 rfl ?_
          refine g_iconst (v := 1) hk dX12_laysRow_28 (by decide) ?_
          refine g_isub hk dX12_laysRow_29 ?_
          refine g_topi (fun y19877 ey19877 => ?_)
          have hy19877 : y19877.toInt = z1.toInt - 1 := i32_sub ey19877 rfl rfl (by omega) (by omega)
          refine g_iload_n hk dX12_laysRow_30 rfl ?_
          refine g_iconst (v := 1) hk dX12_laysRow_31 (by decide) ?_
          refine g_isub hk dX12_laysRow_32 ?_
          refine g_topi (fun y19878 ey19878 => ?_)
          have hy19878 : y19878.toInt = x19632.toInt - 1 := i32_sub ey19878 rfl rfl (by omega) (by omega)
          refine g_callV (n := 2) hk (j174_X12_atTable l D zt r g I19636 A19636 L19636 y19877 y19878 hV19636 (by omega) (by omega) (by omega) (by omega)) (SP.same _) (fun _ h => h) (gi_V (List.mem_cons_of_mem _ (List.mem_append_left _ (List.mem_of_getElem? (i := 6) rfl))) (List.mem_cons_of_mem _ (List.mem_append_left _ (List.mem_of_getElem? (i := 7) rfl))) (List.mem_cons_of_mem _ (List.mem_append_left _ (List.mem_of_getElem? (i := 8) rfl))) (List.mem_cons_of_mem _ (List.mem_append_left _ (List.mem_of_getElem? (i := 5) rfl))) (gi_sub (fun w h => (List.mem_cons_of_mem _ (List.mem_append_right _ (List.mem_append_right _ (List.mem_append_right _ (List.mem_append_left _ h)))))) zg_j174_X12_atTable)) rfl rfl rfl (by decide +kernel) ⟨Nat.le_of_ble_eq_true rfl, Nat.le_of_ble_eq_true rfl⟩ 0 rfl rfl rfl rfl (Nat.le_of_ble_eq_true rfl) ⟨Nat.le_of_ble_eq_true rfl, Nat.le_of_ble_eq_true rfl⟩ dX12_laysRow_33 (fun v ty' w' hp hk' => ?_)
          obtain ⟨y19879, rfl, rfl⟩ := hp
          show GW κ 5 0 0 (wM r g I19636 A19636 L19636) 36 [(3, .int x19632), (2, .int x19633), (0, .ref (r 0)), (1, .int z1)] [.int y19879]
          refine g_aload_n hk dX12_laysRow_36 rfl ?_
          refine g_iload_n hk dX12_laysRow_37 rfl ?_
          refine g_iconst (v := 1) hk dX12_laysRow_38 (by decide) ?_
          refine g_isub hk dX12_laysRow_39 ?_
          refine g_topi (fun y19880 ey19880 => ?_)
          have hy19880 : y19880.toInt = z1.toInt - 1 := i32_sub ey19880 rfl rfl (by omega) (by omega)
          refine g_iload_n hk dX12_laysRow_40 rfl ?_
          refine g_callV (n := 2) hk (j174_X12_atTable l D zt r g I19636 A19636 L19636 y19880 x19632 hV19636 (by omega) (by omega) (by omega) (by omega)) (SP.same _) (fun _ h => h) (gi_V (List.mem_cons_of_mem _ (List.mem_append_left _ (List.mem_of_getElem? (i := 6) rfl))) (List.mem_cons_of_mem _ (List.mem_append_left _ (List.mem_of_getElem? (i := 7) rfl))) (List.mem_cons_of_mem _ (List.mem_append_left _ (List.mem_of_getElem? (i := 8) rfl))) (List.mem_cons_of_mem _ (List.mem_append_left _ (List.mem_of_getElem? (i := 5) rfl))) (gi_sub (fun w h => (List.mem_cons_of_mem _ (List.mem_append_right _ (List.mem_append_right _ (List.mem_append_right _ (List.mem_append_left _ h)))))) zg_j174_X12_atTable)) rfl rfl rfl (by decide +kernel) ⟨Nat.le_of_ble_eq_true rfl, Nat.le_of_ble_eq_true rfl⟩ 0 rfl rfl rfl rfl (Nat.le_of_ble_eq_true rfl) ⟨Nat.le_of_ble_eq_true rfl, Nat.le_of_ble_eq_true rfl⟩ dX12_laysRow_41 (fun v ty' w' hp hk' => ?_)
          obtain ⟨y19881, rfl, rfl⟩ := hp
          show GW κ 5 0 0 (wM r g I19636 A19636 L19636) 44 [(3, .int x19632), (2, .int x19633), (0, .ref (r 0)), (1, .int z1)] [.int y19881, .int y19879]
          refine g_aload_n hk dX12_laysRow_44 rfl ?_
          refine g_iload_n hk dX12_laysRow_45 rfl ?_
          refine g_iload_n hk dX12_laysRow_46 rfl ?_
          refine g_iconst (v := 1) hk dX12_laysRow_47 (by decide) ?_
          refine g_isub hk dX12_laysRow_48 ?_
          refine g_topi (fun y19882 ey19882 => ?_)
          have hy19882 : y19882.toInt = x19632.toInt - 1 := i32_sub ey19882 rfl rfl (by omega) (by omega)
          refine g_callV (n := 2) hk (j174_X12_atTable l D zt r g I19636 A19636 L19636 z1 y19882 hV19636 (by omega) (by omega) (by omega) (by omega)) (SP.same _) (fun _ h => h) (gi_V (List.mem_cons_of_mem _ (List.mem_append_left _ (List.mem_of_getElem? (i := 6) rfl))) (List.mem_cons_of_mem _ (List.mem_append_left _ (List.mem_of_getElem? (i := 7) rfl))) (List.mem_cons_of_mem _ (List.mem_append_left _ (List.mem_of_getElem? (i := 8) rfl))) (List.mem_cons_of_mem _ (List.mem_append_left _ (List.mem_of_getElem? (i := 5) rfl))) (gi_sub (fun w h => (List.mem_cons_of_mem _ (List.mem_append_right _ (List.mem_append_right _ (List.mem_append_right _ (List.mem_append_left _ h)))))) zg_j174_X12_atTable)) rfl rfl rfl (by decide +kernel) ⟨Nat.le_of_ble_eq_true rfl, Nat.le_of_ble_eq_true rfl⟩ 0 rfl rfl rfl rfl (Nat.le_of_ble_eq_true rfl) ⟨Nat.le_of_ble_eq_true rfl, Nat.le_of_ble_eq_true rfl⟩ dX12_laysRow_49 (fun v ty' w' hp hk' => ?_)
          obtain ⟨y19883, rfl, rfl⟩ := hp
          show GW κ 5 0 0 (wM r g I19636 A19636 L19636) 52 [(3, .int x19632), (2, .int x19633), (0, .ref (r 0)), (1, .int z1)] [.int y19883, .int y19881, .int y19879]
          refine g_callS (n := 2) hk (j177_X12_least l D zt r g I19636 A19636 L19636 y19881 y19883 hV19636) (SP.same _) (fun _ h => h) (gi_S (List.mem_cons_of_mem _ (List.mem_append_left _ (List.mem_of_getElem? (i := 9) rfl))) (List.mem_cons_of_mem _ (List.mem_append_left _ (List.mem_of_getElem? (i := 10) rfl))) (List.mem_cons_of_mem _ (List.mem_append_left _ (List.mem_of_getElem? (i := 5) rfl))) (gi_sub (fun w h => (List.mem_cons_of_mem _ (List.mem_append_right _ (List.mem_append_right _ (List.mem_append_right _ (List.mem_append_right _ (List.mem_append_left _ h))))))) zg_j177_X12_least)) rfl rfl rfl (by decide +kernel) ⟨Nat.le_of_ble_eq_true rfl, Nat.le_of_ble_eq_true rfl⟩ rfl rfl (Nat.le_of_ble_eq_true rfl) ⟨Nat.le_of_ble_eq_true rfl, Nat.le_of_ble_eq_true rfl⟩ dX12_laysRow_52 (fun v ty' w' hp hk' => ?_)
          obtain ⟨y19884, rfl, rfl⟩ := hp
          show GW κ 5 0 0 (wM r g I19636 A19636 L19636) 55 [(3, .int x19632), (2, .int x19633), (0, .ref (r 0)), (1, .int z1)] [.int y19884, .int y19879]
          refine g_callS (n := 2) hk (j177_X12_least l D zt r g I19636 A19636 L19636 y19879 y19884 hV19636) (SP.same _) (fun _ h => h) (gi_S (List.mem_cons_of_mem _ (List.mem_append_left _ (List.mem_of_getElem? (i := 9) rfl))) (List.mem_cons_of_mem _ (List.mem_append_left _ (List.mem_of_getElem? (i := 10) rfl))) (List.mem_cons_of_mem _ (List.mem_append_left _ (List.mem_of_getElem? (i := 5) rfl))) (gi_sub (fun w h => (List.mem_cons_of_mem _ (List.mem_append_right _ (List.mem_append_right _ (List.mem_append_right _ (List.mem_append_right _ (List.mem_append_left _ h))))))) zg_j177_X12_least)) rfl rfl rfl (by decide +kernel) ⟨Nat.le_of_ble_eq_true rfl, Nat.le_of_ble_eq_true rfl⟩ rfl rfl (Nat.le_of_ble_eq_true rfl) ⟨Nat.le_of_ble_eq_true rfl, Nat.le_of_ble_eq_true rfl⟩ dX12_laysRow_55 (fun v ty' w' hp hk' => ?_)
          obtain ⟨y19885, rfl, rfl⟩ := hp
          show GW κ 5 0 0 (wM r g I19636 A19636 L19636) 58 [(3, .int x19632), (2, .int x19633), (0, .ref (r 0)), (1, .int z1)] [.int y19885]
          refine g_istore (lv' := [(4, .int y19885), (3, .int x19632), (2, .int x19633), (0, .ref (r 0)), (1, .int z1)]) hk dX12_laysRow_58 (by decide) rfl ?_
          refine g_iload_n hk dX12_laysRow_60 rfl ?_
          refine g_if_ne (tgt := 71) (a := z1.toInt) hk dX12_laysRow_61 (by decide) rfl (fun c19886 => ?_) (fun c19886 => ?_)
          · skip
            refine g_aload_n hk dX12_laysRow_71 rfl ?_
            refine gM_r0_40 hk hin12 (List.mem_cons_of_mem _ (List.mem_append_left _ (List.mem_of_getElem? (i := 11) rfl))) dX12_laysRow_72 ?_
            refine g_bipush (v := 16) hk dX12_laysRow_75 (by decide) ?_
            refine g_iload_n hk dX12_laysRow_77 rfl ?_
            refine g_imul hk dX12_laysRow_78 ?_
            refine g_topi (fun y19887 ey19887 => ?_)
            have hy19887 : y19887.toInt = 16 * z1.toInt := i32_mul ey19887 rfl rfl (by omega) (by omega)
            refine g_iload_n hk dX12_laysRow_79 rfl ?_
            refine g_iadd hk dX12_laysRow_80 ?_
            refine g_topi (fun y19888 ey19888 => ?_)
            have hy19888 : y19888.toInt = y19887.toInt + x19632.toInt := i32_add ey19888 rfl rfl (by omega) (by omega)
            refine g_iload hk dX12_laysRow_81 rfl ?_
            refine g_aload_n hk dX12_laysRow_83 rfl ?_
            refine g_aload_n hk dX12_laysRow_84 rfl ?_
            refine gM_r0_38 hk hin12 (List.mem_cons_of_mem _ (List.mem_append_left _ (List.mem_of_getElem? (i := 12) rfl))) dX12_laysRow_85 ?_
            refine g_iload_n hk dX12_laysRow_88 rfl ?_
            refine lM_19 (v := (A 19 z1.toNatClampNeg)) hk (vp_in_iff.mpr ⟨by omega, by omega⟩) (congrFun (hA19636 19 rfl) _) dX12_laysRow_89 ?_
            refine g_aload_n hk dX12_laysRow_90 rfl ?_
            refine gM_r0_39 hk hin12 (List.mem_cons_of_mem _ (List.mem_append_left _ (List.mem_of_getElem? (i := 13) rfl))) dX12_laysRow_91 ?_
            refine g_iload_n hk dX12_laysRow_94 rfl ?_
            refine lM_20 (v := (A 20 x19632.toNatClampNeg)) hk (vp_in_iff.mpr ⟨by omega, by omega⟩) (congrFun (hA19636 20 rfl) _) dX12_laysRow_95 ?_
            refine g_callV (n := 2) hk (j178_X12_costOf l D zt r g I19636 A19636 L19636 (A 19 z1.toNatClampNeg) (A 20 x19632.toNatClampNeg) hV19636) (SP.same _) (fun _ h => h) (gi_V (List.mem_cons_of_mem _ (List.mem_append_left _ (List.mem_of_getElem? (i := 14) rfl))) (List.mem_cons_of_mem _ (List.mem_append_left _ (List.mem_of_getElem? (i := 15) rfl))) (List.mem_cons_of_mem _ (List.mem_append_left _ (List.mem_of_getElem? (i := 16) rfl))) (List.mem_cons_of_mem _ (List.mem_append_left _ (List.mem_of_getElem? (i := 5) rfl))) (gi_sub (fun w h => (List.mem_cons_of_mem _ (List.mem_append_right _ (List.mem_append_right _ (List.mem_append_right _ (List.mem_append_right _ (List.mem_append_right _ (List.mem_append_left _ h)))))))) zg_j178_X12_costOf)) rfl rfl rfl (by decide +kernel) ⟨Nat.le_of_ble_eq_true rfl, Nat.le_of_ble_eq_true rfl⟩ 0 rfl rfl rfl rfl (Nat.le_of_ble_eq_true rfl) ⟨Nat.le_of_ble_eq_true rfl, Nat.le_of_ble_eq_true rfl⟩ dX12_laysRow_96 (fun v ty' w' hp hk' => ?_)
            obtain ⟨y19889, rfl, rfl⟩ := hp
            show GW κ 5 0 0 (wM r g I19636 A19636 L19636) 99 [(4, .int y19885), (3, .int x19632), (2, .int x19633), (0, .ref (r 0)), (1, .int z1)] [.int y19889, .int y19885, .int y19888, .ref (r 22)]
            have b19890l := Int32.le_toInt y19885
            have b19890h := Int32.toInt_lt y19885
            have b19891l := Int32.le_toInt y19889
            have b19891h := Int32.toInt_lt y19889
            refine g_iadd hk dX12_laysRow_99 ?_
            refine g_topi (fun y19892 ey19892 => ?_)
            refine sM_21 (j := y19888.toNatClampNeg) hk (vp_in_iff.mpr ⟨by omega, by omega⟩) rfl dX12_laysRow_100 ?_
            refine g_iload_n hk dX12_laysRow_101 rfl ?_
            refine g_aload_n hk dX12_laysRow_102 rfl ?_
            refine gM_r0_40 hk hin12 (List.mem_cons_of_mem _ (List.mem_append_left _ (List.mem_of_getElem? (i := 11) rfl))) dX12_laysRow_103 ?_
            refine g_bipush (v := 16) hk dX12_laysRow_106 (by decide) ?_
            refine g_iload_n hk dX12_laysRow_108 rfl ?_
            refine g_imul hk dX12_laysRow_109 ?_
            refine g_topi (fun y19893 ey19893 => ?_)
            have hy19893 : y19893.toInt = 16 * z1.toInt := i32_mul ey19893 rfl rfl (by omega) (by omega)
            refine g_iload_n hk dX12_laysRow_110 rfl ?_
            refine g_iadd hk dX12_laysRow_111 ?_
            refine g_topi (fun y19894 ey19894 => ?_)
            have hy19894 : y19894.toInt = y19893.toInt + x19632.toInt := i32_add ey19894 rfl rfl (by omega) (by omega)
            refine lM_21 hk (vp_in_iff.mpr ⟨by omega, by omega⟩) rfl dX12_laysRow_112 ?_
            refine g_topi (fun y19895 ey19895 => ?_)
            refine g_callS (n := 2) hk (j177_X12_least l D zt r g I19636 (up3 A19636 21 (y19888.toNatClampNeg) y19892) L19636 x19633 y19895 ⟨(IvM_f1 (I := I19636) (A := A19636) hV19636), (IvM_f2 (I := I19636) (A := A19636) hV19636), (IvM_f3 (I := I19636) (A := A19636) hV19636), (IvM_f4 (I := I19636) (A := A19636) hV19636), (IvM_f6 (I := I19636) (A := A19636) hV19636), (IvM_f8 (I := I19636) (A := A19636) hV19636), (IvM_f15 (I := I19636) (A := A19636) hV19636), (IvM_f16 (I := I19636) (A := A19636) hV19636), (IvM_f17 (I := I19636) (A := A19636) hV19636), (IvM_f18 (I := I19636) (A := A19636) hV19636), (IvM_f22 (I := I19636) (A := A19636) hV19636), (IvM_f23 (I := I19636) (A := A19636) hV19636), (IvM_f24 (I := I19636) (A := A19636) hV19636), (IvM_a11 (I := I19636) (A := A19636) hV19636), (IvM_a26 (I := I19636) (A := A19636) hV19636), (IvM_s8_0 (I := I19636) (A := A19636) hV19636), (IvM_s8_1 (I := I19636) (A := A19636) hV19636), (IvM_s10_0 (I := I19636) (A := A19636) hV19636), (IvM_s10_1 (I := I19636) (A := A19636) hV19636), (IvM_s17_0 (I := I19636) (A := A19636) hV19636), (IvM_s17_164 (I := I19636) (A := A19636) hV19636), (IvM_lv (I := I19636) (A := A19636) hV19636), (IvM_sd (I := I19636) (A := A19636) hV19636), (IvM_nq (I := I19636) (A := A19636) hV19636), (IvM_hr (I := I19636) (A := A19636) hV19636), (IvM_hh (I := I19636) (A := A19636) hV19636), trivial⟩) (SP.same _) (fun _ h => h) (gi_S (List.mem_cons_of_mem _ (List.mem_append_left _ (List.mem_of_getElem? (i := 9) rfl))) (List.mem_cons_of_mem _ (List.mem_append_left _ (List.mem_of_getElem? (i := 10) rfl))) (List.mem_cons_of_mem _ (List.mem_append_left _ (List.mem_of_getElem? (i := 5) rfl))) (gi_sub (fun w h => (List.mem_cons_of_mem _ (List.mem_append_right _ (List.mem_append_right _ (List.mem_append_right _ (List.mem_append_right _ (List.mem_append_left _ h))))))) zg_j177_X12_least)) rfl rfl rfl (by decide +kernel) ⟨Nat.le_of_ble_eq_true rfl, Nat.le_of_ble_eq_true rfl⟩ rfl rfl (Nat.le_of_ble_eq_true rfl) ⟨Nat.le_of_ble_eq_true rfl, Nat.le_of_ble_eq_true rfl⟩ dX12_laysRow_113 (fun v ty' w' hp hk' => ?_)
            obtain ⟨y19896, rfl, rfl⟩ := hp
            show GW κ 5 0 0 (wM r g I19636 (up3 A19636 21 (y19888.toNatClampNeg) y19892) L19636) 116 [(4, .int y19885), (3, .int x19632), (2, .int x19633), (0, .ref (r 0)), (1, .int z1)] [.int y19896]
            refine g_istore_n (lv' := [(2, .int y19896), (4, .int y19885), (3, .int x19632), (0, .ref (r 0)), (1, .int z1)]) hk dX12_laysRow_116 (by decide) rfl ?_
            refine g_aload_n hk dX12_laysRow_117 rfl ?_
            refine g_dup hk dX12_laysRow_118 rfl ?_
            refine gM_i19 (v := (I19636 19)) hk hin12 (List.mem_cons_of_mem _ (List.mem_append_left _ (List.mem_of_getElem? (i := 17) rfl))) dX12_laysRow_119 rfl ?_
            refine g_iconst (v := 1) hk dX12_laysRow_122 (by decide) ?_
            have b19897l := Int32.le_toInt (I19636 19)
            have b19897h := Int32.toInt_lt (I19636 19)
            refine g_iadd hk dX12_laysRow_123 ?_
            refine g_topi (fun y19898 ey19898 => ?_)
            refine pM_i19 hk hin12 (List.mem_cons_of_mem _ (List.mem_append_left _ (List.mem_of_getElem? (i := 17) rfl))) dX12_laysRow_124 ?_
            obtain ⟨y19899, ey19899⟩ : ∃ y : Int32, y = x19632 + Int32.ofInt 1 := ⟨_, rfl⟩
            have hy19899 : y19899.toInt = x19632.toInt + 1 := i32_add ey19899 rfl (by decide) (by omega) (by omega)
            refine g_iinc (v := y19899) (lv' := [(3, .int y19899), (2, .int y19896), (4, .int y19885), (0, .ref (r 0)), (1, .int z1)]) hk 2 dX12_laysRow_127 rfl ey19899.symm (by decide) rfl ?_
            refine g_goto (tgt := 6) hk dX12_laysRow_130 (by decide) ?_
            have b19900l := Int32.le_toInt y19896
            have b19900h := Int32.toInt_lt y19896
            exact g_lv (List.forall_mem_cons.mpr ⟨List.mem_of_getElem? (i := 0) rfl, (List.forall_mem_cons.mpr ⟨List.mem_of_getElem? (i := 1) rfl, (List.forall_mem_cons.mpr ⟨List.mem_of_getElem? (i := 3) rfl, (List.forall_mem_cons.mpr ⟨List.mem_of_getElem? (i := 4) rfl, (fun _ h => absurd h List.not_mem_nil)⟩)⟩)⟩)⟩) (ih19868 y19899 y19896 (upd I19636 19 y19898) (up3 A19636 21 (y19888.toNatClampNeg) y19892) L19636 (show Md [19] I (upd I19636 19 y19898) from Md.tr hI19636 (show Md [19] I19636 (upd I19636 19 y19898) from (Md.up Md.rf rfl)) rfl) (show Md [21] A (up3 A19636 21 (y19888.toNatClampNeg) y19892) from Md.tr hA19636 (show Md [21] A19636 (up3 A19636 21 (y19888.toNatClampNeg) y19892) from (Md.up3 Md.rf rfl)) rfl) ⟨(IvM_f1 (I := I19636) (A := A19636) hV19636), (IvM_f2 (I := I19636) (A := A19636) hV19636), (IvM_f3 (I := I19636) (A := A19636) hV19636), (IvM_f4 (I := I19636) (A := A19636) hV19636), (IvM_f6 (I := I19636) (A := A19636) hV19636), (IvM_f8 (I := I19636) (A := A19636) hV19636), (IvM_f15 (I := I19636) (A := A19636) hV19636), (IvM_f16 (I := I19636) (A := A19636) hV19636), (IvM_f17 (I := I19636) (A := A19636) hV19636), (IvM_f18 (I := I19636) (A := A19636) hV19636), (IvM_f22 (I := I19636) (A := A19636) hV19636), (IvM_f23 (I := I19636) (A := A19636) hV19636), (IvM_f24 (I := I19636) (A := A19636) hV19636), (IvM_a11 (I := I19636) (A := A19636) hV19636), (IvM_a26 (I := I19636) (A := A19636) hV19636), (IvM_s8_0 (I := I19636) (A := A19636) hV19636), (IvM_s8_1 (I := I19636) (A := A19636) hV19636), (IvM_s10_0 (I := I19636) (A := A19636) hV19636), (IvM_s10_1 (I := I19636) (A := A19636) hV19636), (IvM_s17_0 (I := I19636) (A := A19636) hV19636), (IvM_s17_164 (I := I19636) (A := A19636) hV19636), (IvM_lv (I := I19636) (A := A19636) hV19636), (IvM_sd (I := I19636) (A := A19636) hV19636), (IvM_nq (I := I19636) (A := A19636) hV19636), (IvM_hr (I := I19636) (A := A19636) hV19636), (IvM_hh (I := I19636) (A := A19636) hV19636), trivial⟩ (by omega) (by omega) (by omega) (by omega))
          · skip
            refine g_iload_n hk dX12_laysRow_64 rfl ?_
            refine g_if_ne (tgt := 71) (a := x19632.toInt) hk dX12_laysRow_65 (by decide) rfl (fun c19901 => ?_) (fun c19901 => ?_)
            · skip
              refine g_aload_n hk dX12_laysRow_71 rfl ?_
              refine gM_r0_40 hk hin12 (List.mem_cons_of_mem _ (List.mem_append_left _ (List.mem_of_getElem? (i := 11) rfl))) dX12_laysRow_72 ?_
              refine g_bipush (v := 16) hk dX12_laysRow_75 (by decide) ?_
              refine g_iload_n hk dX12_laysRow_77 rfl ?_
              refine g_imul hk dX12_laysRow_78 ?_
              refine g_topi (fun y19902 ey19902 => ?_)
              have hy19902 : y19902.toInt = 16 * z1.toInt := i32_mul ey19902 rfl rfl (by omega) (by omega)
              refine g_iload_n hk dX12_laysRow_79 rfl ?_
              refine g_iadd hk dX12_laysRow_80 ?_
              refine g_topi (fun y19903 ey19903 => ?_)
              have hy19903 : y19903.toInt = y19902.toInt + x19632.toInt := i32_add ey19903 rfl rfl (by omega) (by omega)
              refine g_iload hk dX12_laysRow_81 rfl ?_
              refine g_aload_n hk dX12_laysRow_83 rfl ?_
              refine g_aload_n hk dX12_laysRow_84 rfl ?_
              refine gM_r0_38 hk hin12 (List.mem_cons_of_mem _ (List.mem_append_left _ (List.mem_of_getElem? (i := 12) rfl))) dX12_laysRow_85 ?_
              refine g_iload_n hk dX12_laysRow_88 rfl ?_
              refine lM_19 (v := (A 19 z1.toNatClampNeg)) hk (vp_in_iff.mpr ⟨by omega, by omega⟩) (congrFun (hA19636 19 rfl) _) dX12_laysRow_89 ?_
              refine g_aload_n hk dX12_laysRow_90 rfl ?_
              refine gM_r0_39 hk hin12 (List.mem_cons_of_mem _ (List.mem_append_left _ (List.mem_of_getElem? (i := 13) rfl))) dX12_laysRow_91 ?_
              refine g_iload_n hk dX12_laysRow_94 rfl ?_
              refine lM_20 (v := (A 20 x19632.toNatClampNeg)) hk (vp_in_iff.mpr ⟨by omega, by omega⟩) (congrFun (hA19636 20 rfl) _) dX12_laysRow_95 ?_
              refine g_callV (n := 2) hk (j178_X12_costOf l D zt r g I19636 A19636 L19636 (A 19 z1.toNatClampNeg) (A 20 x19632.toNatClampNeg) hV19636) (SP.same _) (fun _ h => h) (gi_V (List.mem_cons_of_mem _ (List.mem_append_left _ (List.mem_of_getElem? (i := 14) rfl))) (List.mem_cons_of_mem _ (List.mem_append_left _ (List.mem_of_getElem? (i := 15) rfl))) (List.mem_cons_of_mem _ (List.mem_append_left _ (List.mem_of_getElem? (i := 16) rfl))) (List.mem_cons_of_mem _ (List.mem_append_left _ (List.mem_of_getElem? (i := 5) rfl))) (gi_sub (fun w h => (List.mem_cons_of_mem _ (List.mem_append_right _ (List.mem_append_right _ (List.mem_append_right _ (List.mem_append_right _ (List.mem_append_right _ (List.mem_append_left _ h)))))))) zg_j178_X12_costOf)) rfl rfl rfl (by decide +kernel) ⟨Nat.le_of_ble_eq_true rfl, Nat.le_of_ble_eq_true rfl⟩ 0 rfl rfl rfl rfl (Nat.le_of_ble_eq_true rfl) ⟨Nat.le_of_ble_eq_true rfl, Nat.le_of_ble_eq_true rfl⟩ dX12_laysRow_96 (fun v ty' w' hp hk' => ?_)
              obtain ⟨y19904, rfl, rfl⟩ := hp
              show GW κ 5 0 0 (wM r g I19636 A19636 L19636) 99 [(4, .int y19885), (3, .int x19632), (2, .int x19633), (0, .ref (r 0)), (1, .int z1)] [.int y19904, .int y19885, .int y19903, .ref (r 22)]
              have b19905l := Int32.le_toInt y19885
              have b19905h := Int32.toInt_lt y19885
              have b19906l := Int32.le_toInt y19904
              have b19906h := Int32.toInt_lt y19904
              refine g_iadd hk dX12_laysRow_99 ?_
              refine g_topi (fun y19907 ey19907 => ?_)
              refine sM_21 (j := y19903.toNatClampNeg) hk (vp_in_iff.mpr ⟨by omega, by omega⟩) rfl dX12_laysRow_100 ?_
              refine g_iload_n hk dX12_laysRow_101 rfl ?_
              refine g_aload_n hk dX12_laysRow_102 rfl ?_
              refine gM_r0_40 hk hin12 (List.mem_cons_of_mem _ (List.mem_append_left _ (List.mem_of_getElem? (i := 11) rfl))) dX12_laysRow_103 ?_
              refine g_bipush (v := 16) hk dX12_laysRow_106 (by decide) ?_
              refine g_iload_n hk dX12_laysRow_108 rfl ?_
              refine g_imul hk dX12_laysRow_109 ?_
              refine g_topi (fun y19908 ey19908 => ?_)
              have hy19908 : y19908.toInt = 16 * z1.toInt := i32_mul ey19908 rfl rfl (by omega) (by omega)
              refine g_iload_n hk dX12_laysRow_110 rfl ?_
              refine g_iadd hk dX12_laysRow_111 ?_
              refine g_topi (fun y19909 ey19909 => ?_)
              have hy19909 : y19909.toInt = y19908.toInt + x19632.toInt := i32_add ey19909 rfl rfl (by omega) (by omega)
              refine lM_21 hk (vp_in_iff.mpr ⟨by omega, by omega⟩) rfl dX12_laysRow_112 ?_
              refine g_topi (fun y19910 ey19910 => ?_)
              refine g_callS (n := 2) hk (j177_X12_least l D zt r g I19636 (up3 A19636 21 (y19903.toNatClampNeg) y19907) L19636 x19633 y19910 ⟨(IvM_f1 (I := I19636) (A := A19636) hV19636), (IvM_f2 (I := I19636) (A := A19636) hV19636), (IvM_f3 (I := I19636) (A := A19636) hV19636), (IvM_f4 (I := I19636) (A := A19636) hV19636), (IvM_f6 (I := I19636) (A := A19636) hV19636), (IvM_f8 (I := I19636) (A := A19636) hV19636), (IvM_f15 (I := I19636) (A := A19636) hV19636), (IvM_f16 (I := I19636) (A := A19636) hV19636), (IvM_f17 (I := I19636) (A := A19636) hV19636), (IvM_f18 (I := I19636) (A := A19636) hV19636), (IvM_f22 (I := I19636) (A := A19636) hV19636), (IvM_f23 (I := I19636) (A := A19636) hV19636), (IvM_f24 (I := I19636) (A := A19636) hV19636), (IvM_a11 (I := I19636) (A := A19636) hV19636), (IvM_a26 (I := I19636) (A := A19636) hV19636), (IvM_s8_0 (I := I19636) (A := A19636) hV19636), (IvM_s8_1 (I := I19636) (A := A19636) hV19636), (IvM_s10_0 (I := I19636) (A := A19636) hV19636), (IvM_s10_1 (I := I19636) (A := A19636) hV19636), (IvM_s17_0 (I := I19636) (A := A19636) hV19636), (IvM_s17_164 (I := I19636) (A := A19636) hV19636), (IvM_lv (I := I19636) (A := A19636) hV19636), (IvM_sd (I := I19636) (A := A19636) hV19636), (IvM_nq (I := I19636) (A := A19636) hV19636), (IvM_hr (I := I19636) (A := A19636) hV19636), (IvM_hh (I := I19636) (A := A19636) hV19636), trivial⟩) (SP.same _) (fun _ h => h) (gi_S (List.mem_cons_of_mem _ (List.mem_append_left _ (List.mem_of_getElem? (i := 9) rfl))) (List.mem_cons_of_mem _ (List.mem_append_left _ (List.mem_of_getElem? (i := 10) rfl))) (List.mem_cons_of_mem _ (List.mem_append_left _ (List.mem_of_getElem? (i := 5) rfl))) (gi_sub (fun w h => (List.mem_cons_of_mem _ (List.mem_append_right _ (List.mem_append_right _ (List.mem_append_right _ (List.mem_append_right _ (List.mem_append_left _ h))))))) zg_j177_X12_least)) rfl rfl rfl (by decide +kernel) ⟨Nat.le_of_ble_eq_true rfl, Nat.le_of_ble_eq_true rfl⟩ rfl rfl (Nat.le_of_ble_eq_true rfl) ⟨Nat.le_of_ble_eq_true rfl, Nat.le_of_ble_eq_true rfl⟩ dX12_laysRow_113 (fun v ty' w' hp hk' => ?_)
              obtain ⟨y19911, rfl, rfl⟩ := hp
              show GW κ 5 0 0 (wM r g I19636 (up3 A19636 21 (y19903.toNatClampNeg) y19907) L19636) 116 [(4, .int y19885), (3, .int x19632), (2, .int x19633), (0, .ref (r 0)), (1, .int z1)] [.int y19911]
              refine g_istore_n (lv' := [(2, .int y19911), (4, .int y19885), (3, .int x19632), (0, .ref (r 0)), (1, .int z1)]) hk dX12_laysRow_116 (by decide) rfl ?_
              refine g_aload_n hk dX12_laysRow_117 rfl ?_
              refine g_dup hk dX12_laysRow_118 rfl ?_
              refine gM_i19 (v := (I19636 19)) hk hin12 (List.mem_cons_of_mem _ (List.mem_append_left _ (List.mem_of_getElem? (i := 17) rfl))) dX12_laysRow_119 rfl ?_
              refine g_iconst (v := 1) hk dX12_laysRow_122 (by decide) ?_
              have b19912l := Int32.le_toInt (I19636 19)
              have b19912h := Int32.toInt_lt (I19636 19)
              refine g_iadd hk dX12_laysRow_123 ?_
              refine g_topi (fun y19913 ey19913 => ?_)
              refine pM_i19 hk hin12 (List.mem_cons_of_mem _ (List.mem_append_left _ (List.mem_of_getElem? (i := 17) rfl))) dX12_laysRow_124 ?_
              obtain ⟨y19914, ey19914⟩ : ∃ y : Int32, y = x19632 + Int32.ofInt 1 := ⟨_, rfl⟩
              have hy19914 : y19914.toInt = x19632.toInt + 1 := i32_add ey19914 rfl (by decide) (by omega) (by omega)
              refine g_iinc (v := y19914) (lv' := [(3, .int y19914), (2, .int y19911), (4, .int y19885), (0, .ref (r 0)), (1, .int z1)]) hk 2 dX12_laysRow_127 rfl ey19914.symm (by decide) rfl ?_
              refine g_goto (tgt := 6) hk dX12_laysRow_130 (by decide) ?_
              have b19915l := Int32.le_toInt y19911
              have b19915h := Int32.toInt_lt y19911
              exact g_lv (List.forall_mem_cons.mpr ⟨List.mem_of_getElem? (i := 0) rfl, (List.forall_mem_cons.mpr ⟨List.mem_of_getElem? (i := 1) rfl, (List.forall_mem_cons.mpr ⟨List.mem_of_getElem? (i := 3) rfl, (List.forall_mem_cons.mpr ⟨List.mem_of_getElem? (i := 4) rfl, (fun _ h => absurd h List.not_mem_nil)⟩)⟩)⟩)⟩) (ih19868 y19914 y19911 (upd I19636 19 y19913) (up3 A19636 21 (y19903.toNatClampNeg) y19907) L19636 (show Md [19] I (upd I19636 19 y19913) from Md.tr hI19636 (show Md [19] I19636 (upd I19636 19 y19913) from (Md.up Md.rf rfl)) rfl) (show Md [21] A (up3 A19636 21 (y19903.toNatClampNeg) y19907) from Md.tr hA19636 (show Md [21] A19636 (up3 A19636 21 (y19903.toNatClampNeg) y19907) from (Md.up3 Md.rf rfl)) rfl) ⟨(IvM_f1 (I := I19636) (A := A19636) hV19636), (IvM_f2 (I := I19636) (A := A19636) hV19636), (IvM_f3 (I := I19636) (A := A19636) hV19636), (IvM_f4 (I := I19636) (A := A19636) hV19636), (IvM_f6 (I := I19636) (A := A19636) hV19636), (IvM_f8 (I := I19636) (A := A19636) hV19636), (IvM_f15 (I := I19636) (A := A19636) hV19636), (IvM_f16 (I := I19636) (A := A19636) hV19636), (IvM_f17 (I := I19636) (A := A19636) hV19636), (IvM_f18 (I := I19636) (A := A19636) hV19636), (IvM_f22 (I := I19636) (A := A19636) hV19636), (IvM_f23 (I := I19636) (A := A19636) hV19636), (IvM_f24 (I := I19636) (A := A19636) hV19636), (IvM_a11 (I := I19636) (A := A19636) hV19636), (IvM_a26 (I := I19636) (A := A19636) hV19636), (IvM_s8_0 (I := I19636) (A := A19636) hV19636), (IvM_s8_1 (I := I19636) (A := A19636) hV19636), (IvM_s10_0 (I := I19636) (A := A19636) hV19636), (IvM_s10_1 (I := I19636) (A := A19636) hV19636), (IvM_s17_0 (I := I19636) (A := A19636) hV19636), (IvM_s17_164 (I := I19636) (A := A19636) hV19636), (IvM_lv (I := I19636) (A := A19636) hV19636), (IvM_sd (I := I19636) (A := A19636) hV19636), (IvM_nq (I := I19636) (A := A19636) hV19636), (IvM_hr (I := I19636) (A := A19636) hV19636), (IvM_hh (I := I19636) (A := A19636) hV19636), trivial⟩ (by omega) (by omega) (by omega) (by omega))
            · skip
              refine g_iconst (v := 0) hk dX12_laysRow_68 (by decide) ?_
              refine g_istore (lv' := [(4, .int 0), (3, .int x19632), (2, .int x19633), (0, .ref (r 0)), (1, .int z1)]) hk dX12_laysRow_69 (by decide) rfl ?_
              refine g_aload_n hk dX12_laysRow_71 rfl ?_
              refine gM_r0_40 hk hin12 (List.mem_cons_of_mem _ (List.mem_append_left _ (List.mem_of_getElem? (i := 11) rfl))) dX12_laysRow_72 ?_
              refine g_bipush (v := 16) hk dX12_laysRow_75 (by decide) ?_
              refine g_iload_n hk dX12_laysRow_77 rfl ?_
              refine g_imul hk dX12_laysRow_78 ?_
              refine g_topi (fun y19916 ey19916 => ?_)
              have hy19916 : y19916.toInt = 16 * z1.toInt := i32_mul ey19916 rfl rfl (by omega) (by omega)
              refine g_iload_n hk dX12_laysRow_79 rfl ?_
              refine g_iadd hk dX12_laysRow_80 ?_
              refine g_topi (fun y19917 ey19917 => ?_)
              have hy19917 : y19917.toInt = y19916.toInt + x19632.toInt := i32_add ey19917 rfl rfl (by omega) (by omega)
              refine g_iload hk dX12_laysRow_81 rfl ?_
              refine g_aload_n hk dX12_laysRow_83 rfl ?_
              refine g_aload_n hk dX12_laysRow_84 rfl ?_
              refine gM_r0_38 hk hin12 (List.mem_cons_of_mem _ (List.mem_append_left _ (List.mem_of_getElem? (i := 12) rfl))) dX12_laysRow_85 ?_
              refine g_iload_n hk dX12_laysRow_88 rfl ?_
              refine lM_19 (v := (A 19 z1.toNatClampNeg)) hk (vp_in_iff.mpr ⟨by omega, by omega⟩) (congrFun (hA19636 19 rfl) _) dX12_laysRow_89 ?_
              refine g_aload_n hk dX12_laysRow_90 rfl ?_
              refine gM_r0_39 hk hin12 (List.mem_cons_of_mem _ (List.mem_append_left _ (List.mem_of_getElem? (i := 13) rfl))) dX12_laysRow_91 ?_
              refine g_iload_n hk dX12_laysRow_94 rfl ?_
              refine lM_20 (v := (A 20 x19632.toNatClampNeg)) hk (vp_in_iff.mpr ⟨by omega, by omega⟩) (congrFun (hA19636 20 rfl) _) dX12_laysRow_95 ?_
              refine g_callV (n := 2) hk (j178_X12_costOf l D zt r g I19636 A19636 L19636 (A 19 z1.toNatClampNeg) (A 20 x19632.toNatClampNeg) hV19636) (SP.same _) (fun _ h => h) (gi_V (List.mem_cons_of_mem _ (List.mem_append_left _ (List.mem_of_getElem? (i := 14) rfl))) (List.mem_cons_of_mem _ (List.mem_append_left _ (List.mem_of_getElem? (i := 15) rfl))) (List.mem_cons_of_mem _ (List.mem_append_left _ (List.mem_of_getElem? (i := 16) rfl))) (List.mem_cons_of_mem _ (List.mem_append_left _ (List.mem_of_getElem? (i := 5) rfl))) (gi_sub (fun w h => (List.mem_cons_of_mem _ (List.mem_append_right _ (List.mem_append_right _ (List.mem_append_right _ (List.mem_append_right _ (List.mem_append_right _ (List.mem_append_left _ h)))))))) zg_j178_X12_costOf)) rfl rfl rfl (by decide +kernel) ⟨Nat.le_of_ble_eq_true rfl, Nat.le_of_ble_eq_true rfl⟩ 0 rfl rfl rfl rfl (Nat.le_of_ble_eq_true rfl) ⟨Nat.le_of_ble_eq_true rfl, Nat.le_of_ble_eq_true rfl⟩ dX12_laysRow_96 (fun v ty' w' hp hk' => ?_)
              obtain ⟨y19918, rfl, rfl⟩ := hp
              show GW κ 5 0 0 (wM r g I19636 A19636 L19636) 99 [(4, .int 0), (3, .int x19632), (2, .int x19633), (0, .ref (r 0)), (1, .int z1)] [.int y19918, .int 0, .int y19917, .ref (r 22)]
              have b19919l := Int32.le_toInt y19918
              have b19919h := Int32.toInt_lt y19918
              refine g_iadd hk dX12_laysRow_99 ?_
              refine g_topi (fun y19920 ey19920 => ?_)
              have hy19920 : y19920.toInt = 0 + y19918.toInt := i32_add ey19920 rfl rfl (by omega) (by omega)
              refine sM_21 (j := y19917.toNatClampNeg) hk (vp_in_iff.mpr ⟨by omega, by omega⟩) rfl dX12_laysRow_100 ?_
              refine g_iload_n hk dX12_laysRow_101 rfl ?_
              refine g_aload_n hk dX12_laysRow_102 rfl ?_
              refine gM_r0_40 hk hin12 (List.mem_cons_of_mem _ (List.mem_append_left _ (List.mem_of_getElem? (i := 11) rfl))) dX12_laysRow_103 ?_
              refine g_bipush (v := 16) hk dX12_laysRow_106 (by decide) ?_
              refine g_iload_n hk dX12_laysRow_108 rfl ?_
              refine g_imul hk dX12_laysRow_109 ?_
              refine g_topi (fun y19921 ey19921 => ?_)
              have hy19921 : y19921.toInt = 16 * z1.toInt := i32_mul ey19921 rfl rfl (by omega) (by omega)
              refine g_iload_n hk dX12_laysRow_110 rfl ?_
              refine g_iadd hk dX12_laysRow_111 ?_
              refine g_topi (fun y19922 ey19922 => ?_)
              have hy19922 : y19922.toInt = y19921.toInt + x19632.toInt := i32_add ey19922 rfl rfl (by omega) (by omega)
              refine lM_21 hk (vp_in_iff.mpr ⟨by omega, by omega⟩) rfl dX12_laysRow_112 ?_
              refine g_topi (fun y19923 ey19923 => ?_)
              refine g_callS (n := 2) hk (j177_X12_least l D zt r g I19636 (up3 A19636 21 (y19917.toNatClampNeg) y19920) L19636 x19633 y19923 ⟨(IvM_f1 (I := I19636) (A := A19636) hV19636), (IvM_f2 (I := I19636) (A := A19636) hV19636), (IvM_f3 (I := I19636) (A := A19636) hV19636), (IvM_f4 (I := I19636) (A := A19636) hV19636), (IvM_f6 (I := I19636) (A := A19636) hV19636), (IvM_f8 (I := I19636) (A := A19636) hV19636), (IvM_f15 (I := I19636) (A := A19636) hV19636), (IvM_f16 (I := I19636) (A := A19636) hV19636), (IvM_f17 (I := I19636) (A := A19636) hV19636), (IvM_f18 (I := I19636) (A := A19636) hV19636), (IvM_f22 (I := I19636) (A := A19636) hV19636), (IvM_f23 (I := I19636) (A := A19636) hV19636), (IvM_f24 (I := I19636) (A := A19636) hV19636), (IvM_a11 (I := I19636) (A := A19636) hV19636), (IvM_a26 (I := I19636) (A := A19636) hV19636), (IvM_s8_0 (I := I19636) (A := A19636) hV19636), (IvM_s8_1 (I := I19636) (A := A19636) hV19636), (IvM_s10_0 (I := I19636) (A := A19636) hV19636), (IvM_s10_1 (I := I19636) (A := A19636) hV19636), (IvM_s17_0 (I := I19636) (A := A19636) hV19636), (IvM_s17_164 (I := I19636) (A := A19636) hV19636), (IvM_lv (I := I19636) (A := A19636) hV19636), (IvM_sd (I := I19636) (A := A19636) hV19636), (IvM_nq (I := I19636) (A := A19636) hV19636), (IvM_hr (I := I19636) (A := A19636) hV19636), (IvM_hh (I := I19636) (A := A19636) hV19636), trivial⟩) (SP.same _) (fun _ h => h) (gi_S (List.mem_cons_of_mem _ (List.mem_append_left _ (List.mem_of_getElem? (i := 9) rfl))) (List.mem_cons_of_mem _ (List.mem_append_left _ (List.mem_of_getElem? (i := 10) rfl))) (List.mem_cons_of_mem _ (List.mem_append_left _ (List.mem_of_getElem? (i := 5) rfl))) (gi_sub (fun w h => (List.mem_cons_of_mem _ (List.mem_append_right _ (List.mem_append_right _ (List.mem_append_right _ (List.mem_append_right _ (List.mem_append_left _ h))))))) zg_j177_X12_least)) rfl rfl rfl (by decide +kernel) ⟨Nat.le_of_ble_eq_true rfl, Nat.le_of_ble_eq_true rfl⟩ rfl rfl (Nat.le_of_ble_eq_true rfl) ⟨Nat.le_of_ble_eq_true rfl, Nat.le_of_ble_eq_true rfl⟩ dX12_laysRow_113 (fun v ty' w' hp hk' => ?_)
              obtain ⟨y19924, rfl, rfl⟩ := hp
              show GW κ 5 0 0 (wM r g I19636 (up3 A19636 21 (y19917.toNatClampNeg) y19920) L19636) 116 [(4, .int 0), (3, .int x19632), (2, .int x19633), (0, .ref (r 0)), (1, .int z1)] [.int y19924]
              refine g_istore_n (lv' := [(2, .int y19924), (4, .int 0), (3, .int x19632), (0, .ref (r 0)), (1, .int z1)]) hk dX12_laysRow_116 (by decide) rfl ?_
              refine g_aload_n hk dX12_laysRow_117 rfl ?_
              refine g_dup hk dX12_laysRow_118 rfl ?_
              refine gM_i19 (v := (I19636 19)) hk hin12 (List.mem_cons_of_mem _ (List.mem_append_left _ (List.mem_of_getElem? (i := 17) rfl))) dX12_laysRow_119 rfl ?_
              refine g_iconst (v := 1) hk dX12_laysRow_122 (by decide) ?_
              have b19925l := Int32.le_toInt (I19636 19)
              have b19925h := Int32.toInt_lt (I19636 19)
              refine g_iadd hk dX12_laysRow_123 ?_
              refine g_topi (fun y19926 ey19926 => ?_)
              refine pM_i19 hk hin12 (List.mem_cons_of_mem _ (List.mem_append_left _ (List.mem_of_getElem? (i := 17) rfl))) dX12_laysRow_124 ?_
              obtain ⟨y19927, ey19927⟩ : ∃ y : Int32, y = x19632 + Int32.ofInt 1 := ⟨_, rfl⟩
              have hy19927 : y19927.toInt = x19632.toInt + 1 := i32_add ey19927 rfl (by decide) (by omega) (by omega)
              refine g_iinc (v := y19927) (lv' := [(3, .int y19927), (2, .int y19924), (4, .int 0), (0, .ref (r 0)), (1, .int z1)]) hk 2 dX12_laysRow_127 rfl ey19927.symm (by decide) rfl ?_
              refine g_goto (tgt := 6) hk dX12_laysRow_130 (by decide) ?_
              have b19928l := Int32.le_toInt y19924
              have b19928h := Int32.toInt_lt y19924
              exact g_lv (List.forall_mem_cons.mpr ⟨List.mem_of_getElem? (i := 0) rfl, (List.forall_mem_cons.mpr ⟨List.mem_of_getElem? (i := 1) rfl, (List.forall_mem_cons.mpr ⟨List.mem_of_getElem? (i := 3) rfl, (List.forall_mem_cons.mpr ⟨List.mem_of_getElem? (i := 4) rfl, (fun _ h => absurd h List.not_mem_nil)⟩)⟩)⟩)⟩) (ih19868 y19927 y19924 (upd I19636 19 y19926) (up3 A19636 21 (y19917.toNatClampNeg) y19920) L19636 (show Md [19] I (upd I19636 19 y19926) from Md.tr hI19636 (show Md [19] I19636 (upd I19636 19 y19926) from (Md.up Md.rf rfl)) rfl) (show Md [21] A (up3 A19636 21 (y19917.toNatClampNeg) y19920) from Md.tr hA19636 (show Md [21] A19636 (up3 A19636 21 (y19917.toNatClampNeg) y19920) from (Md.up3 Md.rf rfl)) rfl) ⟨(IvM_f1 (I := I19636) (A := A19636) hV19636), (IvM_f2 (I := I19636) (A := A19636) hV19636), (IvM_f3 (I := I19636) (A := A19636) hV19636), (IvM_f4 (I := I19636) (A := A19636) hV19636), (IvM_f6 (I := I19636) (A := A19636) hV19636), (IvM_f8 (I := I19636) (A := A19636) hV19636), (IvM_f15 (I := I19636) (A := A19636) hV19636), (IvM_f16 (I := I19636) (A := A19636) hV19636), (IvM_f17 (I := I19636) (A := A19636) hV19636), (IvM_f18 (I := I19636) (A := A19636) hV19636), (IvM_f22 (I := I19636) (A := A19636) hV19636), (IvM_f23 (I := I19636) (A := A19636) hV19636), (IvM_f24 (I := I19636) (A := A19636) hV19636), (IvM_a11 (I := I19636) (A := A19636) hV19636), (IvM_a26 (I := I19636) (A := A19636) hV19636), (IvM_s8_0 (I := I19636) (A := A19636) hV19636), (IvM_s8_1 (I := I19636) (A := A19636) hV19636), (IvM_s10_0 (I := I19636) (A := A19636) hV19636), (IvM_s10_1 (I := I19636) (A := A19636) hV19636), (IvM_s17_0 (I := I19636) (A := A19636) hV19636), (IvM_s17_164 (I := I19636) (A := A19636) hV19636), (IvM_lv (I := I19636) (A := A19636) hV19636), (IvM_sd (I := I19636) (A := A19636) hV19636), (IvM_nq (I := I19636) (A := A19636) hV19636), (IvM_hr (I := I19636) (A := A19636) hV19636), (IvM_hh (I := I19636) (A := A19636) hV19636), trivial⟩ (by omega) (by omega) (by omega) (by omega))
  have k19929 : (0 : Int32).toInt = 0 := rfl
  have k19930 : (2000000000 : Int32).toInt = 2000000000 := rfl
  obtain ⟨n19931, n19931a, n19931b⟩ : ∃ n : Nat, 17 - (0 : Int32).toInt < (n : Int) ∧ 0 < n := ⟨((17 - (0 : Int32).toInt : Int)).toNat + 1, by omega, by omega⟩
  exact lp19865 n19931 0 2000000000 I A L Md.rf Md.rf hIv (by omega) (by omega) n19931a n19931b
