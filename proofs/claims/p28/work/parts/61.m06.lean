noncomputable def fM12_set (I : Nat → Int32) (A : Nat → Nat → Int32) (L : Nat → Nat → Int64) (z1 : Int32) (z2 : Int32) : Int32 × (Nat → Int32) × (Nat → Nat → Int32) × (Nat → Nat → Int64) := if fM12_in I A L z1 0 3 = 0 then (0, I, A, L) else f_lt ((161 : Int32) + z1) fun y28574 => if (A 17 y28574.toNatClampNeg).toInt ≠ z2.toInt then if z1.toInt ≠ 3 then if z1.toInt ≠ 0 then if z1.toInt ≠ 1 then if fM12_in I A L z2 0 1 = 0 then (0, I, A, L) else f_bdM (fM12_copies I A L) fun _ I28588 A28588 L28588 => f_lt ((161 : Int32) + z1) fun y28593 => f_bdM (fM12_records I28588 (up3 A28588 18 (y28593.toNatClampNeg) z2) L28588) fun _ I28597 A28597 L28597 => (1, I28597, A28597, L28597) else if fM12_in I A L z2 0 3 = 0 then (0, I, A, L) else f_bdM (fM12_copies I A L) fun _ I28604 A28604 L28604 => f_lt ((161 : Int32) + z1) fun y28609 => f_bdM (fM12_records I28604 (up3 A28604 18 (y28609.toNatClampNeg) z2) L28604) fun _ I28613 A28613 L28613 => (1, I28613, A28613, L28613) else if fM12_in I A L z2 0 15 = 0 then (0, I, A, L) else f_bdM (fM12_copies I A L) fun _ I28621 A28621 L28621 => f_lt ((161 : Int32) + z1) fun y28626 => f_bdM (fM12_records I28621 (up3 A28621 18 (y28626.toNatClampNeg) z2) L28621) fun _ I28630 A28630 L28630 => (1, I28630, A28630, L28630) else if fM12_in I A L z2 1 99 = 0 then (0, I, A, L) else f_bdM (fM12_copies I A L) fun _ I28639 A28639 L28639 => f_lt ((161 : Int32) + z1) fun y28644 => f_bdM (fM12_records I28639 (up3 A28639 18 (y28644.toNatClampNeg) z2) L28639) fun _ I28648 A28648 L28648 => (1, I28648, A28648, L28648) else (0, I, A, L)
def wo_j157_X12_set : List Cond := [Cond.methodLink RX12 244 yX12_in, Cond.static yX12_in, Cond.initialized RX12, Cond.fieldLink RX12 70 "WarpDeskModel" "now" "[I", Cond.methodLink RX12 323 yX12_copies, Cond.instanceMethod yX12_copies, Cond.selects RX12 yX12_copies yX12_copies, Cond.fieldLink RX12 73 "WarpDeskModel" "row" "[I", Cond.methodLink RX12 326 yX12_records, Cond.instanceMethod yX12_records, Cond.selects RX12 yX12_records yX12_records]
def wz_j157_X12_set : List Cond := .code yX12_set cX12_set 5 (some .boolean) :: (wo_j157_X12_set ++ (wsX120 ++ (wz_j145_X12_in ++ (wz_j151_X12_copies ++ (wz_j152_X12_records ++ ([] : List Cond))))))
theorem zg_j157_X12_set : ∀ w ∈ wz_j157_X12_set, goodWord w = true := zg_cons rfl (zg_app (by decide +kernel) (zg_app zgU_wsX120 (zg_app zg_j145_X12_in (zg_app zg_j151_X12_copies (zg_app zg_j152_X12_records zg_nil)))))
theorem zi_j157_X12_set : ∀ w ∈ wz_j157_X12_set, w ∈ lw_tbl := zi_cons zw_1705 (zi_app (zi_cons zw_1656 (zi_cons zw_1657 (zi_cons zw_115 (zi_cons zw_1413 (zi_cons zw_1679 (zi_cons zw_1681 (zi_cons zw_70 (zi_cons zw_1414 (zi_cons zw_1683 (zi_cons zw_1685 (zi_cons zw_71 zi_nil))))))))))) (zi_app inX12 (zi_app zi_j145_X12_in (zi_app zi_j151_X12_copies (zi_app zi_j152_X12_records zi_nil)))))
set_option maxHeartbeats 4000000 in
set_option maxRecDepth 100000 in
theorem j157_X12_set (l : Launch) (D : va_G) (zt : Nat × Nat × Nat × (Nat → Nat) × (Nat → Nat)) (r : Nat → Nat) (g : Nat → ClassId) (I : Nat → Int32) (A : Nat → Nat → Int32) (L : Nat → Nat → Int64) (z1 : Int32) (z2 : Int32) (hIv : IvM I A) : GM l D zt (tyM g) yX12_set wz_j157_X12_set ({ frames := 2, cells := 0, slots := 0, locals := 42 } : Room) [.ref (r 0), .int z1, .int z2] (wM r g I A L) (fun v _ w' => ∃ (I' : Nat → Int32) (A' : Nat → Nat → Int32) (L' : Nat → Nat → Int64), Md [22] I I' ∧ Md [17, 18, 22] A A' ∧ IvM I' A' ∧ ∃ y0 : Int32, (L' = L) ∧ (0 ≤ y0.toInt) ∧ (y0.toInt ≤ 1) ∧ FE (fM12_set I A L z1 z2) (y0, I', A', L') ∧ v = some (.int y0) ∧ w' = wM r g I' A' L') 0 0 := by
  refine GM.of (cc := cX12_set) (maxL := 5) (ret := (some .boolean)) (own := RX12) (lv := [(0, .ref (r 0)), (1, .int z1), (2, .int z2)]) (by decide) rfl rfl (Nat.le_of_ble_eq_true rfl) rfl (fun κ sz hk hR hN => ?_)
  have hin12 : ∀ w ∈ u_ws RX12 TX12 55, w ∈ wz_j157_X12_set := fun w h => (List.mem_cons_of_mem _ (List.mem_append_right _ (List.mem_append_left _ h)))
  have hF : FE (fM12_set I A L z1 z2) (fM12_set I A L z1 z2) := FE.rf
  refine g_iload_n hk dX12_set_0 rfl ?_
  refine g_iconst (v := 0) hk dX12_set_1 (by decide) ?_
  refine g_iconst (v := 3) hk dX12_set_2 (by decide) ?_
  have k28566 : (0 : Int32).toInt = 0 := rfl
  have k28567 : (3 : Int32).toInt = 3 := rfl
  refine g_callS (n := 3) hk (j145_X12_in l D zt r g I A L z1 0 3 hIv) (SP.same _) (fun _ h => h) (gi_S (List.mem_cons_of_mem _ (List.mem_append_left _ (List.mem_of_getElem? (i := 0) rfl))) (List.mem_cons_of_mem _ (List.mem_append_left _ (List.mem_of_getElem? (i := 1) rfl))) (List.mem_cons_of_mem _ (List.mem_append_left _ (List.mem_of_getElem? (i := 2) rfl))) (gi_sub (fun w h => (List.mem_cons_of_mem _ (List.mem_append_right _ (List.mem_append_right _ (List.mem_append_left _ h))))) zg_j145_X12_in)) rfl rfl rfl (by decide +kernel) ⟨Nat.le_of_ble_eq_true rfl, Nat.le_of_ble_eq_true rfl⟩ rfl rfl (Nat.le_of_ble_eq_true rfl) ⟨Nat.le_of_ble_eq_true rfl, Nat.le_of_ble_eq_true rfl⟩ dX12_set_3 (fun v ty' w' hp hk' => ?_)
  rcases hp with ⟨c28568, hC, rfl, rfl⟩ | ⟨c28570, c28571, hC, rfl, rfl⟩
  · skip
    replace hF := FE.pos hF hC
    have b28573l := Int32.le_toInt z1
    have b28573h := Int32.toInt_lt z1
    show GW κ 5 0 0 (wM r g I A L) 6 [(0, .ref (r 0)), (1, .int z1), (2, .int z2)] [.int 0]
    refine g_if_eq (tgt := 23) (a := 0) hk dX12_set_6 (by decide) rfl (fun _ => ?_) (fun z9 => absurd (show (0 : Int) = (0 : Int) from by decide) z9)
    refine g_iconst (v := 0) hk dX12_set_23 (by decide) ?_
    exact g_iret hk hR rfl ⟨I, A, L, (show Md [22] I I from Md.rf), (show Md [17, 18, 22] A A from Md.rf), hIv, 0, (show L = L from rfl), (by decide), (by decide), hF, rfl, rfl⟩ dX12_set_24
  · skip
    replace hF := FE.neg hF (fe_ne hC (by decide))
    show GW κ 5 0 0 (wM r g I A L) 6 [(0, .ref (r 0)), (1, .int z1), (2, .int z2)] [.int 1]
    refine g_if_eq (tgt := 23) (a := 1) hk dX12_set_6 (by decide) rfl (fun z9 => absurd z9 (show ¬ ((1 : Int) = (0 : Int)) from by decide)) (fun _ => ?_)
    refine g_aload_n hk dX12_set_9 rfl ?_
    refine gM_r0_35 hk hin12 (List.mem_cons_of_mem _ (List.mem_append_left _ (List.mem_of_getElem? (i := 3) rfl))) dX12_set_10 ?_
    refine g_sipush (v := 161) hk dX12_set_13 (by decide) ?_
    refine g_iload_n hk dX12_set_16 rfl ?_
    refine g_iadd hk dX12_set_17 ?_
    refine g_topi (fun y28574 ey28574 => ?_)
    replace hF := FE.lt hF ey28574
    have hy28574 : y28574.toInt = 161 + z1.toInt := i32_add ey28574 rfl rfl (by omega) (by omega)
    refine lM_17 (v := (A 17 y28574.toNatClampNeg)) hk (vp_in_iff.mpr ⟨by omega, by omega⟩) rfl dX12_set_18 ?_
    refine g_iload_n hk dX12_set_19 rfl ?_
    have b28575l := Int32.le_toInt (A 17 y28574.toNatClampNeg)
    have b28575h := Int32.toInt_lt (A 17 y28574.toNatClampNeg)
    have b28576l := Int32.le_toInt z2
    have b28576h := Int32.toInt_lt z2
    refine g_icmp_ne (tgt := 25) (a := (A 17 y28574.toNatClampNeg).toInt) (b := z2.toInt) hk dX12_set_20 (by decide) rfl rfl (fun c28577 => ?_) (fun c28577 => ?_)
    · skip
      replace hF := FE.pos hF c28577
      refine g_iload_n hk dX12_set_25 rfl ?_
      refine g_iconst (v := 3) hk dX12_set_26 (by decide) ?_
      refine g_icmp_ne (tgt := 34) (a := z1.toInt) (b := 3) hk dX12_set_27 (by decide) rfl rfl (fun c28578 => ?_) (fun c28578 => ?_)
      · skip
        replace hF := FE.pos hF c28578
        refine g_iconst (v := 0) hk dX12_set_34 (by decide) ?_
        refine g_istore_n (lv' := [(3, .int 0), (0, .ref (r 0)), (1, .int z1), (2, .int z2)]) hk dX12_set_35 (by decide) rfl ?_
        refine g_iload_n hk dX12_set_36 rfl ?_
        refine g_if_ne (tgt := 45) (a := z1.toInt) hk dX12_set_37 (by decide) rfl (fun c28579 => ?_) (fun c28579 => ?_)
        · skip
          replace hF := FE.pos hF c28579
          refine g_iload_n hk dX12_set_45 rfl ?_
          refine g_iconst (v := 1) hk dX12_set_46 (by decide) ?_
          refine g_icmp_ne (tgt := 54) (a := z1.toInt) (b := 1) hk dX12_set_47 (by decide) rfl rfl (fun c28580 => ?_) (fun c28580 => ?_)
          · skip
            replace hF := FE.pos hF c28580
            refine g_iload_n hk dX12_set_54 rfl ?_
            refine g_iconst (v := 2) hk dX12_set_55 (by decide) ?_
            refine g_icmp_ne (tgt := 63) (a := z1.toInt) (b := 2) hk dX12_set_56 (by decide) rfl rfl (fun z9 => absurd z9 (show ¬ (z1.toInt ≠ 2) from by omega)) (fun _ => ?_)
            refine g_iconst (v := 1) hk dX12_set_59 (by decide) ?_
            refine g_goto (tgt := 65) hk dX12_set_60 (by decide) ?_
            refine g_istore (lv' := [(4, .int 1), (3, .int 0), (0, .ref (r 0)), (1, .int z1), (2, .int z2)]) hk dX12_set_65 (by decide) rfl ?_
            refine g_iload_n hk dX12_set_67 rfl ?_
            refine g_iload_n hk dX12_set_68 rfl ?_
            refine g_iload hk dX12_set_69 rfl ?_
            have k28581 : (1 : Int32).toInt = 1 := rfl
            refine g_callS (n := 3) hk (j145_X12_in l D zt r g I A L z2 0 1 hIv) (SP.same _) (fun _ h => h) (gi_S (List.mem_cons_of_mem _ (List.mem_append_left _ (List.mem_of_getElem? (i := 0) rfl))) (List.mem_cons_of_mem _ (List.mem_append_left _ (List.mem_of_getElem? (i := 1) rfl))) (List.mem_cons_of_mem _ (List.mem_append_left _ (List.mem_of_getElem? (i := 2) rfl))) (gi_sub (fun w h => (List.mem_cons_of_mem _ (List.mem_append_right _ (List.mem_append_right _ (List.mem_append_left _ h))))) zg_j145_X12_in)) rfl rfl rfl (by decide +kernel) ⟨Nat.le_of_ble_eq_true rfl, Nat.le_of_ble_eq_true rfl⟩ rfl rfl (Nat.le_of_ble_eq_true rfl) ⟨Nat.le_of_ble_eq_true rfl, Nat.le_of_ble_eq_true rfl⟩ dX12_set_71 (fun v ty' w' hp hk' => ?_)
            rcases hp with ⟨c28582, hC, rfl, rfl⟩ | ⟨c28584, c28585, hC, rfl, rfl⟩
            · skip
              replace hF := FE.pos hF hC
              show GW κ 5 0 0 (wM r g I A L) 74 [(4, .int 1), (3, .int 0), (0, .ref (r 0)), (1, .int z1), (2, .int z2)] [.int 0]
              refine g_if_ne (tgt := 79) (a := 0) hk dX12_set_74 (by decide) rfl (fun z9 => absurd z9 (show ¬ ((0 : Int) ≠ (0 : Int)) from by decide)) (fun _ => ?_)
              refine g_iconst (v := 0) hk dX12_set_77 (by decide) ?_
              exact g_iret hk hR rfl ⟨I, A, L, (show Md [22] I I from Md.rf), (show Md [17, 18, 22] A A from Md.rf), hIv, 0, (show L = L from rfl), (by decide), (by decide), hF, rfl, rfl⟩ dX12_set_78
            · skip
              replace hF := FE.neg hF (fe_ne hC (by decide))
              show GW κ 5 0 0 (wM r g I A L) 74 [(4, .int 1), (3, .int 0), (0, .ref (r 0)), (1, .int z1), (2, .int z2)] [.int 1]
              refine g_if_ne (tgt := 79) (a := 1) hk dX12_set_74 (by decide) rfl (fun _ => ?_) (fun z9 => absurd (show (1 : Int) ≠ (0 : Int) from by decide) z9)
              refine g_aload_n hk dX12_set_79 rfl ?_
              refine g_callV (n := 0) hk (j151_X12_copies l D zt r g I A L  hIv) (SP.same _) (fun _ h => h) (gi_V (List.mem_cons_of_mem _ (List.mem_append_left _ (List.mem_of_getElem? (i := 4) rfl))) (List.mem_cons_of_mem _ (List.mem_append_left _ (List.mem_of_getElem? (i := 5) rfl))) (List.mem_cons_of_mem _ (List.mem_append_left _ (List.mem_of_getElem? (i := 6) rfl))) (List.mem_cons_of_mem _ (List.mem_append_left _ (List.mem_of_getElem? (i := 2) rfl))) (gi_sub (fun w h => (List.mem_cons_of_mem _ (List.mem_append_right _ (List.mem_append_right _ (List.mem_append_right _ (List.mem_append_left _ h)))))) zg_j151_X12_copies)) rfl rfl rfl (by decide +kernel) ⟨Nat.le_of_ble_eq_true rfl, Nat.le_of_ble_eq_true rfl⟩ 0 rfl rfl rfl rfl (Nat.le_of_ble_eq_true rfl) ⟨Nat.le_of_ble_eq_true rfl, Nat.le_of_ble_eq_true rfl⟩ dX12_set_80 (fun v ty' w' hp hk' => ?_)
              obtain ⟨I28588, A28588, L28588, hI28588, hA28588, hV28588, r28589, r28590, hL28588, hC, rfl, rfl⟩ := hp
              replace hF := FE.bdM hF hC
              have f28591 := IvM_s17_0 hIv
              have f28592 := IvM_s17_164 hIv
              show GW κ 5 0 0 (wM r g I28588 A28588 L28588) 83 [(4, .int 1), (3, .int 0), (0, .ref (r 0)), (1, .int z1), (2, .int z2)] []
              refine g_aload_n hk dX12_set_83 rfl ?_
              refine gM_r0_36 hk hin12 (List.mem_cons_of_mem _ (List.mem_append_left _ (List.mem_of_getElem? (i := 7) rfl))) dX12_set_84 ?_
              refine g_sipush (v := 161) hk dX12_set_87 (by decide) ?_
              refine g_iload_n hk dX12_set_90 rfl ?_
              refine g_iadd hk dX12_set_91 ?_
              refine g_topi (fun y28593 ey28593 => ?_)
              replace hF := FE.lt hF ey28593
              have hy28593 : y28593.toInt = 161 + z1.toInt := i32_add ey28593 rfl rfl (by omega) (by omega)
              refine g_iload_n hk dX12_set_92 rfl ?_
              refine sM_18 (j := y28593.toNatClampNeg) hk (vp_in_iff.mpr ⟨by omega, by omega⟩) rfl dX12_set_93 ?_
              have hS28594 : (up3 A28588 18 (y28593.toNatClampNeg) z2) 18 0 = (A28588 18 0) := (up3_ne (by have := cl_int (y := y28593) (by omega); omega)).trans (show A28588 18 0 = (A28588 18 0) from rfl)
              have hS28595 : (up3 A28588 18 (y28593.toNatClampNeg) z2) 18 164 = (A28588 18 164) := (up3_ne (by have := cl_int (y := y28593) (by omega); omega)).trans (show A28588 18 164 = (A28588 18 164) from rfl)
              refine g_aload_n hk dX12_set_94 rfl ?_
              refine g_callV (n := 0) hk (j152_X12_records l D zt r g I28588 (up3 A28588 18 (y28593.toNatClampNeg) z2) L28588  ⟨(IvM_f1 (I := I28588) (A := A28588) hV28588), (IvM_f2 (I := I28588) (A := A28588) hV28588), (IvM_f3 (I := I28588) (A := A28588) hV28588), (IvM_f4 (I := I28588) (A := A28588) hV28588), (IvM_f6 (I := I28588) (A := A28588) hV28588), (IvM_f8 (I := I28588) (A := A28588) hV28588), (IvM_f15 (I := I28588) (A := A28588) hV28588), (IvM_f16 (I := I28588) (A := A28588) hV28588), (IvM_f17 (I := I28588) (A := A28588) hV28588), (IvM_f18 (I := I28588) (A := A28588) hV28588), (IvM_f22 (I := I28588) (A := A28588) hV28588), (IvM_f23 (I := I28588) (A := A28588) hV28588), (IvM_f24 (I := I28588) (A := A28588) hV28588), (IvM_a11 (I := I28588) (A := A28588) hV28588), (IvM_a26 (I := I28588) (A := A28588) hV28588), (IvM_s8_0 (I := I28588) (A := A28588) hV28588), (IvM_s8_1 (I := I28588) (A := A28588) hV28588), (IvM_s10_0 (I := I28588) (A := A28588) hV28588), (IvM_s10_1 (I := I28588) (A := A28588) hV28588), (IvM_s17_0 (I := I28588) (A := A28588) hV28588), (IvM_s17_164 (I := I28588) (A := A28588) hV28588), (IvM_lv (I := I28588) (A := A28588) hV28588), (IvM_sd (I := I28588) (A := A28588) hV28588), (IvM_nq (I := I28588) (A := A28588) hV28588), (IvM_hr (I := I28588) (A := A28588) hV28588), (IvM_hh (I := I28588) (A := A28588) hV28588), trivial⟩ (by first | (rw [show ((up3 A28588 18 (y28593.toNatClampNeg) z2) 18 0) = (A28588 18 0) from hS28594] <;> omega) | omega) (by first | (rw [show ((up3 A28588 18 (y28593.toNatClampNeg) z2) 18 0) = (A28588 18 0) from hS28594] <;> omega) | omega) (by first | (rw [show ((up3 A28588 18 (y28593.toNatClampNeg) z2) 18 164) = (A28588 18 164) from hS28595] <;> omega) | omega)) (SP.same _) (fun _ h => h) (gi_V (List.mem_cons_of_mem _ (List.mem_append_left _ (List.mem_of_getElem? (i := 8) rfl))) (List.mem_cons_of_mem _ (List.mem_append_left _ (List.mem_of_getElem? (i := 9) rfl))) (List.mem_cons_of_mem _ (List.mem_append_left _ (List.mem_of_getElem? (i := 10) rfl))) (List.mem_cons_of_mem _ (List.mem_append_left _ (List.mem_of_getElem? (i := 2) rfl))) (gi_sub (fun w h => (List.mem_cons_of_mem _ (List.mem_append_right _ (List.mem_append_right _ (List.mem_append_right _ (List.mem_append_right _ (List.mem_append_left _ h))))))) zg_j152_X12_records)) rfl rfl rfl (by decide +kernel) ⟨Nat.le_of_ble_eq_true rfl, Nat.le_of_ble_eq_true rfl⟩ 0 rfl rfl rfl rfl (Nat.le_of_ble_eq_true rfl) ⟨Nat.le_of_ble_eq_true rfl, Nat.le_of_ble_eq_true rfl⟩ dX12_set_95 (fun v ty' w' hp hk' => ?_)
              obtain ⟨I28597, A28597, L28597, hI28597, hA28597, hV28597, hL28597, hC, rfl, rfl⟩ := hp
              replace hF := FE.bdM hF hC
              show GW κ 5 0 0 (wM r g I28597 A28597 L28597) 98 [(4, .int 1), (3, .int 0), (0, .ref (r 0)), (1, .int z1), (2, .int z2)] []
              refine g_iconst (v := 1) hk dX12_set_98 (by decide) ?_
              exact g_iret hk hR rfl ⟨I28597, A28597, L28597, (show Md [22] I I28597 from (Md.tr (Md.tr Md.rf hI28588 rfl) hI28597 rfl)), (show Md [17, 18, 22] A A28597 from (Md.tr (Md.up3 (Md.tr Md.rf hA28588 rfl) rfl) hA28597 rfl)), hV28597, 1, (show L28597 = L from (hL28597.trans hL28588)), (by decide), (by decide), hF, rfl, rfl⟩ dX12_set_99
          · skip
            replace hF := FE.neg hF c28580
            refine g_iconst (v := 3) hk dX12_set_50 (by decide) ?_
            refine g_goto (tgt := 65) hk dX12_set_51 (by decide) ?_
            refine g_istore (lv' := [(4, .int 3), (3, .int 0), (0, .ref (r 0)), (1, .int z1), (2, .int z2)]) hk dX12_set_65 (by decide) rfl ?_
            refine g_iload_n hk dX12_set_67 rfl ?_
            refine g_iload_n hk dX12_set_68 rfl ?_
            refine g_iload hk dX12_set_69 rfl ?_
            refine g_callS (n := 3) hk (j145_X12_in l D zt r g I A L z2 0 3 hIv) (SP.same _) (fun _ h => h) (gi_S (List.mem_cons_of_mem _ (List.mem_append_left _ (List.mem_of_getElem? (i := 0) rfl))) (List.mem_cons_of_mem _ (List.mem_append_left _ (List.mem_of_getElem? (i := 1) rfl))) (List.mem_cons_of_mem _ (List.mem_append_left _ (List.mem_of_getElem? (i := 2) rfl))) (gi_sub (fun w h => (List.mem_cons_of_mem _ (List.mem_append_right _ (List.mem_append_right _ (List.mem_append_left _ h))))) zg_j145_X12_in)) rfl rfl rfl (by decide +kernel) ⟨Nat.le_of_ble_eq_true rfl, Nat.le_of_ble_eq_true rfl⟩ rfl rfl (Nat.le_of_ble_eq_true rfl) ⟨Nat.le_of_ble_eq_true rfl, Nat.le_of_ble_eq_true rfl⟩ dX12_set_71 (fun v ty' w' hp hk' => ?_)
            rcases hp with ⟨c28598, hC, rfl, rfl⟩ | ⟨c28600, c28601, hC, rfl, rfl⟩
            · skip
              replace hF := FE.pos hF hC
              show GW κ 5 0 0 (wM r g I A L) 74 [(4, .int 3), (3, .int 0), (0, .ref (r 0)), (1, .int z1), (2, .int z2)] [.int 0]
              refine g_if_ne (tgt := 79) (a := 0) hk dX12_set_74 (by decide) rfl (fun z9 => absurd z9 (show ¬ ((0 : Int) ≠ (0 : Int)) from by decide)) (fun _ => ?_)
              refine g_iconst (v := 0) hk dX12_set_77 (by decide) ?_
              exact g_iret hk hR rfl ⟨I, A, L, (show Md [22] I I from Md.rf), (show Md [17, 18, 22] A A from Md.rf), hIv, 0, (show L = L from rfl), (by decide), (by decide), hF, rfl, rfl⟩ dX12_set_78
            · skip
              replace hF := FE.neg hF (fe_ne hC (by decide))
              show GW κ 5 0 0 (wM r g I A L) 74 [(4, .int 3), (3, .int 0), (0, .ref (r 0)), (1, .int z1), (2, .int z2)] [.int 1]
              refine g_if_ne (tgt := 79) (a := 1) hk dX12_set_74 (by decide) rfl (fun _ => ?_) (fun z9 => absurd (show (1 : Int) ≠ (0 : Int) from by decide) z9)
              refine g_aload_n hk dX12_set_79 rfl ?_
              refine g_callV (n := 0) hk (j151_X12_copies l D zt r g I A L  hIv) (SP.same _) (fun _ h => h) (gi_V (List.mem_cons_of_mem _ (List.mem_append_left _ (List.mem_of_getElem? (i := 4) rfl))) (List.mem_cons_of_mem _ (List.mem_append_left _ (List.mem_of_getElem? (i := 5) rfl))) (List.mem_cons_of_mem _ (List.mem_append_left _ (List.mem_of_getElem? (i := 6) rfl))) (List.mem_cons_of_mem _ (List.mem_append_left _ (List.mem_of_getElem? (i := 2) rfl))) (gi_sub (fun w h => (List.mem_cons_of_mem _ (List.mem_append_right _ (List.mem_append_right _ (List.mem_append_right _ (List.mem_append_left _ h)))))) zg_j151_X12_copies)) rfl rfl rfl (by decide +kernel) ⟨Nat.le_of_ble_eq_true rfl, Nat.le_of_ble_eq_true rfl⟩ 0 rfl rfl rfl rfl (Nat.le_of_ble_eq_true rfl) ⟨Nat.le_of_ble_eq_true rfl, Nat.le_of_ble_eq_true rfl⟩ dX12_set_80 (fun v ty' w' hp hk' => ?_)
              obtain ⟨I28604, A28604, L28604, hI28604, hA28604, hV28604, r28605, r28606, hL28604, hC, rfl, rfl⟩ := hp
              replace hF := FE.bdM hF hC
              have f28607 := IvM_s17_0 hIv
              have f28608 := IvM_s17_164 hIv
              show GW κ 5 0 0 (wM r g I28604 A28604 L28604) 83 [(4, .int 3), (3, .int 0), (0, .ref (r 0)), (1, .int z1), (2, .int z2)] []
              refine g_aload_n hk dX12_set_83 rfl ?_
              refine gM_r0_36 hk hin12 (List.mem_cons_of_mem _ (List.mem_append_left _ (List.mem_of_getElem? (i := 7) rfl))) dX12_set_84 ?_
              refine g_sipush (v := 161) hk dX12_set_87 (by decide) ?_
              refine g_iload_n hk dX12_set_90 rfl ?_
              refine g_iadd hk dX12_set_91 ?_
              refine g_topi (fun y28609 ey28609 => ?_)
              replace hF := FE.lt hF ey28609
              have hy28609 : y28609.toInt = 161 + z1.toInt := i32_add ey28609 rfl rfl (by omega) (by omega)
              refine g_iload_n hk dX12_set_92 rfl ?_
              refine sM_18 (j := y28609.toNatClampNeg) hk (vp_in_iff.mpr ⟨by omega, by omega⟩) rfl dX12_set_93 ?_
              have hS28610 : (up3 A28604 18 (y28609.toNatClampNeg) z2) 18 0 = (A28604 18 0) := (up3_ne (by have := cl_int (y := y28609) (by omega); omega)).trans (show A28604 18 0 = (A28604 18 0) from rfl)
              have hS28611 : (up3 A28604 18 (y28609.toNatClampNeg) z2) 18 164 = (A28604 18 164) := (up3_ne (by have := cl_int (y := y28609) (by omega); omega)).trans (show A28604 18 164 = (A28604 18 164) from rfl)
              refine g_aload_n hk dX12_set_94 rfl ?_
              refine g_callV (n := 0) hk (j152_X12_records l D zt r g I28604 (up3 A28604 18 (y28609.toNatClampNeg) z2) L28604  ⟨(IvM_f1 (I := I28604) (A := A28604) hV28604), (IvM_f2 (I := I28604) (A := A28604) hV28604), (IvM_f3 (I := I28604) (A := A28604) hV28604), (IvM_f4 (I := I28604) (A := A28604) hV28604), (IvM_f6 (I := I28604) (A := A28604) hV28604), (IvM_f8 (I := I28604) (A := A28604) hV28604), (IvM_f15 (I := I28604) (A := A28604) hV28604), (IvM_f16 (I := I28604) (A := A28604) hV28604), (IvM_f17 (I := I28604) (A := A28604) hV28604), (IvM_f18 (I := I28604) (A := A28604) hV28604), (IvM_f22 (I := I28604) (A := A28604) hV28604), (IvM_f23 (I := I28604) (A := A28604) hV28604), (IvM_f24 (I := I28604) (A := A28604) hV28604), (IvM_a11 (I := I28604) (A := A28604) hV28604), (IvM_a26 (I := I28604) (A := A28604) hV28604), (IvM_s8_0 (I := I28604) (A := A28604) hV28604), (IvM_s8_1 (I := I28604) (A := A28604) hV28604), (IvM_s10_0 (I := I28604) (A := A28604) hV28604), (IvM_s10_1 (I := I28604) (A := A28604) hV28604), (IvM_s17_0 (I := I28604) (A := A28604) hV28604), (IvM_s17_164 (I := I28604) (A := A28604) hV28604), (IvM_lv (I := I28604) (A := A28604) hV28604), (IvM_sd (I := I28604) (A := A28604) hV28604), (IvM_nq (I := I28604) (A := A28604) hV28604), (IvM_hr (I := I28604) (A := A28604) hV28604), (IvM_hh (I := I28604) (A := A28604) hV28604), trivial⟩ (by first | (rw [show ((up3 A28604 18 (y28609.toNatClampNeg) z2) 18 0) = (A28604 18 0) from hS28610] <;> omega) | omega) (by first | (rw [show ((up3 A28604 18 (y28609.toNatClampNeg) z2) 18 0) = (A28604 18 0) from hS28610] <;> omega) | omega) (by first | (rw [show ((up3 A28604 18 (y28609.toNatClampNeg) z2) 18 164) = (A28604 18 164) from hS28611] <;> omega) | omega)) (SP.same _) (fun _ h => h) (gi_V (List.mem_cons_of_mem _ (List.mem_append_left _ (List.mem_of_getElem? (i := 8) rfl))) (List.mem_cons_of_mem _ (List.mem_append_left _ (List.mem_of_getElem? (i := 9) rfl))) (List.mem_cons_of_mem _ (List.mem_append_left _ (List.mem_of_getElem? (i := 10) rfl))) (List.mem_cons_of_mem _ (List.mem_append_left _ (List.mem_of_getElem? (i := 2) rfl))) (gi_sub (fun w h => (List.mem_cons_of_mem _ (List.mem_append_right _ (List.mem_append_right _ (List.mem_append_right _ (List.mem_append_right _ (List.mem_append_left _ h))))))) zg_j152_X12_records)) rfl rfl rfl (by decide +kernel) ⟨Nat.le_of_ble_eq_true rfl, Nat.le_of_ble_eq_true rfl⟩ 0 rfl rfl rfl rfl (Nat.le_of_ble_eq_true rfl) ⟨Nat.le_of_ble_eq_true rfl, Nat.le_of_ble_eq_true rfl⟩ dX12_set_95 (fun v ty' w' hp hk' => ?_)
              obtain ⟨I28613, A28613, L28613, hI28613, hA28613, hV28613, hL28613, hC, rfl, rfl⟩ := hp
              replace hF := FE.bdM hF hC
              show GW κ 5 0 0 (wM r g I28613 A28613 L28613) 98 [(4, .int 3), (3, .int 0), (0, .ref (r 0)), (1, .int z1), (2, .int z2)] []
              refine g_iconst (v := 1) hk dX12_set_98 (by decide) ?_
              exact g_iret hk hR rfl ⟨I28613, A28613, L28613, (show Md [22] I I28613 from (Md.tr (Md.tr Md.rf hI28604 rfl) hI28613 rfl)), (show Md [17, 18, 22] A A28613 from (Md.tr (Md.up3 (Md.tr Md.rf hA28604 rfl) rfl) hA28613 rfl)), hV28613, 1, (show L28613 = L from (hL28613.trans hL28604)), (by decide), (by decide), hF, rfl, rfl⟩ dX12_set_99
        · skip
          replace hF := FE.neg hF c28579
          refine g_bipush (v := 15) hk dX12_set_40 (by decide) ?_
          refine g_goto (tgt := 65) hk dX12_set_42 (by decide) ?_
          refine g_istore (lv' := [(4, .int 15), (3, .int 0), (0, .ref (r 0)), (1, .int z1), (2, .int z2)]) hk dX12_set_65 (by decide) rfl ?_
          refine g_iload_n hk dX12_set_67 rfl ?_
          refine g_iload_n hk dX12_set_68 rfl ?_
          refine g_iload hk dX12_set_69 rfl ?_
          have k28614 : (15 : Int32).toInt = 15 := rfl
          refine g_callS (n := 3) hk (j145_X12_in l D zt r g I A L z2 0 15 hIv) (SP.same _) (fun _ h => h) (gi_S (List.mem_cons_of_mem _ (List.mem_append_left _ (List.mem_of_getElem? (i := 0) rfl))) (List.mem_cons_of_mem _ (List.mem_append_left _ (List.mem_of_getElem? (i := 1) rfl))) (List.mem_cons_of_mem _ (List.mem_append_left _ (List.mem_of_getElem? (i := 2) rfl))) (gi_sub (fun w h => (List.mem_cons_of_mem _ (List.mem_append_right _ (List.mem_append_right _ (List.mem_append_left _ h))))) zg_j145_X12_in)) rfl rfl rfl (by decide +kernel) ⟨Nat.le_of_ble_eq_true rfl, Nat.le_of_ble_eq_true rfl⟩ rfl rfl (Nat.le_of_ble_eq_true rfl) ⟨Nat.le_of_ble_eq_true rfl, Nat.le_of_ble_eq_true rfl⟩ dX12_set_71 (fun v ty' w' hp hk' => ?_)
          rcases hp with ⟨c28615, hC, rfl, rfl⟩ | ⟨c28617, c28618, hC, rfl, rfl⟩
          · skip
            replace hF := FE.pos hF hC
            show GW κ 5 0 0 (wM r g I A L) 74 [(4, .int 15), (3, .int 0), (0, .ref (r 0)), (1, .int z1), (2, .int z2)] [.int 0]
            refine g_if_ne (tgt := 79) (a := 0) hk dX12_set_74 (by decide) rfl (fun z9 => absurd z9 (show ¬ ((0 : Int) ≠ (0 : Int)) from by decide)) (fun _ => ?_)
            refine g_iconst (v := 0) hk dX12_set_77 (by decide) ?_
            exact g_iret hk hR rfl ⟨I, A, L, (show Md [22] I I from Md.rf), (show Md [17, 18, 22] A A from Md.rf), hIv, 0, (show L = L from rfl), (by decide), (by decide), hF, rfl, rfl⟩ dX12_set_78
          · skip
            replace hF := FE.neg hF (fe_ne hC (by decide))
            show GW κ 5 0 0 (wM r g I A L) 74 [(4, .int 15), (3, .int 0), (0, .ref (r 0)), (1, .int z1), (2, .int z2)] [.int 1]
            refine g_if_ne (tgt := 79) (a := 1) hk dX12_set_74 (by decide) rfl (fun _ => ?_) (fun z9 => absurd (show (1 : Int) ≠ (0 : Int) from by decide) z9)
            refine g_aload_n hk dX12_set_79 rfl ?_
            refine g_callV (n := 0) hk (j151_X12_copies l D zt r g I A L  hIv) (SP.same _) (fun _ h => h) (gi_V (List.mem_cons_of_mem _ (List.mem_append_left _ (List.mem_of_getElem? (i := 4) rfl))) (List.mem_cons_of_mem _ (List.mem_append_left _ (List.mem_of_getElem? (i := 5) rfl))) (List.mem_cons_of_mem _ (List.mem_append_left _ (List.mem_of_getElem? (i := 6) rfl))) (List.mem_cons_of_mem _ (List.mem_append_left _ (List.mem_of_getElem? (i := 2) rfl))) (gi_sub (fun w h => (List.mem_cons_of_mem _ (List.mem_append_right _ (List.mem_append_right _ (List.mem_append_right _ (List.mem_append_left _ h)))))) zg_j151_X12_copies)) rfl rfl rfl (by decide +kernel) ⟨Nat.le_of_ble_eq_true rfl, Nat.le_of_ble_eq_true rfl⟩ 0 rfl rfl rfl rfl (Nat.le_of_ble_eq_true rfl) ⟨Nat.le_of_ble_eq_true rfl, Nat.le_of_ble_eq_true rfl⟩ dX12_set_80 (fun v ty' w' hp hk' => ?_)
            obtain ⟨I28621, A28621, L28621, hI28621, hA28621, hV28621, r28622, r28623, hL28621, hC, rfl, rfl⟩ := hp
            replace hF := FE.bdM hF hC
            have f28624 := IvM_s17_0 hIv
            have f28625 := IvM_s17_164 hIv
            show GW κ 5 0 0 (wM r g I28621 A28621 L28621) 83 [(4, .int 15), (3, .int 0), (0, .ref (r 0)), (1, .int z1), (2, .int z2)] []
            refine g_aload_n hk dX12_set_83 rfl ?_
            refine gM_r0_36 hk hin12 (List.mem_cons_of_mem _ (List.mem_append_left _ (List.mem_of_getElem? (i := 7) rfl))) dX12_set_84 ?_
            refine g_sipush (v := 161) hk dX12_set_87 (by decide) ?_
            refine g_iload_n hk dX12_set_90 rfl ?_
            refine g_iadd hk dX12_set_91 ?_
            refine g_topi (fun y28626 ey28626 => ?_)
            replace hF := FE.lt hF ey28626
            have hy28626 : y28626.toInt = 161 + z1.toInt := i32_add ey28626 rfl rfl (by omega) (by omega)
            refine g_iload_n hk dX12_set_92 rfl ?_
            refine sM_18 (j := y28626.toNatClampNeg) hk (vp_in_iff.mpr ⟨by omega, by omega⟩) rfl dX12_set_93 ?_
            have hS28627 : (up3 A28621 18 (y28626.toNatClampNeg) z2) 18 0 = (A28621 18 0) := (up3_ne (by have := cl_int (y := y28626) (by omega); omega)).trans (show A28621 18 0 = (A28621 18 0) from rfl)
            have hS28628 : (up3 A28621 18 (y28626.toNatClampNeg) z2) 18 164 = (A28621 18 164) := (up3_ne (by have := cl_int (y := y28626) (by omega); omega)).trans (show A28621 18 164 = (A28621 18 164) from rfl)
            refine g_aload_n hk dX12_set_94 rfl ?_
            refine g_callV (n := 0) hk (j152_X12_records l D zt r g I28621 (up3 A28621 18 (y28626.toNatClampNeg) z2) L28621  ⟨(IvM_f1 (I := I28621) (A := A28621) hV28621), (IvM_f2 (I := I28621) (A := A28621) hV28621), (IvM_f3 (I := I28621) (A := A28621) hV28621), (IvM_f4 (I := I28621) (A := A28621) hV28621), (IvM_f6 (I := I28621) (A := A28621) hV28621), (IvM_f8 (I := I28621) (A := A28621) hV28621), (IvM_f15 (I := I28621) (A := A28621) hV28621), (IvM_f16 (I := I28621) (A := A28621) hV28621), (IvM_f17 (I := I28621) (A := A28621) hV28621), (IvM_f18 (I := I28621) (A := A28621) hV28621), (IvM_f22 (I := I28621) (A := A28621) hV28621), (IvM_f23 (I := I28621) (A := A28621) hV28621), (IvM_f24 (I := I28621) (A := A28621) hV28621), (IvM_a11 (I := I28621) (A := A28621) hV28621), (IvM_a26 (I := I28621) (A := A28621) hV28621), (IvM_s8_0 (I := I28621) (A := A28621) hV28621), (IvM_s8_1 (I := I28621) (A := A28621) hV28621), (IvM_s10_0 (I := I28621) (A := A28621) hV28621), (IvM_s10_1 (I := I28621) (A := A28621) hV28621), (IvM_s17_0 (I := I28621) (A := A28621) hV28621), (IvM_s17_164 (I := I28621) (A := A28621) hV28621), (IvM_lv (I := I28621) (A := A28621) hV28621), (IvM_sd (I := I28621) (A := A28621) hV28621), (IvM_nq (I := I28621) (A := A28621) hV28621), (IvM_hr (I := I28621) (A := A28621) hV28621), (IvM_hh (I := I28621) (A := A28621) hV28621), trivial⟩ (by first | (rw [show ((up3 A28621 18 (y28626.toNatClampNeg) z2) 18 0) = (A28621 18 0) from hS28627] <;> omega) | omega) (by first | (rw [show ((up3 A28621 18 (y28626.toNatClampNeg) z2) 18 0) = (A28621 18 0) from hS28627] <;> omega) | omega) (by first | (rw [show ((up3 A28621 18 (y28626.toNatClampNeg) z2) 18 164) = (A28621 18 164) from hS28628] <;> omega) | omega)) (SP.same _) (fun _ h => h) (gi_V (List.mem_cons_of_mem _ (List.mem_append_left _ (List.mem_of_getElem? (i := 8) rfl))) (List.mem_cons_of_mem _ (List.mem_append_left _ (List.mem_of_getElem? (i := 9) rfl))) (List.mem_cons_of_mem _ (List.mem_append_left _ (List.mem_of_getElem? (i := 10) rfl))) (List.mem_cons_of_mem _ (List.mem_append_left _ (List.mem_of_getElem? (i := 2) rfl))) (gi_sub (fun w h => (List.mem_cons_of_mem _ (List.mem_append_right _ (List.mem_append_right _ (List.mem_append_right _ (List.mem_append_right _ (List.mem_append_left _ h))))))) zg_j152_X12_records)) rfl rfl rfl (by decide +kernel) ⟨Nat.le_of_ble_eq_true rfl, Nat.le_of_ble_eq_true rfl⟩ 0 rfl rfl rfl rfl (Nat.le_of_ble_eq_true rfl) ⟨Nat.le_of_ble_eq_true rfl, Nat.le_of_ble_eq_true rfl⟩ dX12_set_95 (fun v ty' w' hp hk' => ?_)
            obtain ⟨I28630, A28630, L28630, hI28630, hA28630, hV28630, hL28630, hC, rfl, rfl⟩ := hp
            replace hF := FE.bdM hF hC
            show GW κ 5 0 0 (wM r g I28630 A28630 L28630) 98 [(4, .int 15), (3, .int 0), (0, .ref (r 0)), (1, .int z1), (2, .int z2)] []
            refine g_iconst (v := 1) hk dX12_set_98 (by decide) ?_
            exact g_iret hk hR rfl ⟨I28630, A28630, L28630, (show Md [22] I I28630 from (Md.tr (Md.tr Md.rf hI28621 rfl) hI28630 rfl)), (show Md [17, 18, 22] A A28630 from (Md.tr (Md.up3 (Md.tr Md.rf hA28621 rfl) rfl) hA28630 rfl)), hV28630, 1, (show L28630 = L from (hL28630.trans hL28621)), (by decide), (by decide), hF, rfl, rfl⟩ dX12_set_99
      · skip
        replace hF := FE.neg hF c28578
        refine g_iconst (v := 1) hk dX12_set_30 (by decide) ?_
        refine g_goto (tgt := 35) hk dX12_set_31 (by decide) ?_
        refine g_istore_n (lv' := [(3, .int 1), (0, .ref (r 0)), (1, .int z1), (2, .int z2)]) hk dX12_set_35 (by decide) rfl ?_
        refine g_iload_n hk dX12_set_36 rfl ?_
        refine g_if_ne (tgt := 45) (a := z1.toInt) hk dX12_set_37 (by decide) rfl (fun _ => ?_) (fun z9 => absurd (show z1.toInt ≠ 0 from by omega) z9)
        refine g_iload_n hk dX12_set_45 rfl ?_
        refine g_iconst (v := 1) hk dX12_set_46 (by decide) ?_
        refine g_icmp_ne (tgt := 54) (a := z1.toInt) (b := 1) hk dX12_set_47 (by decide) rfl rfl (fun _ => ?_) (fun z9 => absurd (show z1.toInt ≠ 1 from by omega) z9)
        refine g_iload_n hk dX12_set_54 rfl ?_
        refine g_iconst (v := 2) hk dX12_set_55 (by decide) ?_
        refine g_icmp_ne (tgt := 63) (a := z1.toInt) (b := 2) hk dX12_set_56 (by decide) rfl rfl (fun _ => ?_) (fun z9 => absurd (show z1.toInt ≠ 2 from by omega) z9)
        refine g_bipush (v := 99) hk dX12_set_63 (by decide) ?_
        refine g_istore (lv' := [(4, .int 99), (3, .int 1), (0, .ref (r 0)), (1, .int z1), (2, .int z2)]) hk dX12_set_65 (by decide) rfl ?_
        refine g_iload_n hk dX12_set_67 rfl ?_
        refine g_iload_n hk dX12_set_68 rfl ?_
        refine g_iload hk dX12_set_69 rfl ?_
        have k28631 : (1 : Int32).toInt = 1 := rfl
        have k28632 : (99 : Int32).toInt = 99 := rfl
        refine g_callS (n := 3) hk (j145_X12_in l D zt r g I A L z2 1 99 hIv) (SP.same _) (fun _ h => h) (gi_S (List.mem_cons_of_mem _ (List.mem_append_left _ (List.mem_of_getElem? (i := 0) rfl))) (List.mem_cons_of_mem _ (List.mem_append_left _ (List.mem_of_getElem? (i := 1) rfl))) (List.mem_cons_of_mem _ (List.mem_append_left _ (List.mem_of_getElem? (i := 2) rfl))) (gi_sub (fun w h => (List.mem_cons_of_mem _ (List.mem_append_right _ (List.mem_append_right _ (List.mem_append_left _ h))))) zg_j145_X12_in)) rfl rfl rfl (by decide +kernel) ⟨Nat.le_of_ble_eq_true rfl, Nat.le_of_ble_eq_true rfl⟩ rfl rfl (Nat.le_of_ble_eq_true rfl) ⟨Nat.le_of_ble_eq_true rfl, Nat.le_of_ble_eq_true rfl⟩ dX12_set_71 (fun v ty' w' hp hk' => ?_)
        rcases hp with ⟨c28633, hC, rfl, rfl⟩ | ⟨c28635, c28636, hC, rfl, rfl⟩
        · skip
          replace hF := FE.pos hF hC
          show GW κ 5 0 0 (wM r g I A L) 74 [(4, .int 99), (3, .int 1), (0, .ref (r 0)), (1, .int z1), (2, .int z2)] [.int 0]
          refine g_if_ne (tgt := 79) (a := 0) hk dX12_set_74 (by decide) rfl (fun z9 => absurd z9 (show ¬ ((0 : Int) ≠ (0 : Int)) from by decide)) (fun _ => ?_)
          refine g_iconst (v := 0) hk dX12_set_77 (by decide) ?_
          exact g_iret hk hR rfl ⟨I, A, L, (show Md [22] I I from Md.rf), (show Md [17, 18, 22] A A from Md.rf), hIv, 0, (show L = L from rfl), (by decide), (by decide), hF, rfl, rfl⟩ dX12_set_78
        · skip
          replace hF := FE.neg hF (fe_ne hC (by decide))
          show GW κ 5 0 0 (wM r g I A L) 74 [(4, .int 99), (3, .int 1), (0, .ref (r 0)), (1, .int z1), (2, .int z2)] [.int 1]
          refine g_if_ne (tgt := 79) (a := 1) hk dX12_set_74 (by decide) rfl (fun _ => ?_) (fun z9 => absurd (show (1 : Int) ≠ (0 : Int) from by decide) z9)
          refine g_aload_n hk dX12_set_79 rfl ?_
          refine g_callV (n := 0) hk (j151_X12_copies l D zt r g I A L  hIv) (SP.same _) (fun _ h => h) (gi_V (List.mem_cons_of_mem _ (List.mem_append_left _ (List.mem_of_getElem? (i := 4) rfl))) (List.mem_cons_of_mem _ (List.mem_append_left _ (List.mem_of_getElem? (i := 5) rfl))) (List.mem_cons_of_mem _ (List.mem_append_left _ (List.mem_of_getElem? (i := 6) rfl))) (List.mem_cons_of_mem _ (List.mem_append_left _ (List.mem_of_getElem? (i := 2) rfl))) (gi_sub (fun w h => (List.mem_cons_of_mem _ (List.mem_append_right _ (List.mem_append_right _ (List.mem_append_right _ (List.mem_append_left _ h)))))) zg_j151_X12_copies)) rfl rfl rfl (by decide +kernel) ⟨Nat.le_of_ble_eq_true rfl, Nat.le_of_ble_eq_true rfl⟩ 0 rfl rfl rfl rfl (Nat.le_of_ble_eq_true rfl) ⟨Nat.le_of_ble_eq_true rfl, Nat.le_of_ble_eq_true rfl⟩ dX12_set_80 (fun v ty' w' hp hk' => ?_)
          obtain ⟨I28639, A28639, L28639, hI28639, hA28639, hV28639, r28640, r28641, hL28639, hC, rfl, rfl⟩ := hp
          replace hF := FE.bdM hF hC
          have f28642 := IvM_s17_0 hIv
          have f28643 := IvM_s17_164 hIv
          show GW κ 5 0 0 (wM r g I28639 A28639 L28639) 83 [(4, .int 99), (3, .int 1), (0, .ref (r 0)), (1, .int z1), (2, .int z2)] []
          refine g_aload_n hk dX12_set_83 rfl ?_
          refine gM_r0_36 hk hin12 (List.mem_cons_of_mem _ (List.mem_append_left _ (List.mem_of_getElem? (i := 7) rfl))) dX12_set_84 ?_
          refine g_sipush (v := 161) hk dX12_set_87 (by decide) ?_
          refine g_iload_n hk dX12_set_90 rfl ?_
          refine g_iadd hk dX12_set_91 ?_
          refine g_topi (fun y28644 ey28644 => ?_)
          replace hF := FE.lt hF ey28644
          have hy28644 : y28644.toInt = 161 + z1.toInt := i32_add ey28644 rfl rfl (by omega) (by omega)
          refine g_iload_n hk dX12_set_92 rfl ?_
          refine sM_18 (j := y28644.toNatClampNeg) hk (vp_in_iff.mpr ⟨by omega, by omega⟩) rfl dX12_set_93 ?_
          have hS28645 : (up3 A28639 18 (y28644.toNatClampNeg) z2) 18 0 = (A28639 18 0) := (up3_ne (by have := cl_int (y := y28644) (by omega); omega)).trans (show A28639 18 0 = (A28639 18 0) from rfl)
          have hS28646 : (up3 A28639 18 (y28644.toNatClampNeg) z2) 18 164 = z2 := up3_at (by have := cl_int (y := y28644) (by omega); omega)
          refine g_aload_n hk dX12_set_94 rfl ?_
          refine g_callV (n := 0) hk (j152_X12_records l D zt r g I28639 (up3 A28639 18 (y28644.toNatClampNeg) z2) L28639  ⟨(IvM_f1 (I := I28639) (A := A28639) hV28639), (IvM_f2 (I := I28639) (A := A28639) hV28639), (IvM_f3 (I := I28639) (A := A28639) hV28639), (IvM_f4 (I := I28639) (A := A28639) hV28639), (IvM_f6 (I := I28639) (A := A28639) hV28639), (IvM_f8 (I := I28639) (A := A28639) hV28639), (IvM_f15 (I := I28639) (A := A28639) hV28639), (IvM_f16 (I := I28639) (A := A28639) hV28639), (IvM_f17 (I := I28639) (A := A28639) hV28639), (IvM_f18 (I := I28639) (A := A28639) hV28639), (IvM_f22 (I := I28639) (A := A28639) hV28639), (IvM_f23 (I := I28639) (A := A28639) hV28639), (IvM_f24 (I := I28639) (A := A28639) hV28639), (IvM_a11 (I := I28639) (A := A28639) hV28639), (IvM_a26 (I := I28639) (A := A28639) hV28639), (IvM_s8_0 (I := I28639) (A := A28639) hV28639), (IvM_s8_1 (I := I28639) (A := A28639) hV28639), (IvM_s10_0 (I := I28639) (A := A28639) hV28639), (IvM_s10_1 (I := I28639) (A := A28639) hV28639), (IvM_s17_0 (I := I28639) (A := A28639) hV28639), (IvM_s17_164 (I := I28639) (A := A28639) hV28639), (IvM_lv (I := I28639) (A := A28639) hV28639), (IvM_sd (I := I28639) (A := A28639) hV28639), (IvM_nq (I := I28639) (A := A28639) hV28639), (IvM_hr (I := I28639) (A := A28639) hV28639), (IvM_hh (I := I28639) (A := A28639) hV28639), trivial⟩ (by first | (rw [show ((up3 A28639 18 (y28644.toNatClampNeg) z2) 18 0) = (A28639 18 0) from hS28645] <;> omega) | omega) (by first | (rw [show ((up3 A28639 18 (y28644.toNatClampNeg) z2) 18 0) = (A28639 18 0) from hS28645] <;> omega) | omega) (by first | (rw [show ((up3 A28639 18 (y28644.toNatClampNeg) z2) 18 164) = z2 from hS28646] <;> omega) | omega)) (SP.same _) (fun _ h => h) (gi_V (List.mem_cons_of_mem _ (List.mem_append_left _ (List.mem_of_getElem? (i := 8) rfl))) (List.mem_cons_of_mem _ (List.mem_append_left _ (List.mem_of_getElem? (i := 9) rfl))) (List.mem_cons_of_mem _ (List.mem_append_left _ (List.mem_of_getElem? (i := 10) rfl))) (List.mem_cons_of_mem _ (List.mem_append_left _ (List.mem_of_getElem? (i := 2) rfl))) (gi_sub (fun w h => (List.mem_cons_of_mem _ (List.mem_append_right _ (List.mem_append_right _ (List.mem_append_right _ (List.mem_append_right _ (List.mem_append_left _ h))))))) zg_j152_X12_records)) rfl rfl rfl (by decide +kernel) ⟨Nat.le_of_ble_eq_true rfl, Nat.le_of_ble_eq_true rfl⟩ 0 rfl rfl rfl rfl (Nat.le_of_ble_eq_true rfl) ⟨Nat.le_of_ble_eq_true rfl, Nat.le_of_ble_eq_true rfl⟩ dX12_set_95 (fun v ty' w' hp hk' => ?_)
          obtain ⟨I28648, A28648, L28648, hI28648, hA28648, hV28648, hL28648, hC, rfl, rfl⟩ := hp
          replace hF := FE.bdM hF hC
          show GW κ 5 0 0 (wM r g I28648 A28648 L28648) 98 [(4, .int 99), (3, .int 1), (0, .ref (r 0)), (1, .int z1), (2, .int z2)] []
          refine g_iconst (v := 1) hk dX12_set_98 (by decide) ?_
          exact g_iret hk hR rfl ⟨I28648, A28648, L28648, (show Md [22] I I28648 from (Md.tr (Md.tr Md.rf hI28639 rfl) hI28648 rfl)), (show Md [17, 18, 22] A A28648 from (Md.tr (Md.up3 (Md.tr Md.rf hA28639 rfl) rfl) hA28648 rfl)), hV28648, 1, (show L28648 = L from (hL28648.trans hL28639)), (by decide), (by decide), hF, rfl, rfl⟩ dX12_set_99
    · skip
      replace hF := FE.neg hF c28577
      refine g_iconst (v := 0) hk dX12_set_23 (by decide) ?_
      exact g_iret hk hR rfl ⟨I, A, L, (show Md [22] I I from Md.rf), (show Md [17, 18, 22] A A from Md.rf), hIv, 0, (show L = L from rfl), (by decide), (by decide), hF, rfl, rfl⟩ dX12_set_24
noncomputable def fM12_undo (I : Nat → Int32) (A : Nat → Nat → Int32) (L : Nat → Nat → Int64) : Int32 × (Nat → Int32) × (Nat → Nat → Int32) × (Nat → Nat → Int64) := if (I 22).toInt ≠ 0 then f_lt ((I 22) - (1 : Int32)) fun y28651 => (1, (upd I 22 y28651), (up2 A 17 (cpo (fun k => A 22 (165 * y28651.toNatClampNeg + k)) (A 17) 0 165)), L) else (0, I, A, L)
def wo_j158_X12_undo : List Cond := [Cond.fieldLink RX12 209 "WarpDeskModel" "undos" "I", Cond.fieldLink RX12 70 "WarpDeskModel" "now" "[I", Cond.fieldLink RX12 85 "WarpDeskModel" "history" "[I"]
def wz_j158_X12_undo : List Cond := .code yX12_undo cX12_undo 2 (some .boolean) :: (wo_j158_X12_undo ++ (wsX120 ++ ([] : List Cond)))
theorem zg_j158_X12_undo : ∀ w ∈ wz_j158_X12_undo, goodWord w = true := zg_cons rfl (zg_app (by decide +kernel) (zg_app zgU_wsX120 zg_nil))
theorem zi_j158_X12_undo : ∀ w ∈ wz_j158_X12_undo, w ∈ lw_tbl := zi_cons zw_1709 (zi_app (zi_cons zw_1422 (zi_cons zw_1413 (zi_cons zw_1423 zi_nil))) (zi_app inX12 zi_nil))
set_option maxHeartbeats 4000000 in
set_option maxRecDepth 100000 in
theorem j158_X12_undo (l : Launch) (D : va_G) (zt : Nat × Nat × Nat × (Nat → Nat) × (Nat → Nat)) (r : Nat → Nat) (g : Nat → ClassId) (I : Nat → Int32) (A : Nat → Nat → Int32) (L : Nat → Nat → Int64) (hIv : IvM I A) : GM l D zt (tyM g) yX12_undo wz_j158_X12_undo ({ frames := 0, cells := 0, slots := 0, locals := 0 } : Room) [.ref (r 0)] (wM r g I A L) (fun v _ w' => ∃ (I' : Nat → Int32) (A' : Nat → Nat → Int32) (L' : Nat → Nat → Int64), Md [22] I I' ∧ Md [17] A A' ∧ IvM I' A' ∧ ∃ y0 : Int32, (L' = L) ∧ (0 ≤ y0.toInt) ∧ (y0.toInt ≤ 1) ∧ FE (fM12_undo I A L) (y0, I', A', L') ∧ v = some (.int y0) ∧ w' = wM r g I' A' L') 0 0 := by
  refine GM.of (cc := cX12_undo) (maxL := 2) (ret := (some .boolean)) (own := RX12) (lv := [(0, .ref (r 0))]) (by decide) rfl rfl (Nat.le_of_ble_eq_true rfl) rfl (fun κ sz hk hR hN => ?_)
  have hin12 : ∀ w ∈ u_ws RX12 TX12 55, w ∈ wz_j158_X12_undo := fun w h => (List.mem_cons_of_mem _ (List.mem_append_right _ (List.mem_append_left _ h)))
  have hF : FE (fM12_undo I A L) (fM12_undo I A L) := FE.rf
  refine g_aload_n hk dX12_undo_0 rfl ?_
  refine gM_i22 (v := (I 22)) hk hin12 (List.mem_cons_of_mem _ (List.mem_append_left _ (List.mem_of_getElem? (i := 0) rfl))) dX12_undo_1 rfl ?_
  have f28649 := IvM_f22 hIv
  refine g_if_ne (tgt := 9) (a := (I 22).toInt) hk dX12_undo_4 (by decide) rfl (fun c28650 => ?_) (fun c28650 => ?_)
  · skip
    replace hF := FE.pos hF c28650
    refine g_aload_n hk dX12_undo_9 rfl ?_
    refine g_dup hk dX12_undo_10 rfl ?_
    refine gM_i22 (v := (I 22)) hk hin12 (List.mem_cons_of_mem _ (List.mem_append_left _ (List.mem_of_getElem? (i := 0) rfl))) dX12_undo_11 rfl ?_
    refine g_iconst (v := 1) hk dX12_undo_14 (by decide) ?_
    refine g_isub hk dX12_undo_15 ?_
    refine g_topi (fun y28651 ey28651 => ?_)
    replace hF := FE.lt hF ey28651
    have hy28651 : y28651.toInt = (I 22).toInt - 1 := i32_sub ey28651 rfl rfl (by omega) (by omega)
    refine pM_i22 hk hin12 (List.mem_cons_of_mem _ (List.mem_append_left _ (List.mem_of_getElem? (i := 0) rfl))) dX12_undo_16 ?_
    refine g_iconst (v := 0) hk dX12_undo_19 (by decide) ?_
    refine g_istore_n (lv' := [(1, .int 0), (0, .ref (r 0))]) hk dX12_undo_20 (by decide) rfl ?_
    have lp28652 : ∀ (n28654 k28653 : Nat), k28653 + n28654 = 165 → GW κ 2 0 0 (wM r g (upd I 22 y28651) (up2 A 17 (cpo (fun k => A 22 (165 * y28651.toNatClampNeg + k)) (A 17) 0 k28653)) L) 21 [(1, .int (nI k28653)), (0, .ref (r 0))] [] := by
      intro n28654
      induction n28654 with
      | zero =>
        intro k28653 hk28653
        obtain rfl : k28653 = 165 := by omega
        show GW κ 2 0 0 (wM r g (upd I 22 y28651) (up2 A 17 (cpo (fun k => A 22 (165 * y28651.toNatClampNeg + k)) (A 17) 0 165)) L) 21 [(1, .int 165), (0, .ref (r 0))] []
        refine g_iload_n hk dX12_undo_21 rfl ?_
        refine g_sipush (v := 165) hk dX12_undo_22 (by decide) ?_
        refine g_icmp_ge (tgt := 55) (a := 165) (b := 165) hk dX12_undo_25 (by decide) rfl rfl (fun _ => ?_) (fun z9 => absurd (show (165 : Int) ≤ (165 : Int) from by decide) z9)
        refine g_iconst (v := 1) hk dX12_undo_55 (by decide) ?_
        have q28657 := cl_int (y := y28651) (by omega)
        have hw28658 := (IvM_hr (I := I) (A := A) hIv) (y28651.toNatClampNeg) (by omega)
        have g28659 : 0 ≤ (A 22 (165 * y28651.toNatClampNeg + 0)).toInt ∧ (A 22 (165 * y28651.toNatClampNeg + 0)).toInt ≤ 160 := hw28658.1
        have g28660 : 1 ≤ (A 22 (165 * y28651.toNatClampNeg + 164)).toInt := hw28658.2
        have g28661 := Int32.toInt_lt (A 22 (165 * y28651.toNatClampNeg + 164))
        exact g_iret hk hR rfl ⟨(upd I 22 y28651), (up2 A 17 (cpo (fun k => A 22 (165 * y28651.toNatClampNeg + k)) (A 17) 0 165)), L, (show Md [22] I (upd I 22 y28651) from (Md.up Md.rf rfl)), (show Md [17] A (up2 A 17 (cpo (fun k => A 22 (165 * y28651.toNatClampNeg + k)) (A 17) 0 165)) from (Md.up2 Md.rf rfl)), ⟨(IvM_f1 (I := I) (A := A) hIv), (IvM_f2 (I := I) (A := A) hIv), (IvM_f3 (I := I) (A := A) hIv), (IvM_f4 (I := I) (A := A) hIv), (IvM_f6 (I := I) (A := A) hIv), (IvM_f8 (I := I) (A := A) hIv), (IvM_f15 (I := I) (A := A) hIv), (IvM_f16 (I := I) (A := A) hIv), (IvM_f17 (I := I) (A := A) hIv), (IvM_f18 (I := I) (A := A) hIv), (show 0 ≤ y28651.toInt ∧ y28651.toInt ≤ 40 from ⟨by omega, by omega⟩), (IvM_f23 (I := I) (A := A) hIv), (IvM_f24 (I := I) (A := A) hIv), (IvM_a11 (I := I) (A := A) hIv), (IvM_a26 (I := I) (A := A) hIv), (IvM_s8_0 (I := I) (A := A) hIv), (IvM_s8_1 (I := I) (A := A) hIv), (IvM_s10_0 (I := I) (A := A) hIv), (IvM_s10_1 (I := I) (A := A) hIv), (show 0 ≤ ((up2 A 17 (cpo (fun k => A 22 (165 * y28651.toNatClampNeg + k)) (A 17) 0 165)) 17 0).toInt ∧ ((up2 A 17 (cpo (fun k => A 22 (165 * y28651.toNatClampNeg + k)) (A 17) 0 165)) 17 0).toInt ≤ 160 from by rw [show (up2 A 17 (cpo (fun k => A 22 (165 * y28651.toNatClampNeg + k)) (A 17) 0 165)) 17 0 = (A 22 (165 * y28651.toNatClampNeg + 0)) from rfl]; exact ⟨by omega, by omega⟩), (show 1 ≤ ((up2 A 17 (cpo (fun k => A 22 (165 * y28651.toNatClampNeg + k)) (A 17) 0 165)) 17 164).toInt ∧ ((up2 A 17 (cpo (fun k => A 22 (165 * y28651.toNatClampNeg + k)) (A 17) 0 165)) 17 164).toInt ≤ 2147483647 from by rw [show (up2 A 17 (cpo (fun k => A 22 (165 * y28651.toNatClampNeg + k)) (A 17) 0 165)) 17 164 = (A 22 (165 * y28651.toNatClampNeg + 164)) from rfl]; exact ⟨by omega, by omega⟩), (IvM_lv (I := I) (A := A) hIv), (IvM_sd (I := I) (A := A) hIv), (IvM_nq (I := I) (A := A) hIv), (fun j hj => (IvM_hr (I := I) (A := A) hIv) j (by have hj : (j : Int) < y28651.toInt := hj; omega)), (IvM_hh (I := I) (A := A) hIv), trivial⟩, 1, (show L = L from rfl), (by decide), (by decide), hF, rfl, rfl⟩ dX12_undo_56
      | succ n28654 ih28656 =>
        intro k28653 hk28653
        obtain ⟨x28655, ex28655⟩ : ∃ x : Int32, x = nI k28653 := ⟨_, rfl⟩
        have hx28655 : x28655.toInt = (k28653 : Int) := by rw [ex28655]; exact nI_toInt (by omega)
        have cx28655 : x28655.toNatClampNeg = k28653 := cl_nat hx28655
        rw [← ex28655]
        have q28662 := cl_int (y := y28651) (by omega)
        refine g_iload_n hk dX12_undo_21 rfl ?_
        refine g_sipush (v := 165) hk dX12_undo_22 (by decide) ?_
        refine g_icmp_ge (tgt := 55) (a := x28655.toInt) (b := 165) hk dX12_undo_25 (by decide) rfl rfl (fun z9 => absurd z9 (show ¬ (165 ≤ x28655.toInt) from by omega)) (fun _ => ?_)
        refine g_aload_n hk dX12_undo_28 rfl ?_
        refine gM_r0_35 hk hin12 (List.mem_cons_of_mem _ (List.mem_append_left _ (List.mem_of_getElem? (i := 1) rfl))) dX12_undo_29 ?_
        refine g_iload_n hk dX12_undo_32 rfl ?_
        refine g_aload_n hk dX12_undo_33 rfl ?_
        refine gM_r0_45 hk hin12 (List.mem_cons_of_mem _ (List.mem_append_left _ (List.mem_of_getElem? (i := 2) rfl))) dX12_undo_34 ?_
        refine g_sipush (v := 165) hk dX12_undo_37 (by decide) ?_
        refine g_aload_n hk dX12_undo_40 rfl ?_
        refine gM_i22 (v := y28651) hk hin12 (List.mem_cons_of_mem _ (List.mem_append_left _ (List.mem_of_getElem? (i := 0) rfl))) dX12_undo_41 rfl ?_
        refine g_imul hk dX12_undo_44 ?_
        refine g_topi (fun y28663 ey28663 => ?_)
        have hy28663 : y28663.toInt = 165 * y28651.toInt := i32_mul ey28663 rfl rfl (by omega) (by omega)
        refine g_iload_n hk dX12_undo_45 rfl ?_
        refine g_iadd hk dX12_undo_46 ?_
        refine g_topi (fun y28664 ey28664 => ?_)
        have hy28664 : y28664.toInt = y28663.toInt + x28655.toInt := i32_add ey28664 rfl rfl (by omega) (by omega)
        refine lM_22 (v := (A 22 y28664.toNatClampNeg)) hk (vp_in_iff.mpr ⟨by omega, by omega⟩) rfl dX12_undo_47 ?_
        refine sM_17 (j := x28655.toNatClampNeg) hk (vp_in_iff.mpr ⟨by omega, by omega⟩) rfl dX12_undo_48 ?_
        obtain ⟨y28665, ey28665⟩ : ∃ y : Int32, y = x28655 + Int32.ofInt 1 := ⟨_, rfl⟩
        have hy28665 : y28665.toInt = x28655.toInt + 1 := i32_add ey28665 rfl (by decide) (by omega) (by omega)
        refine g_iinc (v := y28665) (lv' := [(1, .int y28665), (0, .ref (r 0))]) hk 0 dX12_undo_49 rfl ey28665.symm (by decide) rfl ?_
        refine g_goto (tgt := 21) hk dX12_undo_52 (by decide) ?_
        have q28666 := cl_int (y := y28664) (by omega)
        have q28667 := cl_int (y := x28655) (by omega)
        have eW : (up3 (up2 A 17 (cpo (fun k => A 22 (165 * y28651.toNatClampNeg + k)) (A 17) 0 k28653)) 17 (x28655.toNatClampNeg) (A 22 y28664.toNatClampNeg)) = (up2 A 17 (cpo (fun k => A 22 (165 * y28651.toNatClampNeg + k)) (A 17) 0 (k28653 + 1))) := cpo_st (by omega) (show (A 22 y28664.toNatClampNeg) = (A 22 (165 * y28651.toNatClampNeg + k28653)) from by rw [show y28664.toNatClampNeg = 165 * y28651.toNatClampNeg + k28653 from by omega])
        have fy : y28665 = nI (k28653 + 1) := nI_of_toInt (by omega) (by omega)
        rw [eW, fy]
        exact g_lv (List.forall_mem_cons.mpr ⟨List.mem_of_getElem? (i := 0) rfl, (List.forall_mem_cons.mpr ⟨List.mem_of_getElem? (i := 1) rfl, (fun _ h => absurd h List.not_mem_nil)⟩)⟩) (ih28656 (k28653 + 1) (by omega))
    have lp28652e := lp28652 165 0 (by omega)
    rw [cpo_0] at lp28652e
    exact lp28652e
  · skip
    replace hF := FE.neg hF c28650
    refine g_iconst (v := 0) hk dX12_undo_7 (by decide) ?_
    exact g_iret hk hR rfl ⟨I, A, L, (show Md [22] I I from Md.rf), (show Md [17] A A from Md.rf), hIv, 0, (show L = L from rfl), (by decide), (by decide), hF, rfl, rfl⟩ dX12_undo_8
noncomputable def bM12_isWindow_25 (z1 : Int32) (z2 : Int32) (I : Nat → Int32) (A : Nat → Nat → Int32) (L : Nat → Nat → Int64) : (Int32 → (Int32)) → Int32 → (Int32) := fun kk28691 x28675 => f_lt (z1 + z2) fun y28693 => if y28693.toInt ≤ x28675.toInt then 1 else f_lt ((1 : Int32) + x28675) fun y28695 => if (A 17 y28695.toNatClampNeg).toInt ≠ 100000 then f_lt (x28675 + Int32.ofInt 1) fun y28698 => kk28691 y28698 else 0
noncomputable def fM12_isWindow (I : Nat → Int32) (A : Nat → Nat → Int32) (L : Nat → Nat → Int64) (z1 : Int32) (z2 : Int32) : Int32 := if z1.toInt < 0 then 0 else if z2.toInt < 1 then 0 else f_lt ((A 17 0) - z2) fun y28673 => if z1.toInt ≤ y28673.toInt then itr_i (0 : Int32) (bM12_isWindow_25 z1 z2 I A L) FU z1 else 0
def wo_j160_X12_isWindow : List Cond := [Cond.fieldLink RX12 70 "WarpDeskModel" "now" "[I", Cond.constant RX12 239 (100000)]
def wz_j160_X12_isWindow : List Cond := .code yX12_isWindow cX12_isWindow 4 (some .boolean) :: (wo_j160_X12_isWindow ++ (wsX120 ++ ([] : List Cond)))
theorem zg_j160_X12_isWindow : ∀ w ∈ wz_j160_X12_isWindow, goodWord w = true := zg_cons rfl (zg_app (by decide +kernel) (zg_app zgU_wsX120 zg_nil))
theorem zi_j160_X12_isWindow : ∀ w ∈ wz_j160_X12_isWindow, w ∈ lw_tbl := zi_cons zw_1717 (zi_app (zi_cons zw_1413 (zi_cons zw_1607 zi_nil)) (zi_app inX12 zi_nil))
set_option maxHeartbeats 4000000 in
set_option maxRecDepth 100000 in
theorem j160_X12_isWindow (l : Launch) (D : va_G) (zt : Nat × Nat × Nat × (Nat → Nat) × (Nat → Nat)) (r : Nat → Nat) (g : Nat → ClassId) (I : Nat → Int32) (A : Nat → Nat → Int32) (L : Nat → Nat → Int64) (z1 : Int32) (z2 : Int32) (hIv : IvM I A) : GM l D zt (tyM g) yX12_isWindow wz_j160_X12_isWindow ({ frames := 0, cells := 0, slots := 0, locals := 0 } : Room) [.ref (r 0), .int z1, .int z2] (wM r g I A L) (fun v _ w' => (FE (fM12_isWindow I A L z1 z2) (0) ∧ v = some (.int 0) ∧ w' = wM r g I A L) ∨ ((¬ (z1.toInt < 0)) ∧ (¬ (z2.toInt < 1)) ∧ (0 ≤ z1.toInt) ∧ (z1.toInt ≤ 159) ∧ (1 ≤ z2.toInt) ∧ (z2.toInt ≤ 160) ∧ (z1.toInt + z2.toInt ≤ 160) ∧ FE (fM12_isWindow I A L z1 z2) (1) ∧ v = some (.int 1) ∧ w' = wM r g I A L)) 0 0 := by
  refine GM.of (cc := cX12_isWindow) (maxL := 4) (ret := (some .boolean)) (own := RX12) (lv := [(0, .ref (r 0)), (1, .int z1), (2, .int z2)]) (by decide) rfl rfl (Nat.le_of_ble_eq_true rfl) rfl (fun κ sz hk hR hN => ?_)
  have hin12 : ∀ w ∈ u_ws RX12 TX12 55, w ∈ wz_j160_X12_isWindow := fun w h => (List.mem_cons_of_mem _ (List.mem_append_right _ (List.mem_append_left _ h)))
  have hF : FE (fM12_isWindow I A L z1 z2) (fM12_isWindow I A L z1 z2) := FE.rf
  refine g_iload_n hk dX12_isWindow_0 rfl ?_
  have b28668l := Int32.le_toInt z1
  have b28668h := Int32.toInt_lt z1
  refine g_if_lt (tgt := 21) (a := z1.toInt) hk dX12_isWindow_1 (by decide) rfl (fun c28669 => ?_) (fun c28669 => ?_)
  · skip
    replace hF := FE.pos hF c28669
    refine g_iconst (v := 0) hk dX12_isWindow_21 (by decide) ?_
    exact g_iret hk hR rfl (Or.inl ⟨hF, rfl, rfl⟩) dX12_isWindow_22
  · skip
    replace hF := FE.neg hF c28669
    refine g_iload_n hk dX12_isWindow_4 rfl ?_
    refine g_iconst (v := 1) hk dX12_isWindow_5 (by decide) ?_
    have b28670l := Int32.le_toInt z2
    have b28670h := Int32.toInt_lt z2
    refine g_icmp_lt (tgt := 21) (a := z2.toInt) (b := 1) hk dX12_isWindow_6 (by decide) rfl rfl (fun c28671 => ?_) (fun c28671 => ?_)
    · skip
      replace hF := FE.pos hF c28671
      refine g_iconst (v := 0) hk dX12_isWindow_21 (by decide) ?_
      exact g_iret hk hR rfl (Or.inl ⟨hF, rfl, rfl⟩) dX12_isWindow_22
    · skip
      replace hF := FE.neg hF c28671
      refine g_iload_n hk dX12_isWindow_9 rfl ?_
      refine g_aload_n hk dX12_isWindow_10 rfl ?_
      refine gM_r0_35 hk hin12 (List.mem_cons_of_mem _ (List.mem_append_left _ (List.mem_of_getElem? (i := 0) rfl))) dX12_isWindow_11 ?_
      refine g_iconst (v := 0) hk dX12_isWindow_14 (by decide) ?_
      refine lM_17 (v := (A 17 0)) hk (vp_in_iff.mpr ⟨by decide, by decide⟩) rfl dX12_isWindow_15 ?_
      have f28672 := IvM_s17_0 hIv
      refine g_iload_n hk dX12_isWindow_16 rfl ?_
      refine g_isub hk dX12_isWindow_17 ?_
      refine g_topi (fun y28673 ey28673 => ?_)
      replace hF := FE.lt hF ey28673
      have hy28673 : y28673.toInt = (A 17 0).toInt - z2.toInt := i32_sub ey28673 rfl rfl (by omega) (by omega)
      refine g_icmp_le (tgt := 23) (a := z1.toInt) (b := y28673.toInt) hk dX12_isWindow_18 (by decide) rfl rfl (fun c28674 => ?_) (fun c28674 => ?_)
      · skip
        replace hF := FE.pos hF c28674
        refine g_iload_n hk dX12_isWindow_23 rfl ?_
        refine g_istore_n (lv' := [(3, .int z1), (0, .ref (r 0)), (1, .int z1), (2, .int z2)]) hk dX12_isWindow_24 (by decide) rfl ?_
        have lp28688 : ∀ (n28689 : Nat) (x28675 : Int32), (0 ≤ x28675.toInt) → (x28675.toInt ≤ 160) → (161 - x28675.toInt < (n28689 : Int)) → (0 < n28689) → (FE (fM12_isWindow I A L z1 z2) (itr_i (0 : Int32) (bM12_isWindow_25 z1 z2 I A L) n28689 x28675)) → GW κ 4 0 0 (wM r g I A L) 25 [(3, .int x28675), (0, .ref (r 0)), (1, .int z1), (2, .int z2)] [] := by
          intro n28689
          induction n28689 with
          | zero =>
            intro x28675 h28686 h28687 m28690 m28690z hF
            exact absurd m28690z (Nat.lt_irrefl 0)
          | succ n28689 ih28692 =>
            intro x28675 h28686 h28687 m28690 m28690z hF
            replace hF := FE.itr_i hF
            refine g_iload_n hk dX12_isWindow_25 rfl ?_
            refine g_iload_n hk dX12_isWindow_26 rfl ?_
            refine g_iload_n hk dX12_isWindow_27 rfl ?_
            refine g_iadd hk dX12_isWindow_28 ?_
            refine g_topi (fun y28693 ey28693 => ?_)
            replace hF := FE.lt hF ey28693
            have hy28693 : y28693.toInt = z1.toInt + z2.toInt := i32_add ey28693 rfl rfl (by omega) (by omega)
            refine g_icmp_ge (tgt := 53) (a := x28675.toInt) (b := y28693.toInt) hk dX12_isWindow_29 (by decide) rfl rfl (fun c28694 => ?_) (fun c28694 => ?_)
            · skip
              replace hF := FE.pos hF c28694
              refine g_iconst (v := 1) hk dX12_isWindow_53 (by decide) ?_
              exact g_iret hk hR rfl (Or.inr (⟨c28669, c28671, (by omega), (by omega), (by omega), (by omega), (by omega), hF, rfl, rfl⟩)) dX12_isWindow_54
            · skip
              replace hF := FE.neg hF c28694
              refine g_aload_n hk dX12_isWindow_32 rfl ?_
              refine gM_r0_35 hk hin12 (List.mem_cons_of_mem _ (List.mem_append_left _ (List.mem_of_getElem? (i := 0) rfl))) dX12_isWindow_33 ?_
              refine g_iconst (v := 1) hk dX12_isWindow_36 (by decide) ?_
              refine g_iload_n hk dX12_isWindow_37 rfl ?_
              refine g_iadd hk dX12_isWindow_38 ?_
              refine g_topi (fun y28695 ey28695 => ?_)
              replace hF := FE.lt hF ey28695
              have hy28695 : y28695.toInt = 1 + x28675.toInt := i32_add ey28695 rfl rfl (by omega) (by omega)
              refine lM_17 (v := (A 17 y28695.toNatClampNeg)) hk (vp_in_iff.mpr ⟨by omega, by omega⟩) rfl dX12_isWindow_39 ?_
              refine g_ldc (v := 100000) hk (List.mem_cons_of_mem _ (List.mem_append_left _ (List.mem_of_getElem? (i := 1) rfl))) dX12_isWindow_40 ?_
              have b28696l := Int32.le_toInt (A 17 y28695.toNatClampNeg)
              have b28696h := Int32.toInt_lt (A 17 y28695.toNatClampNeg)
              refine g_icmp_ne (tgt := 47) (a := (A 17 y28695.toNatClampNeg).toInt) (b := 100000) hk dX12_isWindow_42 (by decide) rfl rfl (fun c28697 => ?_) (fun c28697 => ?_)
              · skip
                replace hF := FE.pos hF c28697
                obtain ⟨y28698, ey28698⟩ : ∃ y : Int32, y = x28675 + Int32.ofInt 1 := ⟨_, rfl⟩
                replace hF := FE.lt hF ey28698
                have hy28698 : y28698.toInt = x28675.toInt + 1 := i32_add ey28698 rfl (by decide) (by omega) (by omega)
                refine g_iinc (v := y28698) (lv' := [(3, .int y28698), (0, .ref (r 0)), (1, .int z1), (2, .int z2)]) hk 0 dX12_isWindow_47 rfl ey28698.symm (by decide) rfl ?_
                refine g_goto (tgt := 25) hk dX12_isWindow_50 (by decide) ?_
                exact g_lv (List.forall_mem_cons.mpr ⟨List.mem_of_getElem? (i := 0) rfl, (List.forall_mem_cons.mpr ⟨List.mem_of_getElem? (i := 1) rfl, (List.forall_mem_cons.mpr ⟨List.mem_of_getElem? (i := 2) rfl, (List.forall_mem_cons.mpr ⟨List.mem_of_getElem? (i := 3) rfl, (fun _ h => absurd h List.not_mem_nil)⟩)⟩)⟩)⟩) (ih28692 y28698 (by omega) (by omega) (by omega) (by omega) hF)
              · skip
                replace hF := FE.neg hF c28697
                refine g_iconst (v := 0) hk dX12_isWindow_45 (by decide) ?_
                exact g_iret hk hR rfl (Or.inl ⟨hF, rfl, rfl⟩) dX12_isWindow_46
        have b28700 := Int32.le_toInt z1
        have b28701 := Int32.toInt_lt z1
        have n28699a : 161 - z1.toInt < (FU : Int) := by have := FU_eq; omega
        have n28699b : 0 < FU := by have := FU_eq; omega
        exact lp28688 FU z1 (by omega) (by omega) n28699a n28699b hF
      · skip
        replace hF := FE.neg hF c28674
        refine g_iconst (v := 0) hk dX12_isWindow_21 (by decide) ?_
        exact g_iret hk hR rfl (Or.inl ⟨hF, rfl, rfl⟩) dX12_isWindow_22
noncomputable def bM12_sumOf_5 (z1 : Int32) (z2 : Int32) (I : Nat → Int32) (A : Nat → Nat → Int32) (L : Nat → Nat → Int64) : (Int32 → Int32 → (Int32)) → Int32 → Int32 → (Int32) := fun kk28751 x28712 x28713 => f_lt (z1 + z2) fun y28753 => if y28753.toInt ≤ x28712.toInt then x28713 else f_lt ((1 : Int32) + x28712) fun y28756 => f_lt (x28713 + (A 17 y28756.toNatClampNeg)) fun y28759 => f_lt (x28712 + Int32.ofInt 1) fun y28760 => kk28751 y28760 y28759
noncomputable def fM12_sumOf (I : Nat → Int32) (A : Nat → Nat → Int32) (L : Nat → Nat → Int64) (z1 : Int32) (z2 : Int32) : Int32 := itr_ii (0 : Int32) (bM12_sumOf_5 z1 z2 I A L) FU z1 0
def wo_j161_X12_sumOf : List Cond := [Cond.fieldLink RX12 70 "WarpDeskModel" "now" "[I"]
def wz_j161_X12_sumOf : List Cond := .code yX12_sumOf cX12_sumOf 5 (some .int) :: (wo_j161_X12_sumOf ++ (wsX120 ++ ([] : List Cond)))
theorem zg_j161_X12_sumOf : ∀ w ∈ wz_j161_X12_sumOf, goodWord w = true := zg_cons rfl (zg_app (by decide +kernel) (zg_app zgU_wsX120 zg_nil))
theorem zi_j161_X12_sumOf : ∀ w ∈ wz_j161_X12_sumOf, w ∈ lw_tbl := zi_cons zw_1722 (zi_app (zi_cons zw_1413 zi_nil) (zi_app inX12 zi_nil))
set_option maxHeartbeats 4000000 in
set_option maxRecDepth 100000 in
theorem j161_X12_sumOf (l : Launch) (D : va_G) (zt : Nat × Nat × Nat × (Nat → Nat) × (Nat → Nat)) (r : Nat → Nat) (g : Nat → ClassId) (I : Nat → Int32) (A : Nat → Nat → Int32) (L : Nat → Nat → Int64) (z1 : Int32) (z2 : Int32) (hIv : IvM I A) (hp0 : 0 ≤ z1.toInt) (hp1 : z1.toInt ≤ 159) (hp2 : 1 ≤ z2.toInt) (hp3 : z2.toInt ≤ 160) (hp4 : z1.toInt + z2.toInt ≤ 160) : GM l D zt (tyM g) yX12_sumOf wz_j161_X12_sumOf ({ frames := 0, cells := 0, slots := 0, locals := 0 } : Room) [.ref (r 0), .int z1, .int z2] (wM r g I A L) (fun v _ w' => ∃ y0 : Int32, FE (fM12_sumOf I A L z1 z2) y0 ∧ v = some (.int y0) ∧ w' = wM r g I A L) 0 0 := by
  refine GM.of (cc := cX12_sumOf) (maxL := 5) (ret := (some .int)) (own := RX12) (lv := [(0, .ref (r 0)), (1, .int z1), (2, .int z2)]) (by decide) rfl rfl (Nat.le_of_ble_eq_true rfl) rfl (fun κ sz hk hR hN => ?_)
  have hin12 : ∀ w ∈ u_ws RX12 TX12 55, w ∈ wz_j161_X12_sumOf := fun w h => (List.mem_cons_of_mem _ (List.mem_append_right _ (List.mem_append_left _ h)))
  have hF : FE (fM12_sumOf I A L z1 z2) (fM12_sumOf I A L z1 z2) := FE.rf
  refine g_iconst (v := 0) hk dX12_sumOf_0 (by decide) ?_
  refine g_istore_n (lv' := [(3, .int 0), (0, .ref (r 0)), (1, .int z1), (2, .int z2)]) hk dX12_sumOf_1 (by decide) rfl ?_
  refine g_iload_n hk dX12_sumOf_2 rfl ?_
  refine g_istore (lv' := [(4, .int z1), (3, .int 0), (0, .ref (r 0)), (1, .int z1), (2, .int z2)]) hk dX12_sumOf_3 (by decide) rfl ?_
  have lp28748 : ∀ (n28749 : Nat) (x28712 : Int32) (x28713 : Int32), (0 ≤ x28712.toInt) → (x28712.toInt ≤ 319) → (320 - x28712.toInt < (n28749 : Int)) → (0 < n28749) → (FE (fM12_sumOf I A L z1 z2) (itr_ii (0 : Int32) (bM12_sumOf_5 z1 z2 I A L) n28749 x28712 x28713)) → GW κ 5 0 0 (wM r g I A L) 5 [(4, .int x28712), (3, .int x28713), (0, .ref (r 0)), (1, .int z1), (2, .int z2)] [] := by
    intro n28749
    induction n28749 with
    | zero =>
      intro x28712 x28713 h28746 h28747 m28750 m28750z hF
      exact absurd m28750z (Nat.lt_irrefl 0)
    | succ n28749 ih28752 =>
      intro x28712 x28713 h28746 h28747 m28750 m28750z hF
      replace hF := FE.itr_ii hF
      refine g_iload hk dX12_sumOf_5 rfl ?_
      refine g_iload_n hk dX12_sumOf_7 rfl ?_
      refine g_iload_n hk dX12_sumOf_8 rfl ?_
      refine g_iadd hk dX12_sumOf_9 ?_
      refine g_topi (fun y28753 ey28753 => ?_)
      replace hF := FE.lt hF ey28753
      have hy28753 : y28753.toInt = z1.toInt + z2.toInt := i32_add ey28753 rfl rfl (by omega) (by omega)
      refine g_icmp_ge (tgt := 31) (a := x28712.toInt) (b := y28753.toInt) hk dX12_sumOf_10 (by decide) rfl rfl (fun c28754 => ?_) (fun c28754 => ?_)
      · skip
        replace hF := FE.pos hF c28754
        refine g_iload_n hk dX12_sumOf_31 rfl ?_
        have b28755l := Int32.le_toInt x28713
        have b28755h := Int32.toInt_lt x28713
        exact g_iret hk hR rfl ⟨x28713, hF, rfl, rfl⟩ dX12_sumOf_32
      · skip
        replace hF := FE.neg hF c28754
        refine g_iload_n hk dX12_sumOf_13 rfl ?_
        refine g_aload_n hk dX12_sumOf_14 rfl ?_
        refine gM_r0_35 hk hin12 (List.mem_cons_of_mem _ (List.mem_append_left _ (List.mem_of_getElem? (i := 0) rfl))) dX12_sumOf_15 ?_
        refine g_iconst (v := 1) hk dX12_sumOf_18 (by decide) ?_
        refine g_iload hk dX12_sumOf_19 rfl ?_
        refine g_iadd hk dX12_sumOf_21 ?_
        refine g_topi (fun y28756 ey28756 => ?_)
        replace hF := FE.lt hF ey28756
        have hy28756 : y28756.toInt = 1 + x28712.toInt := i32_add ey28756 rfl rfl (by omega) (by omega)
        refine lM_17 (v := (A 17 y28756.toNatClampNeg)) hk (vp_in_iff.mpr ⟨by omega, by omega⟩) rfl dX12_sumOf_22 ?_
        have b28757l := Int32.le_toInt x28713
        have b28757h := Int32.toInt_lt x28713
        have b28758l := Int32.le_toInt (A 17 y28756.toNatClampNeg)
        have b28758h := Int32.toInt_lt (A 17 y28756.toNatClampNeg)
        refine g_iadd hk dX12_sumOf_23 ?_
        refine g_topi (fun y28759 ey28759 => ?_)
        replace hF := FE.lt hF ey28759
        refine g_istore_n (lv' := [(3, .int y28759), (4, .int x28712), (0, .ref (r 0)), (1, .int z1), (2, .int z2)]) hk dX12_sumOf_24 (by decide) rfl ?_
        obtain ⟨y28760, ey28760⟩ : ∃ y : Int32, y = x28712 + Int32.ofInt 1 := ⟨_, rfl⟩
        replace hF := FE.lt hF ey28760
        have hy28760 : y28760.toInt = x28712.toInt + 1 := i32_add ey28760 rfl (by decide) (by omega) (by omega)
        refine g_iinc (v := y28760) (lv' := [(4, .int y28760), (3, .int y28759), (0, .ref (r 0)), (1, .int z1), (2, .int z2)]) hk 1 dX12_sumOf_25 rfl ey28760.symm (by decide) rfl ?_
        refine g_goto (tgt := 5) hk dX12_sumOf_28 (by decide) ?_
        have b28761l := Int32.le_toInt y28759
        have b28761h := Int32.toInt_lt y28759
        exact g_lv (List.forall_mem_cons.mpr ⟨List.mem_of_getElem? (i := 0) rfl, (List.forall_mem_cons.mpr ⟨List.mem_of_getElem? (i := 1) rfl, (List.forall_mem_cons.mpr ⟨List.mem_of_getElem? (i := 2) rfl, (List.forall_mem_cons.mpr ⟨List.mem_of_getElem? (i := 3) rfl, (List.forall_mem_cons.mpr ⟨List.mem_of_getElem? (i := 4) rfl, (fun _ h => absurd h List.not_mem_nil)⟩)⟩)⟩)⟩)⟩) (ih28752 y28760 y28759 (by omega) (by omega) (by omega) (by omega) hF)
  have k28762 : (0 : Int32).toInt = 0 := rfl
  have b28764 := Int32.le_toInt z1
  have b28765 := Int32.toInt_lt z1
  have n28763a : 320 - z1.toInt < (FU : Int) := by have := FU_eq; omega
  have n28763b : 0 < FU := by have := FU_eq; omega
  exact lp28748 FU z1 0 (by omega) (by omega) n28763a n28763b hF
noncomputable def bM12_leastOf_12 (z1 : Int32) (z2 : Int32) (I : Nat → Int32) (A : Nat → Nat → Int32) (L : Nat → Nat → Int64) : (Int32 → Int32 → (Int32)) → Int32 → Int32 → (Int32) := fun kk28818 x28770 x28771 => f_lt (z1 + z2) fun y28820 => if y28820.toInt ≤ x28770.toInt then x28771 else f_lt ((1 : Int32) + x28770) fun y28823 => if x28771.toInt ≤ (A 17 y28823.toNatClampNeg).toInt then f_lt (x28770 + Int32.ofInt 1) fun y28827 => kk28818 y28827 x28771 else f_lt ((1 : Int32) + x28770) fun y28828 => f_lt (x28770 + Int32.ofInt 1) fun y28829 => kk28818 y28829 (A 17 y28828.toNatClampNeg)
noncomputable def fM12_leastOf (I : Nat → Int32) (A : Nat → Nat → Int32) (L : Nat → Nat → Int64) (z1 : Int32) (z2 : Int32) : Int32 := f_lt ((1 : Int32) + z1) fun y28769 => itr_ii (0 : Int32) (bM12_leastOf_12 z1 z2 I A L) FU z1 (A 17 y28769.toNatClampNeg)
def wz_j162_X12_leastOf : List Cond := .code yX12_leastOf cX12_leastOf 5 (some .int) :: (wo_j161_X12_sumOf ++ (wsX120 ++ ([] : List Cond)))
theorem zg_j162_X12_leastOf : ∀ w ∈ wz_j162_X12_leastOf, goodWord w = true := zg_cons rfl (zg_app (by decide +kernel) (zg_app zgU_wsX120 zg_nil))
theorem zi_j162_X12_leastOf : ∀ w ∈ wz_j162_X12_leastOf, w ∈ lw_tbl := zi_cons zw_1726 (zi_app (zi_cons zw_1413 zi_nil) (zi_app inX12 zi_nil))
set_option maxHeartbeats 4000000 in
set_option maxRecDepth 100000 in
theorem j162_X12_leastOf (l : Launch) (D : va_G) (zt : Nat × Nat × Nat × (Nat → Nat) × (Nat → Nat)) (r : Nat → Nat) (g : Nat → ClassId) (I : Nat → Int32) (A : Nat → Nat → Int32) (L : Nat → Nat → Int64) (z1 : Int32) (z2 : Int32) (hIv : IvM I A) (hp0 : 0 ≤ z1.toInt) (hp1 : z1.toInt ≤ 159) (hp2 : 1 ≤ z2.toInt) (hp3 : z2.toInt ≤ 160) (hp4 : z1.toInt + z2.toInt ≤ 160) : GM l D zt (tyM g) yX12_leastOf wz_j162_X12_leastOf ({ frames := 0, cells := 0, slots := 0, locals := 0 } : Room) [.ref (r 0), .int z1, .int z2] (wM r g I A L) (fun v _ w' => ∃ y0 : Int32, FE (fM12_leastOf I A L z1 z2) y0 ∧ v = some (.int y0) ∧ w' = wM r g I A L) 0 0 := by
  refine GM.of (cc := cX12_leastOf) (maxL := 5) (ret := (some .int)) (own := RX12) (lv := [(0, .ref (r 0)), (1, .int z1), (2, .int z2)]) (by decide) rfl rfl (Nat.le_of_ble_eq_true rfl) rfl (fun κ sz hk hR hN => ?_)
  have hin12 : ∀ w ∈ u_ws RX12 TX12 55, w ∈ wz_j162_X12_leastOf := fun w h => (List.mem_cons_of_mem _ (List.mem_append_right _ (List.mem_append_left _ h)))
  have hF : FE (fM12_leastOf I A L z1 z2) (fM12_leastOf I A L z1 z2) := FE.rf
  refine g_aload_n hk dX12_leastOf_0 rfl ?_
  refine gM_r0_35 hk hin12 (List.mem_cons_of_mem _ (List.mem_append_left _ (List.mem_of_getElem? (i := 0) rfl))) dX12_leastOf_1 ?_
  refine g_iconst (v := 1) hk dX12_leastOf_4 (by decide) ?_
  refine g_iload_n hk dX12_leastOf_5 rfl ?_
  refine g_iadd hk dX12_leastOf_6 ?_
  refine g_topi (fun y28769 ey28769 => ?_)
  replace hF := FE.lt hF ey28769
  have hy28769 : y28769.toInt = 1 + z1.toInt := i32_add ey28769 rfl rfl (by omega) (by omega)
  refine lM_17 (v := (A 17 y28769.toNatClampNeg)) hk (vp_in_iff.mpr ⟨by omega, by omega⟩) rfl dX12_leastOf_7 ?_
  refine g_istore_n (lv' := [(3, .int (A 17 y28769.toNatClampNeg)), (0, .ref (r 0)), (1, .int z1), (2, .int z2)]) hk dX12_leastOf_8 (by decide) rfl ?_
  refine g_iload_n hk dX12_leastOf_9 rfl ?_
  refine g_istore (lv' := [(4, .int z1), (3, .int (A 17 y28769.toNatClampNeg)), (0, .ref (r 0)), (1, .int z1), (2, .int z2)]) hk dX12_leastOf_10 (by decide) rfl ?_
  have lp28815 : ∀ (n28816 : Nat) (x28770 : Int32) (x28771 : Int32), (0 ≤ x28770.toInt) → (x28770.toInt ≤ 319) → (320 - x28770.toInt < (n28816 : Int)) → (0 < n28816) → (FE (fM12_leastOf I A L z1 z2) (itr_ii (0 : Int32) (bM12_leastOf_12 z1 z2 I A L) n28816 x28770 x28771)) → GW κ 5 0 0 (wM r g I A L) 12 [(4, .int x28770), (3, .int x28771), (0, .ref (r 0)), (1, .int z1), (2, .int z2)] [] := by
    intro n28816
    induction n28816 with
    | zero =>
      intro x28770 x28771 h28813 h28814 m28817 m28817z hF
      exact absurd m28817z (Nat.lt_irrefl 0)
    | succ n28816 ih28819 =>
      intro x28770 x28771 h28813 h28814 m28817 m28817z hF
      replace hF := FE.itr_ii hF
      refine g_iload hk dX12_leastOf_12 rfl ?_
      refine g_iload_n hk dX12_leastOf_14 rfl ?_
      refine g_iload_n hk dX12_leastOf_15 rfl ?_
      refine g_iadd hk dX12_leastOf_16 ?_
      refine g_topi (fun y28820 ey28820 => ?_)
      replace hF := FE.lt hF ey28820
      have hy28820 : y28820.toInt = z1.toInt + z2.toInt := i32_add ey28820 rfl rfl (by omega) (by omega)
      refine g_icmp_ge (tgt := 49) (a := x28770.toInt) (b := y28820.toInt) hk dX12_leastOf_17 (by decide) rfl rfl (fun c28821 => ?_) (fun c28821 => ?_)
      · skip
        replace hF := FE.pos hF c28821
        refine g_iload_n hk dX12_leastOf_49 rfl ?_
        have b28822l := Int32.le_toInt x28771
        have b28822h := Int32.toInt_lt x28771
        exact g_iret hk hR rfl ⟨x28771, hF, rfl, rfl⟩ dX12_leastOf_50
      · skip
        replace hF := FE.neg hF c28821
        refine g_aload_n hk dX12_leastOf_20 rfl ?_
        refine gM_r0_35 hk hin12 (List.mem_cons_of_mem _ (List.mem_append_left _ (List.mem_of_getElem? (i := 0) rfl))) dX12_leastOf_21 ?_
        refine g_iconst (v := 1) hk dX12_leastOf_24 (by decide) ?_
        refine g_iload hk dX12_leastOf_25 rfl ?_
        refine g_iadd hk dX12_leastOf_27 ?_
        refine g_topi (fun y28823 ey28823 => ?_)
        replace hF := FE.lt hF ey28823
        have hy28823 : y28823.toInt = 1 + x28770.toInt := i32_add ey28823 rfl rfl (by omega) (by omega)
        refine lM_17 (v := (A 17 y28823.toNatClampNeg)) hk (vp_in_iff.mpr ⟨by omega, by omega⟩) rfl dX12_leastOf_28 ?_
        refine g_iload_n hk dX12_leastOf_29 rfl ?_
        have b28824l := Int32.le_toInt (A 17 y28823.toNatClampNeg)
        have b28824h := Int32.toInt_lt (A 17 y28823.toNatClampNeg)
        have b28825l := Int32.le_toInt x28771
        have b28825h := Int32.toInt_lt x28771
        refine g_icmp_ge (tgt := 43) (a := (A 17 y28823.toNatClampNeg).toInt) (b := x28771.toInt) hk dX12_leastOf_30 (by decide) rfl rfl (fun c28826 => ?_) (fun c28826 => ?_)
        · skip
          replace hF := FE.pos hF c28826
          obtain ⟨y28827, ey28827⟩ : ∃ y : Int32, y = x28770 + Int32.ofInt 1 := ⟨_, rfl⟩
          replace hF := FE.lt hF ey28827
          have hy28827 : y28827.toInt = x28770.toInt + 1 := i32_add ey28827 rfl (by decide) (by omega) (by omega)
          refine g_iinc (v := y28827) (lv' := [(4, .int y28827), (3, .int x28771), (0, .ref (r 0)), (1, .int z1), (2, .int z2)]) hk 0 dX12_leastOf_43 rfl ey28827.symm (by decide) rfl ?_
          refine g_goto (tgt := 12) hk dX12_leastOf_46 (by decide) ?_
          exact g_lv (List.forall_mem_cons.mpr ⟨List.mem_of_getElem? (i := 0) rfl, (List.forall_mem_cons.mpr ⟨List.mem_of_getElem? (i := 1) rfl, (List.forall_mem_cons.mpr ⟨List.mem_of_getElem? (i := 2) rfl, (List.forall_mem_cons.mpr ⟨List.mem_of_getElem? (i := 3) rfl, (List.forall_mem_cons.mpr ⟨List.mem_of_getElem? (i := 4) rfl, (fun _ h => absurd h List.not_mem_nil)⟩)⟩)⟩)⟩)⟩) (ih28819 y28827 x28771 (by omega) (by omega) (by omega) (by omega) hF)
        · skip
          replace hF := FE.neg hF c28826
          refine g_aload_n hk dX12_leastOf_33 rfl ?_
          refine gM_r0_35 hk hin12 (List.mem_cons_of_mem _ (List.mem_append_left _ (List.mem_of_getElem? (i := 0) rfl))) dX12_leastOf_34 ?_
          refine g_iconst (v := 1) hk dX12_leastOf_37 (by decide) ?_
          refine g_iload hk dX12_leastOf_38 rfl ?_
          refine g_iadd hk dX12_leastOf_40 ?_
          refine g_topi (fun y28828 ey28828 => ?_)
          replace hF := FE.lt hF ey28828
          have hy28828 : y28828.toInt = 1 + x28770.toInt := i32_add ey28828 rfl rfl (by omega) (by omega)
          refine lM_17 (v := (A 17 y28828.toNatClampNeg)) hk (vp_in_iff.mpr ⟨by omega, by omega⟩) rfl dX12_leastOf_41 ?_
          refine g_istore_n (lv' := [(3, .int (A 17 y28828.toNatClampNeg)), (4, .int x28770), (0, .ref (r 0)), (1, .int z1), (2, .int z2)]) hk dX12_leastOf_42 (by decide) rfl ?_
          obtain ⟨y28829, ey28829⟩ : ∃ y : Int32, y = x28770 + Int32.ofInt 1 := ⟨_, rfl⟩
          replace hF := FE.lt hF ey28829
          have hy28829 : y28829.toInt = x28770.toInt + 1 := i32_add ey28829 rfl (by decide) (by omega) (by omega)
          refine g_iinc (v := y28829) (lv' := [(4, .int y28829), (3, .int (A 17 y28828.toNatClampNeg)), (0, .ref (r 0)), (1, .int z1), (2, .int z2)]) hk 1 dX12_leastOf_43 rfl ey28829.symm (by decide) rfl ?_
          refine g_goto (tgt := 12) hk dX12_leastOf_46 (by decide) ?_
          have b28830l := Int32.le_toInt (A 17 y28828.toNatClampNeg)
          have b28830h := Int32.toInt_lt (A 17 y28828.toNatClampNeg)
          exact g_lv (List.forall_mem_cons.mpr ⟨List.mem_of_getElem? (i := 0) rfl, (List.forall_mem_cons.mpr ⟨List.mem_of_getElem? (i := 1) rfl, (List.forall_mem_cons.mpr ⟨List.mem_of_getElem? (i := 2) rfl, (List.forall_mem_cons.mpr ⟨List.mem_of_getElem? (i := 3) rfl, (List.forall_mem_cons.mpr ⟨List.mem_of_getElem? (i := 4) rfl, (fun _ h => absurd h List.not_mem_nil)⟩)⟩)⟩)⟩)⟩) (ih28819 y28829 (A 17 y28828.toNatClampNeg) (by omega) (by omega) (by omega) (by omega) hF)
  have b28831l := Int32.le_toInt (A 17 y28769.toNatClampNeg)
  have b28831h := Int32.toInt_lt (A 17 y28769.toNatClampNeg)
  have b28833 := Int32.le_toInt z1
  have b28834 := Int32.toInt_lt z1
  have n28832a : 320 - z1.toInt < (FU : Int) := by have := FU_eq; omega
  have n28832b : 0 < FU := by have := FU_eq; omega
  exact lp28815 FU z1 (A 17 y28769.toNatClampNeg) (by omega) (by omega) n28832a n28832b hF
noncomputable def bM12_mostOf_12 (z1 : Int32) (z2 : Int32) (I : Nat → Int32) (A : Nat → Nat → Int32) (L : Nat → Nat → Int64) : (Int32 → Int32 → (Int32)) → Int32 → Int32 → (Int32) := fun kk28887 x28839 x28840 => f_lt (z1 + z2) fun y28889 => if y28889.toInt ≤ x28839.toInt then x28840 else f_lt ((1 : Int32) + x28839) fun y28892 => if (A 17 y28892.toNatClampNeg).toInt ≤ x28840.toInt then f_lt (x28839 + Int32.ofInt 1) fun y28896 => kk28887 y28896 x28840 else f_lt ((1 : Int32) + x28839) fun y28897 => f_lt (x28839 + Int32.ofInt 1) fun y28898 => kk28887 y28898 (A 17 y28897.toNatClampNeg)
noncomputable def fM12_mostOf (I : Nat → Int32) (A : Nat → Nat → Int32) (L : Nat → Nat → Int64) (z1 : Int32) (z2 : Int32) : Int32 := f_lt ((1 : Int32) + z1) fun y28838 => itr_ii (0 : Int32) (bM12_mostOf_12 z1 z2 I A L) FU z1 (A 17 y28838.toNatClampNeg)
def wz_j163_X12_mostOf : List Cond := .code yX12_mostOf cX12_mostOf 5 (some .int) :: (wo_j161_X12_sumOf ++ (wsX120 ++ ([] : List Cond)))
theorem zg_j163_X12_mostOf : ∀ w ∈ wz_j163_X12_mostOf, goodWord w = true := zg_cons rfl (zg_app (by decide +kernel) (zg_app zgU_wsX120 zg_nil))
theorem zi_j163_X12_mostOf : ∀ w ∈ wz_j163_X12_mostOf, w ∈ lw_tbl := zi_cons zw_1730 (zi_app (zi_cons zw_1413 zi_nil) (zi_app inX12 zi_nil))
set_option maxHeartbeats 4000000 in
set_option maxRecDepth 100000 in
theorem j163_X12_mostOf (l : Launch) (D : va_G) (zt : Nat × Nat × Nat × (Nat → Nat) × (Nat → Nat)) (r : Nat → Nat) (g : Nat → ClassId) (I : Nat → Int32) (A : Nat → Nat → Int32) (L : Nat → Nat → Int64) (z1 : Int32) (z2 : Int32) (hIv : IvM I A) (hp0 : 0 ≤ z1.toInt) (hp1 : z1.toInt ≤ 159) (hp2 : 1 ≤ z2.toInt) (hp3 : z2.toInt ≤ 160) (hp4 : z1.toInt + z2.toInt ≤ 160) : GM l D zt (tyM g) yX12_mostOf wz_j163_X12_mostOf ({ frames := 0, cells := 0, slots := 0, locals := 0 } : Room) [.ref (r 0), .int z1, .int z2] (wM r g I A L) (fun v _ w' => ∃ y0 : Int32, FE (fM12_mostOf I A L z1 z2) y0 ∧ v = some (.int y0) ∧ w' = wM r g I A L) 0 0 := by
  refine GM.of (cc := cX12_mostOf) (maxL := 5) (ret := (some .int)) (own := RX12) (lv := [(0, .ref (r 0)), (1, .int z1), (2, .int z2)]) (by decide) rfl rfl (Nat.le_of_ble_eq_true rfl) rfl (fun κ sz hk hR hN => ?_)
  have hin12 : ∀ w ∈ u_ws RX12 TX12 55, w ∈ wz_j163_X12_mostOf := fun w h => (List.mem_cons_of_mem _ (List.mem_append_right _ (List.mem_append_left _ h)))
  have hF : FE (fM12_mostOf I A L z1 z2) (fM12_mostOf I A L z1 z2) := FE.rf
  refine g_aload_n hk dX12_mostOf_0 rfl ?_
  refine gM_r0_35 hk hin12 (List.mem_cons_of_mem _ (List.mem_append_left _ (List.mem_of_getElem? (i := 0) rfl))) dX12_mostOf_1 ?_
  refine g_iconst (v := 1) hk dX12_mostOf_4 (by decide) ?_
  refine g_iload_n hk dX12_mostOf_5 rfl ?_
  refine g_iadd hk dX12_mostOf_6 ?_
  refine g_topi (fun y28838 ey28838 => ?_)
  replace hF := FE.lt hF ey28838
  have hy28838 : y28838.toInt = 1 + z1.toInt := i32_add ey28838 rfl rfl (by omega) (by omega)
  refine lM_17 (v := (A 17 y28838.toNatClampNeg)) hk (vp_in_iff.mpr ⟨by omega, by omega⟩) rfl dX12_mostOf_7 ?_
  refine g_istore_n (lv' := [(3, .int (A 17 y28838.toNatClampNeg)), (0, .ref (r 0)), (1, .int z1), (2, .int z2)]) hk dX12_mostOf_8 (by decide) rfl ?_
  refine g_iload_n hk dX12_mostOf_9 rfl ?_
  refine g_istore (lv' := [(4, .int z1), (3, .int (A 17 y28838.toNatClampNeg)), (0, .ref (r 0)), (1, .int z1), (2, .int z2)]) hk dX12_mostOf_10 (by decide) rfl ?_
  have lp28884 : ∀ (n28885 : Nat) (x28839 : Int32) (x28840 : Int32), (0 ≤ x28839.toInt) → (x28839.toInt ≤ 319) → (320 - x28839.toInt < (n28885 : Int)) → (0 < n28885) → (FE (fM12_mostOf I A L z1 z2) (itr_ii (0 : Int32) (bM12_mostOf_12 z1 z2 I A L) n28885 x28839 x28840)) → GW κ 5 0 0 (wM r g I A L) 12 [(4, .int x28839), (3, .int x28840), (0, .ref (r 0)), (1, .int z1), (2, .int z2)] [] := by
    intro n28885
    induction n28885 with
    | zero =>
      intro x28839 x28840 h28882 h28883 m28886 m28886z hF
      exact absurd m28886z (Nat.lt_irrefl 0)
    | succ n28885 ih28888 =>
      intro x28839 x28840 h28882 h28883 m28886 m28886z hF
      replace hF := FE.itr_ii hF
      refine g_iload hk dX12_mostOf_12 rfl ?_
      refine g_iload_n hk dX12_mostOf_14 rfl ?_
      refine g_iload_n hk dX12_mostOf_15 rfl ?_
      refine g_iadd hk dX12_mostOf_16 ?_
      refine g_topi (fun y28889 ey28889 => ?_)
      replace hF := FE.lt hF ey28889
      have hy28889 : y28889.toInt = z1.toInt + z2.toInt := i32_add ey28889 rfl rfl (by omega) (by omega)
      refine g_icmp_ge (tgt := 49) (a := x28839.toInt) (b := y28889.toInt) hk dX12_mostOf_17 (by decide) rfl rfl (fun c28890 => ?_) (fun c28890 => ?_)
      · skip
        replace hF := FE.pos hF c28890
        refine g_iload_n hk dX12_mostOf_49 rfl ?_
        have b28891l := Int32.le_toInt x28840
        have b28891h := Int32.toInt_lt x28840
        exact g_iret hk hR rfl ⟨x28840, hF, rfl, rfl⟩ dX12_mostOf_50
      · skip
        replace hF := FE.neg hF c28890
        refine g_aload_n hk dX12_mostOf_20 rfl ?_
        refine gM_r0_35 hk hin12 (List.mem_cons_of_mem _ (List.mem_append_left _ (List.mem_of_getElem? (i := 0) rfl))) dX12_mostOf_21 ?_
        refine g_iconst (v := 1) hk dX12_mostOf_24 (by decide) ?_
        refine g_iload hk dX12_mostOf_25 rfl ?_
        refine g_iadd hk dX12_mostOf_27 ?_
        refine g_topi (fun y28892 ey28892 => ?_)
        replace hF := FE.lt hF ey28892
        have hy28892 : y28892.toInt = 1 + x28839.toInt := i32_add ey28892 rfl rfl (by omega) (by omega)
        refine lM_17 (v := (A 17 y28892.toNatClampNeg)) hk (vp_in_iff.mpr ⟨by omega, by omega⟩) rfl dX12_mostOf_28 ?_
        refine g_iload_n hk dX12_mostOf_29 rfl ?_
        have b28893l := Int32.le_toInt (A 17 y28892.toNatClampNeg)
        have b28893h := Int32.toInt_lt (A 17 y28892.toNatClampNeg)
        have b28894l := Int32.le_toInt x28840
        have b28894h := Int32.toInt_lt x28840
        refine g_icmp_le (tgt := 43) (a := (A 17 y28892.toNatClampNeg).toInt) (b := x28840.toInt) hk dX12_mostOf_30 (by decide) rfl rfl (fun c28895 => ?_) (fun c28895 => ?_)
        · skip
          replace hF := FE.pos hF c28895
          obtain ⟨y28896, ey28896⟩ : ∃ y : Int32, y = x28839 + Int32.ofInt 1 := ⟨_, rfl⟩
          replace hF := FE.lt hF ey28896
          have hy28896 : y28896.toInt = x28839.toInt + 1 := i32_add ey28896 rfl (by decide) (by omega) (by omega)
          refine g_iinc (v := y28896) (lv' := [(4, .int y28896), (3, .int x28840), (0, .ref (r 0)), (1, .int z1), (2, .int z2)]) hk 0 dX12_mostOf_43 rfl ey28896.symm (by decide) rfl ?_
          refine g_goto (tgt := 12) hk dX12_mostOf_46 (by decide) ?_
          exact g_lv (List.forall_mem_cons.mpr ⟨List.mem_of_getElem? (i := 0) rfl, (List.forall_mem_cons.mpr ⟨List.mem_of_getElem? (i := 1) rfl, (List.forall_mem_cons.mpr ⟨List.mem_of_getElem? (i := 2) rfl, (List.forall_mem_cons.mpr ⟨List.mem_of_getElem? (i := 3) rfl, (List.forall_mem_cons.mpr ⟨List.mem_of_getElem? (i := 4) rfl, (fun _ h => absurd h List.not_mem_nil)⟩)⟩)⟩)⟩)⟩) (ih28888 y28896 x28840 (by omega) (by omega) (by omega) (by omega) hF)
        · skip
          replace hF := FE.neg hF c28895
          refine g_aload_n hk dX12_mostOf_33 rfl ?_
          refine gM_r0_35 hk hin12 (List.mem_cons_of_mem _ (List.mem_append_left _ (List.mem_of_getElem? (i := 0) rfl))) dX12_mostOf_34 ?_
          refine g_iconst (v := 1) hk dX12_mostOf_37 (by decide) ?_
          refine g_iload hk dX12_mostOf_38 rfl ?_
          refine g_iadd hk dX12_mostOf_40 ?_
          refine g_topi (fun y28897 ey28897 => ?_)
          replace hF := FE.lt hF ey28897
          have hy28897 : y28897.toInt = 1 + x28839.toInt := i32_add ey28897 rfl rfl (by omega) (by omega)
          refine lM_17 (v := (A 17 y28897.toNatClampNeg)) hk (vp_in_iff.mpr ⟨by omega, by omega⟩) rfl dX12_mostOf_41 ?_
          refine g_istore_n (lv' := [(3, .int (A 17 y28897.toNatClampNeg)), (4, .int x28839), (0, .ref (r 0)), (1, .int z1), (2, .int z2)]) hk dX12_mostOf_42 (by decide) rfl ?_
          obtain ⟨y28898, ey28898⟩ : ∃ y : Int32, y = x28839 + Int32.ofInt 1 := ⟨_, rfl⟩
          replace hF := FE.lt hF ey28898
          have hy28898 : y28898.toInt = x28839.toInt + 1 := i32_add ey28898 rfl (by decide) (by omega) (by omega)
          refine g_iinc (v := y28898) (lv' := [(4, .int y28898), (3, .int (A 17 y28897.toNatClampNeg)), (0, .ref (r 0)), (1, .int z1), (2, .int z2)]) hk 1 dX12_mostOf_43 rfl ey28898.symm (by decide) rfl ?_
          refine g_goto (tgt := 12) hk dX12_mostOf_46 (by decide) ?_
          have b28899l := Int32.le_toInt (A 17 y28897.toNatClampNeg)
          have b28899h := Int32.toInt_lt (A 17 y28897.toNatClampNeg)
          exact g_lv (List.forall_mem_cons.mpr ⟨List.mem_of_getElem? (i := 0) rfl, (List.forall_mem_cons.mpr ⟨List.mem_of_getElem? (i := 1) rfl, (List.forall_mem_cons.mpr ⟨List.mem_of_getElem? (i := 2) rfl, (List.forall_mem_cons.mpr ⟨List.mem_of_getElem? (i := 3) rfl, (List.forall_mem_cons.mpr ⟨List.mem_of_getElem? (i := 4) rfl, (fun _ h => absurd h List.not_mem_nil)⟩)⟩)⟩)⟩)⟩) (ih28888 y28898 (A 17 y28897.toNatClampNeg) (by omega) (by omega) (by omega) (by omega) hF)
  have b28900l := Int32.le_toInt (A 17 y28838.toNatClampNeg)
  have b28900h := Int32.toInt_lt (A 17 y28838.toNatClampNeg)
  have b28902 := Int32.le_toInt z1
  have b28903 := Int32.toInt_lt z1
  have n28901a : 320 - z1.toInt < (FU : Int) := by have := FU_eq; omega
  have n28901b : 0 < FU := by have := FU_eq; omega
  exact lp28884 FU z1 (A 17 y28838.toNatClampNeg) (by omega) (by omega) n28901a n28901b hF
noncomputable def fM12_window (I : Nat → Int32) (A : Nat → Nat → Int32) (L : Nat → Nat → Int64) (z1 : Int32) (z2 : Int32) (z3 : Int32) : Int32 := if fM12_isWindow I A L z1 z2 = 0 then (-1000000) else if z3.toInt = 0 then f_lt (fM12_sumOf I A L z1 z2) fun y28766 => y28766 else if z3.toInt = 1 then f_lt (fM12_leastOf I A L z1 z2) fun y28835 => y28835 else if z3.toInt = 2 then f_lt (fM12_mostOf I A L z1 z2) fun y28904 => y28904 else if z3.toInt = 3 then f_lt (fM12_sumOf I A L z1 z2) fun y28907 => f_lt (fM12_downBy I A L y28907 z2) fun y28908 => y28908 else (-1000000)
def wo_j159_X12_window : List Cond := [Cond.methodLink RX12 257 yX12_isWindow, Cond.instanceMethod yX12_isWindow, Cond.selects RX12 yX12_isWindow yX12_isWindow, Cond.initialized RX12, Cond.constant RX12 332 (-1000000), Cond.methodLink RX12 333 yX12_sumOf, Cond.instanceMethod yX12_sumOf, Cond.selects RX12 yX12_sumOf yX12_sumOf, Cond.methodLink RX12 336 yX12_leastOf, Cond.instanceMethod yX12_leastOf, Cond.selects RX12 yX12_leastOf yX12_leastOf, Cond.methodLink RX12 339 yX12_mostOf, Cond.instanceMethod yX12_mostOf, Cond.selects RX12 yX12_mostOf yX12_mostOf, Cond.methodLink RX12 261 yX12_downBy, Cond.static yX12_downBy]
def wz_j159_X12_window : List Cond := .code yX12_window cX12_window 4 (some .int) :: (wo_j159_X12_window ++ (wz_j160_X12_isWindow ++ (wz_j161_X12_sumOf ++ (wz_j162_X12_leastOf ++ (wz_j163_X12_mostOf ++ (wz_j155_X12_downBy ++ ([] : List Cond)))))))
theorem zg_j159_X12_window : ∀ w ∈ wz_j159_X12_window, goodWord w = true := zg_cons rfl (zg_app (by decide +kernel) (zg_app zg_j160_X12_isWindow (zg_app zg_j161_X12_sumOf (zg_app zg_j162_X12_leastOf (zg_app zg_j163_X12_mostOf (zg_app zg_j155_X12_downBy zg_nil))))))
theorem zi_j159_X12_window : ∀ w ∈ wz_j159_X12_window, w ∈ lw_tbl := zi_cons zw_1713 (zi_app (zi_cons zw_1714 (zi_cons zw_1716 (zi_cons zw_72 (zi_cons zw_115 (zi_cons zw_1718 (zi_cons zw_1719 (zi_cons zw_1721 (zi_cons zw_73 (zi_cons zw_1723 (zi_cons zw_1725 (zi_cons zw_74 (zi_cons zw_1727 (zi_cons zw_1729 (zi_cons zw_75 (zi_cons zw_1695 (zi_cons zw_1696 zi_nil)))))))))))))))) (zi_app zi_j160_X12_isWindow (zi_app zi_j161_X12_sumOf (zi_app zi_j162_X12_leastOf (zi_app zi_j163_X12_mostOf (zi_app zi_j155_X12_downBy zi_nil))))))
set_option maxHeartbeats 4000000 in
set_option maxRecDepth 100000 in
theorem j159_X12_window (l : Launch) (D : va_G) (zt : Nat × Nat × Nat × (Nat → Nat) × (Nat → Nat)) (r : Nat → Nat) (g : Nat → ClassId) (I : Nat → Int32) (A : Nat → Nat → Int32) (L : Nat → Nat → Int64) (z1 : Int32) (z2 : Int32) (z3 : Int32) (hIv : IvM I A) : GM l D zt (tyM g) yX12_window wz_j159_X12_window ({ frames := 1, cells := 0, slots := 0, locals := 24 } : Room) [.ref (r 0), .int z1, .int z2, .int z3] (wM r g I A L) (fun v _ w' => ∃ y0 : Int32, FE (fM12_window I A L z1 z2 z3) y0 ∧ v = some (.int y0) ∧ w' = wM r g I A L) 0 0 := by
  refine GM.of (cc := cX12_window) (maxL := 4) (ret := (some .int)) (own := RX12) (lv := [(0, .ref (r 0)), (1, .int z1), (2, .int z2), (3, .int z3)]) (by decide) rfl rfl (Nat.le_of_ble_eq_true rfl) rfl (fun κ sz hk hR hN => ?_)
  have hF : FE (fM12_window I A L z1 z2 z3) (fM12_window I A L z1 z2 z3) := FE.rf
  refine g_aload_n hk dX12_window_0 rfl ?_
  refine g_iload_n hk dX12_window_1 rfl ?_
  refine g_iload_n hk dX12_window_2 rfl ?_
  refine g_callV (n := 2) hk (j160_X12_isWindow l D zt r g I A L z1 z2 hIv) (SP.same _) (fun _ h => h) (gi_V (List.mem_cons_of_mem _ (List.mem_append_left _ (List.mem_of_getElem? (i := 0) rfl))) (List.mem_cons_of_mem _ (List.mem_append_left _ (List.mem_of_getElem? (i := 1) rfl))) (List.mem_cons_of_mem _ (List.mem_append_left _ (List.mem_of_getElem? (i := 2) rfl))) (List.mem_cons_of_mem _ (List.mem_append_left _ (List.mem_of_getElem? (i := 3) rfl))) (gi_sub (fun w h => (List.mem_cons_of_mem _ (List.mem_append_right _ (List.mem_append_left _ h)))) zg_j160_X12_isWindow)) rfl rfl rfl (by decide +kernel) ⟨Nat.le_of_ble_eq_true rfl, Nat.le_of_ble_eq_true rfl⟩ 0 rfl rfl rfl rfl (Nat.le_of_ble_eq_true rfl) ⟨Nat.le_of_ble_eq_true rfl, Nat.le_of_ble_eq_true rfl⟩ dX12_window_3 (fun v ty' w' hp hk' => ?_)
  rcases hp with ⟨hC, rfl, rfl⟩ | ⟨c28703, c28704, c28705, c28706, c28707, c28708, c28709, hC, rfl, rfl⟩
  · skip
    replace hF := FE.pos hF hC
    show GW κ 4 0 0 (wM r g I A L) 6 [(0, .ref (r 0)), (1, .int z1), (2, .int z2), (3, .int z3)] [.int 0]
    refine g_if_ne (tgt := 13) (a := 0) hk dX12_window_6 (by decide) rfl (fun z9 => absurd z9 (show ¬ ((0 : Int) ≠ (0 : Int)) from by decide)) (fun _ => ?_)
    refine g_ldcw (v := (-1000000)) hk (List.mem_cons_of_mem _ (List.mem_append_left _ (List.mem_of_getElem? (i := 4) rfl))) dX12_window_9 ?_
    exact g_iret hk hR rfl ⟨(-1000000), hF, rfl, rfl⟩ dX12_window_12
  · skip
    replace hF := FE.neg hF (fe_ne hC (by decide))
    show GW κ 4 0 0 (wM r g I A L) 6 [(0, .ref (r 0)), (1, .int z1), (2, .int z2), (3, .int z3)] [.int 1]
    refine g_if_ne (tgt := 13) (a := 1) hk dX12_window_6 (by decide) rfl (fun _ => ?_) (fun z9 => absurd (show (1 : Int) ≠ (0 : Int) from by decide) z9)
    refine g_iload_n hk dX12_window_13 rfl ?_
    by_cases c28711 : z3.toInt = 0
    · refine g_tabIn (tgt := 44) (a := 0) hk dX12_window_14 c28711 (by decide) (by decide) rfl (by decide) ?_
      replace hF := FE.pos hF c28711
      refine g_aload_n hk dX12_window_44 rfl ?_
      refine g_iload_n hk dX12_window_45 rfl ?_
      refine g_iload_n hk dX12_window_46 rfl ?_
      refine g_callV (n := 2) hk (j161_X12_sumOf l D zt r g I A L z1 z2 hIv (by omega) (by omega) (by omega) (by omega) (by omega)) (SP.same _) (fun _ h => h) (gi_V (List.mem_cons_of_mem _ (List.mem_append_left _ (List.mem_of_getElem? (i := 5) rfl))) (List.mem_cons_of_mem _ (List.mem_append_left _ (List.mem_of_getElem? (i := 6) rfl))) (List.mem_cons_of_mem _ (List.mem_append_left _ (List.mem_of_getElem? (i := 7) rfl))) (List.mem_cons_of_mem _ (List.mem_append_left _ (List.mem_of_getElem? (i := 3) rfl))) (gi_sub (fun w h => (List.mem_cons_of_mem _ (List.mem_append_right _ (List.mem_append_right _ (List.mem_append_left _ h))))) zg_j161_X12_sumOf)) rfl rfl rfl (by decide +kernel) ⟨Nat.le_of_ble_eq_true rfl, Nat.le_of_ble_eq_true rfl⟩ 0 rfl rfl rfl rfl (Nat.le_of_ble_eq_true rfl) ⟨Nat.le_of_ble_eq_true rfl, Nat.le_of_ble_eq_true rfl⟩ dX12_window_47 (fun v ty' w' hp hk' => ?_)
      obtain ⟨y28766, hC, rfl, rfl⟩ := hp
      replace hF := FE.lt hF (fe_s hC)
      show GW κ 4 0 0 (wM r g I A L) 50 [(0, .ref (r 0)), (1, .int z1), (2, .int z2), (3, .int z3)] [.int y28766]
      have b28767l := Int32.le_toInt y28766
      have b28767h := Int32.toInt_lt y28766
      exact g_iret hk hR rfl ⟨y28766, hF, rfl, rfl⟩ dX12_window_50
    replace hF := FE.neg hF c28711
    by_cases c28768 : z3.toInt = 1
    · refine g_tabIn (tgt := 51) (a := 1) hk dX12_window_14 c28768 (by decide) (by decide) rfl (by decide) ?_
      replace hF := FE.pos hF c28768
      refine g_aload_n hk dX12_window_51 rfl ?_
      refine g_iload_n hk dX12_window_52 rfl ?_
      refine g_iload_n hk dX12_window_53 rfl ?_
      refine g_callV (n := 2) hk (j162_X12_leastOf l D zt r g I A L z1 z2 hIv (by omega) (by omega) (by omega) (by omega) (by omega)) (SP.same _) (fun _ h => h) (gi_V (List.mem_cons_of_mem _ (List.mem_append_left _ (List.mem_of_getElem? (i := 8) rfl))) (List.mem_cons_of_mem _ (List.mem_append_left _ (List.mem_of_getElem? (i := 9) rfl))) (List.mem_cons_of_mem _ (List.mem_append_left _ (List.mem_of_getElem? (i := 10) rfl))) (List.mem_cons_of_mem _ (List.mem_append_left _ (List.mem_of_getElem? (i := 3) rfl))) (gi_sub (fun w h => (List.mem_cons_of_mem _ (List.mem_append_right _ (List.mem_append_right _ (List.mem_append_right _ (List.mem_append_left _ h)))))) zg_j162_X12_leastOf)) rfl rfl rfl (by decide +kernel) ⟨Nat.le_of_ble_eq_true rfl, Nat.le_of_ble_eq_true rfl⟩ 0 rfl rfl rfl rfl (Nat.le_of_ble_eq_true rfl) ⟨Nat.le_of_ble_eq_true rfl, Nat.le_of_ble_eq_true rfl⟩ dX12_window_54 (fun v ty' w' hp hk' => ?_)
      obtain ⟨y28835, hC, rfl, rfl⟩ := hp
      replace hF := FE.lt hF (fe_s hC)
      show GW κ 4 0 0 (wM r g I A L) 57 [(0, .ref (r 0)), (1, .int z1), (2, .int z2), (3, .int z3)] [.int y28835]
      have b28836l := Int32.le_toInt y28835
      have b28836h := Int32.toInt_lt y28835
      exact g_iret hk hR rfl ⟨y28835, hF, rfl, rfl⟩ dX12_window_57
    replace hF := FE.neg hF c28768
    by_cases c28837 : z3.toInt = 2
    · refine g_tabIn (tgt := 58) (a := 2) hk dX12_window_14 c28837 (by decide) (by decide) rfl (by decide) ?_
      replace hF := FE.pos hF c28837
      refine g_aload_n hk dX12_window_58 rfl ?_
      refine g_iload_n hk dX12_window_59 rfl ?_
      refine g_iload_n hk dX12_window_60 rfl ?_
      refine g_callV (n := 2) hk (j163_X12_mostOf l D zt r g I A L z1 z2 hIv (by omega) (by omega) (by omega) (by omega) (by omega)) (SP.same _) (fun _ h => h) (gi_V (List.mem_cons_of_mem _ (List.mem_append_left _ (List.mem_of_getElem? (i := 11) rfl))) (List.mem_cons_of_mem _ (List.mem_append_left _ (List.mem_of_getElem? (i := 12) rfl))) (List.mem_cons_of_mem _ (List.mem_append_left _ (List.mem_of_getElem? (i := 13) rfl))) (List.mem_cons_of_mem _ (List.mem_append_left _ (List.mem_of_getElem? (i := 3) rfl))) (gi_sub (fun w h => (List.mem_cons_of_mem _ (List.mem_append_right _ (List.mem_append_right _ (List.mem_append_right _ (List.mem_append_right _ (List.mem_append_left _ h))))))) zg_j163_X12_mostOf)) rfl rfl rfl (by decide +kernel) ⟨Nat.le_of_ble_eq_true rfl, Nat.le_of_ble_eq_true rfl⟩ 0 rfl rfl rfl rfl (Nat.le_of_ble_eq_true rfl) ⟨Nat.le_of_ble_eq_true rfl, Nat.le_of_ble_eq_true rfl⟩ dX12_window_61 (fun v ty' w' hp hk' => ?_)
      obtain ⟨y28904, hC, rfl, rfl⟩ := hp
      replace hF := FE.lt hF (fe_s hC)
      show GW κ 4 0 0 (wM r g I A L) 64 [(0, .ref (r 0)), (1, .int z1), (2, .int z2), (3, .int z3)] [.int y28904]
      have b28905l := Int32.le_toInt y28904
      have b28905h := Int32.toInt_lt y28904
      exact g_iret hk hR rfl ⟨y28904, hF, rfl, rfl⟩ dX12_window_64
    replace hF := FE.neg hF c28837
    by_cases c28906 : z3.toInt = 3
    · refine g_tabIn (tgt := 65) (a := 3) hk dX12_window_14 c28906 (by decide) (by decide) rfl (by decide) ?_
      replace hF := FE.pos hF c28906
      refine g_aload_n hk dX12_window_65 rfl ?_
      refine g_iload_n hk dX12_window_66 rfl ?_
      refine g_iload_n hk dX12_window_67 rfl ?_
      refine g_callV (n := 2) hk (j161_X12_sumOf l D zt r g I A L z1 z2 hIv (by omega) (by omega) (by omega) (by omega) (by omega)) (SP.same _) (fun _ h => h) (gi_V (List.mem_cons_of_mem _ (List.mem_append_left _ (List.mem_of_getElem? (i := 5) rfl))) (List.mem_cons_of_mem _ (List.mem_append_left _ (List.mem_of_getElem? (i := 6) rfl))) (List.mem_cons_of_mem _ (List.mem_append_left _ (List.mem_of_getElem? (i := 7) rfl))) (List.mem_cons_of_mem _ (List.mem_append_left _ (List.mem_of_getElem? (i := 3) rfl))) (gi_sub (fun w h => (List.mem_cons_of_mem _ (List.mem_append_right _ (List.mem_append_right _ (List.mem_append_left _ h))))) zg_j161_X12_sumOf)) rfl rfl rfl (by decide +kernel) ⟨Nat.le_of_ble_eq_true rfl, Nat.le_of_ble_eq_true rfl⟩ 0 rfl rfl rfl rfl (Nat.le_of_ble_eq_true rfl) ⟨Nat.le_of_ble_eq_true rfl, Nat.le_of_ble_eq_true rfl⟩ dX12_window_68 (fun v ty' w' hp hk' => ?_)
      obtain ⟨y28907, hC, rfl, rfl⟩ := hp
      replace hF := FE.lt hF (fe_s hC)
      show GW κ 4 0 0 (wM r g I A L) 71 [(0, .ref (r 0)), (1, .int z1), (2, .int z2), (3, .int z3)] [.int y28907]
      refine g_iload_n hk dX12_window_71 rfl ?_
      refine g_callS (n := 2) hk (j155_X12_downBy l D zt r g I A L y28907 z2 hIv (by omega)) (SP.same _) (fun _ h => h) (gi_S (List.mem_cons_of_mem _ (List.mem_append_left _ (List.mem_of_getElem? (i := 14) rfl))) (List.mem_cons_of_mem _ (List.mem_append_left _ (List.mem_of_getElem? (i := 15) rfl))) (List.mem_cons_of_mem _ (List.mem_append_left _ (List.mem_of_getElem? (i := 3) rfl))) (gi_sub (fun w h => (List.mem_cons_of_mem _ (List.mem_append_right _ (List.mem_append_right _ (List.mem_append_right _ (List.mem_append_right _ (List.mem_append_right _ (List.mem_append_left _ h)))))))) zg_j155_X12_downBy)) rfl rfl rfl (by decide +kernel) ⟨Nat.le_of_ble_eq_true rfl, Nat.le_of_ble_eq_true rfl⟩ rfl rfl (Nat.le_of_ble_eq_true rfl) ⟨Nat.le_of_ble_eq_true rfl, Nat.le_of_ble_eq_true rfl⟩ dX12_window_72 (fun v ty' w' hp hk' => ?_)
      obtain ⟨y28908, hC, rfl, rfl⟩ := hp
      replace hF := FE.lt hF (fe_s hC)
      show GW κ 4 0 0 (wM r g I A L) 75 [(0, .ref (r 0)), (1, .int z1), (2, .int z2), (3, .int z3)] [.int y28908]
      have b28909l := Int32.le_toInt y28908
      have b28909h := Int32.toInt_lt y28908
      exact g_iret hk hR rfl ⟨y28908, hF, rfl, rfl⟩ dX12_window_75
    replace hF := FE.neg hF c28906
    refine g_tabOut (tgt := 76) (a := z3.toInt) hk dX12_window_14 rfl (by omega) (by decide) ?_
    refine g_ldcw (v := (-1000000)) hk (List.mem_cons_of_mem _ (List.mem_append_left _ (List.mem_of_getElem? (i := 4) rfl))) dX12_window_76 ?_
    exact g_iret hk hR rfl ⟨(-1000000), hF, rfl, rfl⟩ dX12_window_79
noncomputable def bM12_levelsFirst_100 (z1 : Int32) (A : Nat → Nat → Int32) (y29548 : Int32) (x28951 : Int32) (x28952 : Int32) : (Int32 → (Nat → Int32) → (Nat → Nat → Int32) → (Nat → Nat → Int64) → (Int32 × (Nat → Int32) × (Nat → Nat → Int32) × (Nat → Nat → Int64))) → Int32 → (Nat → Int32) → (Nat → Nat → Int32) → (Nat → Nat → Int64) → (Int32 × (Nat → Int32) × (Nat → Nat → Int32) × (Nat → Nat → Int64)) := fun kk29661 x29549 I29557 A29557 L29557 => if z1.toInt ≤ x29549.toInt then (0, I29557, A29557, L29557) else if (A 18 162).toInt = 0 then f_lt (x29549 + Int32.ofInt 1) fun y29665 => kk29661 y29665 I29557 A29557 L29557 else if (A 18 162).toInt = 1 then f_lt ((A29557 19 x29549.toNatClampNeg) - y29548) fun y29669 => f_lt (x29549 + Int32.ofInt 1) fun y29670 => kk29661 y29670 I29557 (up3 A29557 19 (x29549.toNatClampNeg) y29669) L29557 else if (A 18 162).toInt = 2 then f_lt ((A29557 19 x29549.toNatClampNeg) - (A 19 0)) fun y29674 => f_lt (x29549 + Int32.ofInt 1) fun y29675 => kk29661 y29675 I29557 (up3 A29557 19 (x29549.toNatClampNeg) y29674) L29557 else if x28951.toInt ≠ x28952.toInt then f_lt ((A29557 19 x29549.toNatClampNeg) - x28952) fun y29680 => f_lt ((1000 : Int32) * y29680) fun y29682 => f_lt (x28951 - x28952) fun y29683 => f_lt (y29682 / y29683) fun y29685 => f_lt (x29549 + Int32.ofInt 1) fun y29686 => kk29661 y29686 I29557 (up3 A29557 19 (x29549.toNatClampNeg) y29685) L29557 else f_lt (x29549 + Int32.ofInt 1) fun y29688 => kk29661 y29688 I29557 (up3 A29557 19 (x29549.toNatClampNeg) 0) L29557
noncomputable def bM12_levelsFirst_28 (z1 : Int32) (I : Nat → Int32) (A : Nat → Nat → Int32) (L : Nat → Nat → Int64) : (Int32 → Int32 → Int32 → Int32 → (Int32 × (Nat → Int32) × (Nat → Nat → Int32) × (Nat → Nat → Int64))) → Int32 → Int32 → Int32 → Int32 → (Int32 × (Nat → Int32) × (Nat → Nat → Int32) × (Nat → Nat → Int64)) := fun kk29545 x28949 x28951 x28952 x28953 => if z1.toInt ≤ x28949.toInt then f_lt (fM12_downBy I A L x28953 z1) fun y29548 => itr_iIAL dfM (bM12_levelsFirst_100 z1 A y29548 x28951 x28952) FU 0 I A L else f_lt (x28953 + (A 19 x28949.toNatClampNeg)) fun y29695 => if x28952.toInt ≤ (A 19 x28949.toNatClampNeg).toInt then if (A 19 x28949.toNatClampNeg).toInt ≤ x28951.toInt then f_lt (x28949 + Int32.ofInt 1) fun y29700 => kk29545 y29700 x28951 x28952 y29695 else f_lt (x28949 + Int32.ofInt 1) fun y29702 => kk29545 y29702 (A 19 x28949.toNatClampNeg) x28952 y29695 else if (A 19 x28949.toNatClampNeg).toInt ≤ x28951.toInt then f_lt (x28949 + Int32.ofInt 1) fun y29706 => kk29545 y29706 x28951 (A 19 x28949.toNatClampNeg) y29695 else f_lt (x28949 + Int32.ofInt 1) fun y29708 => kk29545 y29708 (A 19 x28949.toNatClampNeg) (A 19 x28949.toNatClampNeg) y29695
noncomputable def fM12_levelsFirst (I : Nat → Int32) (A : Nat → Nat → Int32) (L : Nat → Nat → Int64) (z1 : Int32) : Int32 × (Nat → Int32) × (Nat → Nat → Int32) × (Nat → Nat → Int64) := itr_iiii dfM (bM12_levelsFirst_28 z1 I A L) FU 0 (A 19 0) (A 19 0) 0
def wo_j166_X12_levelsFirst : List Cond := [Cond.fieldLink RX12 76 "WarpDeskModel" "firstAt" "[I", Cond.methodLink RX12 261 yX12_downBy, Cond.static yX12_downBy, Cond.initialized RX12, Cond.fieldLink RX12 73 "WarpDeskModel" "row" "[I"]
def wz_j166_X12_levelsFirst : List Cond := .code yX12_levelsFirst cX12_levelsFirst 8 none :: (wo_j166_X12_levelsFirst ++ (wsX120 ++ (wz_j155_X12_downBy ++ ([] : List Cond))))
theorem zg_j166_X12_levelsFirst : ∀ w ∈ wz_j166_X12_levelsFirst, goodWord w = true := zg_cons rfl (zg_app (by decide +kernel) (zg_app zgU_wsX120 (zg_app zg_j155_X12_downBy zg_nil)))
theorem zi_j166_X12_levelsFirst : ∀ w ∈ wz_j166_X12_levelsFirst, w ∈ lw_tbl := zi_cons zw_1742 (zi_app (zi_cons zw_1416 (zi_cons zw_1695 (zi_cons zw_1696 (zi_cons zw_115 (zi_cons zw_1414 zi_nil))))) (zi_app inX12 (zi_app zi_j155_X12_downBy zi_nil)))
set_option maxHeartbeats 4000000 in
set_option maxRecDepth 100000 in
theorem j166_X12_levelsFirst (l : Launch) (D : va_G) (zt : Nat × Nat × Nat × (Nat → Nat) × (Nat → Nat)) (r : Nat → Nat) (g : Nat → ClassId) (I : Nat → Int32) (A : Nat → Nat → Int32) (L : Nat → Nat → Int64) (z1 : Int32) (hIv : IvM I A) (hp0 : 1 ≤ z1.toInt) (hp1 : z1.toInt ≤ 16) : GM l D zt (tyM g) yX12_levelsFirst wz_j166_X12_levelsFirst ({ frames := 1, cells := 0, slots := 0, locals := 22 } : Room) [.ref (r 0), .int z1] (wM r g I A L) (fun v _ w' => ∃ (I' : Nat → Int32) (A' : Nat → Nat → Int32) (L' : Nat → Nat → Int64), Md [] I I' ∧ Md [19] A A' ∧ IvM I' A' ∧ (L' = L) ∧ FE (fM12_levelsFirst I A L z1) (0, I', A', L') ∧ v = none ∧ w' = wM r g I' A' L') 0 0 := by
  refine GM.of (cc := cX12_levelsFirst) (maxL := 8) (ret := none) (own := RX12) (lv := [(0, .ref (r 0)), (1, .int z1)]) (by decide) rfl rfl (Nat.le_of_ble_eq_true rfl) rfl (fun κ sz hk hR hN => ?_)
  have hin12 : ∀ w ∈ u_ws RX12 TX12 55, w ∈ wz_j166_X12_levelsFirst := fun w h => (List.mem_cons_of_mem _ (List.mem_append_right _ (List.mem_append_left _ h)))
  have hF : FE (fM12_levelsFirst I A L z1) (fM12_levelsFirst I A L z1) := FE.rf
  refine g_iconst (v := 0) hk dX12_levelsFirst_0 (by decide) ?_
  refine g_istore_n (lv' := [(2, .int 0), (0, .ref (r 0)), (1, .int z1)]) hk dX12_levelsFirst_1 (by decide) rfl ?_
  refine g_aload_n hk dX12_levelsFirst_2 rfl ?_
  refine gM_r0_38 hk hin12 (List.mem_cons_of_mem _ (List.mem_append_left _ (List.mem_of_getElem? (i := 0) rfl))) dX12_levelsFirst_3 ?_
  refine g_iconst (v := 0) hk dX12_levelsFirst_6 (by decide) ?_
  refine lM_19 (v := (A 19 0)) hk (vp_in_iff.mpr ⟨by decide, by decide⟩) rfl dX12_levelsFirst_7 ?_
  refine g_istore_n (lv' := [(3, .int (A 19 0)), (2, .int 0), (0, .ref (r 0)), (1, .int z1)]) hk dX12_levelsFirst_8 (by decide) rfl ?_
  refine g_aload_n hk dX12_levelsFirst_9 rfl ?_
  refine gM_r0_38 hk hin12 (List.mem_cons_of_mem _ (List.mem_append_left _ (List.mem_of_getElem? (i := 0) rfl))) dX12_levelsFirst_10 ?_
  refine g_iconst (v := 0) hk dX12_levelsFirst_13 (by decide) ?_
  refine lM_19 (v := (A 19 0)) hk (vp_in_iff.mpr ⟨by decide, by decide⟩) rfl dX12_levelsFirst_14 ?_
  refine g_istore (lv' := [(4, .int (A 19 0)), (3, .int (A 19 0)), (2, .int 0), (0, .ref (r 0)), (1, .int z1)]) hk dX12_levelsFirst_15 (by decide) rfl ?_
  refine g_aload_n hk dX12_levelsFirst_17 rfl ?_
  refine gM_r0_38 hk hin12 (List.mem_cons_of_mem _ (List.mem_append_left _ (List.mem_of_getElem? (i := 0) rfl))) dX12_levelsFirst_18 ?_
  refine g_iconst (v := 0) hk dX12_levelsFirst_21 (by decide) ?_
  refine lM_19 (v := (A 19 0)) hk (vp_in_iff.mpr ⟨by decide, by decide⟩) rfl dX12_levelsFirst_22 ?_
  refine g_istore (lv' := [(5, .int (A 19 0)), (4, .int (A 19 0)), (3, .int (A 19 0)), (2, .int 0), (0, .ref (r 0)), (1, .int z1)]) hk dX12_levelsFirst_23 (by decide) rfl ?_
  refine g_iconst (v := 0) hk dX12_levelsFirst_25 (by decide) ?_
  refine g_istore (lv' := [(6, .int 0), (5, .int (A 19 0)), (4, .int (A 19 0)), (3, .int (A 19 0)), (2, .int 0), (0, .ref (r 0)), (1, .int z1)]) hk dX12_levelsFirst_26 (by decide) rfl ?_
  have lp29542 : ∀ (n29543 : Nat) (x28949 : Int32) (x28951 : Int32) (x28952 : Int32) (x28953 : Int32), (0 ≤ x28949.toInt) → (x28949.toInt ≤ 16) → (17 - x28949.toInt < (n29543 : Int)) → (0 < n29543) → (FE (fM12_levelsFirst I A L z1) (itr_iiii dfM (bM12_levelsFirst_28 z1 I A L) n29543 x28949 x28951 x28952 x28953)) → GW κ 8 0 0 (wM r g I A L) 28 [(6, .int x28949), (5, .int (A 19 0)), (4, .int x28951), (3, .int x28952), (2, .int x28953), (0, .ref (r 0)), (1, .int z1)] [] := by
    intro n29543
    induction n29543 with
    | zero =>
      intro x28949 x28951 x28952 x28953 h29540 h29541 m29544 m29544z hF
      exact absurd m29544z (Nat.lt_irrefl 0)
    | succ n29543 ih29546 =>
      intro x28949 x28951 x28952 x28953 h29540 h29541 m29544 m29544z hF
      replace hF := FE.itr_iiii hF
      refine g_iload hk dX12_levelsFirst_28 rfl ?_
      refine g_iload_n hk dX12_levelsFirst_30 rfl ?_
      refine g_icmp_ge (tgt := 90) (a := x28949.toInt) (b := z1.toInt) hk dX12_levelsFirst_31 (by decide) rfl rfl (fun c29547 => ?_) (fun c29547 => ?_)
      · skip
        replace hF := FE.pos hF c29547
        refine g_iload_n hk dX12_levelsFirst_90 rfl ?_
        refine g_iload_n hk dX12_levelsFirst_91 rfl ?_
        refine g_callS (n := 2) hk (j155_X12_downBy l D zt r g I A L x28953 z1 hIv (by omega)) (SP.same _) (fun _ h => h) (gi_S (List.mem_cons_of_mem _ (List.mem_append_left _ (List.mem_of_getElem? (i := 1) rfl))) (List.mem_cons_of_mem _ (List.mem_append_left _ (List.mem_of_getElem? (i := 2) rfl))) (List.mem_cons_of_mem _ (List.mem_append_left _ (List.mem_of_getElem? (i := 3) rfl))) (gi_sub (fun w h => (List.mem_cons_of_mem _ (List.mem_append_right _ (List.mem_append_right _ (List.mem_append_left _ h))))) zg_j155_X12_downBy)) rfl rfl rfl (by decide +kernel) ⟨Nat.le_of_ble_eq_true rfl, Nat.le_of_ble_eq_true rfl⟩ rfl rfl (Nat.le_of_ble_eq_true rfl) ⟨Nat.le_of_ble_eq_true rfl, Nat.le_of_ble_eq_true rfl⟩ dX12_levelsFirst_92 (fun v ty' w' hp hk' => ?_)
        obtain ⟨y29548, hC, rfl, rfl⟩ := hp
        replace hF := FE.lt hF (fe_s hC)
        show GW κ 8 0 0 (wM r g I A L) 95 [(6, .int x28949), (5, .int (A 19 0)), (4, .int x28951), (3, .int x28952), (2, .int x28953), (0, .ref (r 0)), (1, .int z1)] [.int y29548]
        refine g_istore (lv' := [(6, .int y29548), (5, .int (A 19 0)), (4, .int x28951), (3, .int x28952), (2, .int x28953), (0, .ref (r 0)), (1, .int z1)]) hk dX12_levelsFirst_95 (by decide) rfl ?_
        refine g_iconst (v := 0) hk dX12_levelsFirst_97 (by decide) ?_
        refine g_istore (lv' := [(7, .int 0), (6, .int y29548), (5, .int (A 19 0)), (4, .int x28951), (3, .int x28952), (2, .int x28953), (0, .ref (r 0)), (1, .int z1)]) hk dX12_levelsFirst_98 (by decide) rfl ?_
        have lp29658 : ∀ (n29659 : Nat) (x29549 : Int32) (I29557 : Nat → Int32) (A29557 : Nat → Nat → Int32) (L29557 : Nat → Nat → Int64), (Md [] I I29557) → (Md [19] A A29557) → (IvM I29557 A29557) → (L29557 = L) → (0 ≤ x29549.toInt) → (x29549.toInt ≤ 16) → (17 - x29549.toInt < (n29659 : Int)) → (0 < n29659) → (FE (fM12_levelsFirst I A L z1) (itr_iIAL dfM (bM12_levelsFirst_100 z1 A y29548 x28951 x28952) n29659 x29549 I29557 A29557 L29557)) → GW κ 8 0 0 (wM r g I29557 A29557 L29557) 100 [(7, .int x29549), (6, .int y29548), (5, .int (A 19 0)), (4, .int x28951), (3, .int x28952), (2, .int x28953), (0, .ref (r 0)), (1, .int z1)] [] := by
          intro n29659
          induction n29659 with
          | zero =>
            intro x29549 I29557 A29557 L29557 hI29557 hA29557 hV29557 hL29557 h29656 h29657 m29660 m29660z hF
            exact absurd m29660z (Nat.lt_irrefl 0)
          | succ n29659 ih29662 =>
            intro x29549 I29557 A29557 L29557 hI29557 hA29557 hV29557 hL29557 h29656 h29657 m29660 m29660z hF
            replace hF := FE.itr_iIAL hF
            refine g_iload hk dX12_levelsFirst_100 rfl ?_
            refine g_iload_n hk dX12_levelsFirst_102 rfl ?_
            refine g_icmp_ge (tgt := 214) (a := x29549.toInt) (b := z1.toInt) hk dX12_levelsFirst_103 (by decide) rfl rfl (fun c29663 => ?_) (fun c29663 => ?_)
            · skip
              replace hF := FE.pos hF c29663
              exact g_vret hk hR ⟨I29557, A29557, L29557, (show Md [] I I29557 from (Md.tr Md.rf hI29557 rfl)), (show Md [19] A A29557 from (Md.tr Md.rf hA29557 rfl)), hV29557, (show L29557 = L from hL29557), hF, rfl, rfl⟩ dX12_levelsFirst_214
            · skip
              replace hF := FE.neg hF c29663
              refine g_aload_n hk dX12_levelsFirst_106 rfl ?_
              refine gM_r0_36 hk hin12 (List.mem_cons_of_mem _ (List.mem_append_left _ (List.mem_of_getElem? (i := 4) rfl))) dX12_levelsFirst_107 ?_
              refine g_sipush (v := 162) hk dX12_levelsFirst_110 (by decide) ?_
              refine lM_18 (v := (A 18 162)) hk (vp_in_iff.mpr ⟨by decide, by decide⟩) (congrFun (hA29557 18 rfl) _) dX12_levelsFirst_113 ?_
              by_cases c29664 : (A 18 162).toInt = 0
              · refine g_tabIn (tgt := 140) (a := 0) hk dX12_levelsFirst_114 c29664 (by decide) (by decide) rfl (by decide) ?_
                replace hF := FE.pos hF c29664
                refine g_goto (tgt := 208) hk dX12_levelsFirst_140 (by decide) ?_
                obtain ⟨y29665, ey29665⟩ : ∃ y : Int32, y = x29549 + Int32.ofInt 1 := ⟨_, rfl⟩
                replace hF := FE.lt hF ey29665
                have hy29665 : y29665.toInt = x29549.toInt + 1 := i32_add ey29665 rfl (by decide) (by omega) (by omega)
                refine g_iinc (v := y29665) (lv' := [(7, .int y29665), (6, .int y29548), (5, .int (A 19 0)), (4, .int x28951), (3, .int x28952), (2, .int x28953), (0, .ref (r 0)), (1, .int z1)]) hk 0 dX12_levelsFirst_208 rfl ey29665.symm (by decide) rfl ?_
                refine g_goto (tgt := 100) hk dX12_levelsFirst_211 (by decide) ?_
                exact g_lv (List.forall_mem_cons.mpr ⟨List.mem_of_getElem? (i := 0) rfl, (List.forall_mem_cons.mpr ⟨List.mem_of_getElem? (i := 1) rfl, (List.forall_mem_cons.mpr ⟨List.mem_of_getElem? (i := 2) rfl, (List.forall_mem_cons.mpr ⟨List.mem_of_getElem? (i := 3) rfl, (List.forall_mem_cons.mpr ⟨List.mem_of_getElem? (i := 4) rfl, (List.forall_mem_cons.mpr ⟨List.mem_of_getElem? (i := 5) rfl, (List.forall_mem_cons.mpr ⟨List.mem_of_getElem? (i := 6) rfl, (List.forall_mem_cons.mpr ⟨List.mem_of_getElem? (i := 7) rfl, (fun _ h => absurd h List.not_mem_nil)⟩)⟩)⟩)⟩)⟩)⟩)⟩)⟩) (ih29662 y29665 I29557 A29557 L29557 (show Md [] I I29557 from Md.tr hI29557 (show Md [] I29557 I29557 from Md.rf) rfl) (show Md [19] A A29557 from Md.tr hA29557 (show Md [19] A29557 A29557 from Md.rf) rfl) hV29557 (show L29557 = L from hL29557) (by omega) (by omega) (by omega) (by omega) hF)
              replace hF := FE.neg hF c29664
              by_cases c29666 : (A 18 162).toInt = 1
              · refine g_tabIn (tgt := 143) (a := 1) hk dX12_levelsFirst_114 c29666 (by decide) (by decide) rfl (by decide) ?_
                replace hF := FE.pos hF c29666
                refine g_aload_n hk dX12_levelsFirst_143 rfl ?_
                refine gM_r0_38 hk hin12 (List.mem_cons_of_mem _ (List.mem_append_left _ (List.mem_of_getElem? (i := 0) rfl))) dX12_levelsFirst_144 ?_
                refine g_iload hk dX12_levelsFirst_147 rfl ?_
                refine g_dup2 hk dX12_levelsFirst_149 rfl rfl ?_
                refine lM_19 (v := (A29557 19 x29549.toNatClampNeg)) hk (vp_in_iff.mpr ⟨by omega, by omega⟩) rfl dX12_levelsFirst_150 ?_
                refine g_iload hk dX12_levelsFirst_151 rfl ?_
                have b29667l := Int32.le_toInt (A29557 19 x29549.toNatClampNeg)
                have b29667h := Int32.toInt_lt (A29557 19 x29549.toNatClampNeg)
                have b29668l := Int32.le_toInt y29548
                have b29668h := Int32.toInt_lt y29548
                refine g_isub hk dX12_levelsFirst_153 ?_
                refine g_topi (fun y29669 ey29669 => ?_)
                replace hF := FE.lt hF ey29669
                have hy29669 := i32_sub0 ey29669
                refine sM_19 (j := x29549.toNatClampNeg) hk (vp_in_iff.mpr ⟨by omega, by omega⟩) rfl dX12_levelsFirst_154 ?_
                refine g_goto (tgt := 208) hk dX12_levelsFirst_155 (by decide) ?_
                obtain ⟨y29670, ey29670⟩ : ∃ y : Int32, y = x29549 + Int32.ofInt 1 := ⟨_, rfl⟩
                replace hF := FE.lt hF ey29670
                have hy29670 : y29670.toInt = x29549.toInt + 1 := i32_add ey29670 rfl (by decide) (by omega) (by omega)
                refine g_iinc (v := y29670) (lv' := [(7, .int y29670), (6, .int y29548), (5, .int (A 19 0)), (4, .int x28951), (3, .int x28952), (2, .int x28953), (0, .ref (r 0)), (1, .int z1)]) hk 0 dX12_levelsFirst_208 rfl ey29670.symm (by decide) rfl ?_
                refine g_goto (tgt := 100) hk dX12_levelsFirst_211 (by decide) ?_
                exact g_lv (List.forall_mem_cons.mpr ⟨List.mem_of_getElem? (i := 0) rfl, (List.forall_mem_cons.mpr ⟨List.mem_of_getElem? (i := 1) rfl, (List.forall_mem_cons.mpr ⟨List.mem_of_getElem? (i := 2) rfl, (List.forall_mem_cons.mpr ⟨List.mem_of_getElem? (i := 3) rfl, (List.forall_mem_cons.mpr ⟨List.mem_of_getElem? (i := 4) rfl, (List.forall_mem_cons.mpr ⟨List.mem_of_getElem? (i := 5) rfl, (List.forall_mem_cons.mpr ⟨List.mem_of_getElem? (i := 6) rfl, (List.forall_mem_cons.mpr ⟨List.mem_of_getElem? (i := 7) rfl, (fun _ h => absurd h List.not_mem_nil)⟩)⟩)⟩)⟩)⟩)⟩)⟩)⟩) (ih29662 y29670 I29557 (up3 A29557 19 (x29549.toNatClampNeg) y29669) L29557 (show Md [] I I29557 from Md.tr hI29557 (show Md [] I29557 I29557 from Md.rf) rfl) (show Md [19] A (up3 A29557 19 (x29549.toNatClampNeg) y29669) from Md.tr hA29557 (show Md [19] A29557 (up3 A29557 19 (x29549.toNatClampNeg) y29669) from (Md.up3 Md.rf rfl)) rfl) ⟨(IvM_f1 (I := I29557) (A := A29557) hV29557), (IvM_f2 (I := I29557) (A := A29557) hV29557), (IvM_f3 (I := I29557) (A := A29557) hV29557), (IvM_f4 (I := I29557) (A := A29557) hV29557), (IvM_f6 (I := I29557) (A := A29557) hV29557), (IvM_f8 (I := I29557) (A := A29557) hV29557), (IvM_f15 (I := I29557) (A := A29557) hV29557), (IvM_f16 (I := I29557) (A := A29557) hV29557), (IvM_f17 (I := I29557) (A := A29557) hV29557), (IvM_f18 (I := I29557) (A := A29557) hV29557), (IvM_f22 (I := I29557) (A := A29557) hV29557), (IvM_f23 (I := I29557) (A := A29557) hV29557), (IvM_f24 (I := I29557) (A := A29557) hV29557), (IvM_a11 (I := I29557) (A := A29557) hV29557), (IvM_a26 (I := I29557) (A := A29557) hV29557), (IvM_s8_0 (I := I29557) (A := A29557) hV29557), (IvM_s8_1 (I := I29557) (A := A29557) hV29557), (IvM_s10_0 (I := I29557) (A := A29557) hV29557), (IvM_s10_1 (I := I29557) (A := A29557) hV29557), (IvM_s17_0 (I := I29557) (A := A29557) hV29557), (IvM_s17_164 (I := I29557) (A := A29557) hV29557), (IvM_lv (I := I29557) (A := A29557) hV29557), (IvM_sd (I := I29557) (A := A29557) hV29557), (IvM_nq (I := I29557) (A := A29557) hV29557), (IvM_hr (I := I29557) (A := A29557) hV29557), (IvM_hh (I := I29557) (A := A29557) hV29557), trivial⟩ (show L29557 = L from hL29557) (by omega) (by omega) (by omega) (by omega) hF)
              replace hF := FE.neg hF c29666
              by_cases c29671 : (A 18 162).toInt = 2
              · refine g_tabIn (tgt := 158) (a := 2) hk dX12_levelsFirst_114 c29671 (by decide) (by decide) rfl (by decide) ?_
                replace hF := FE.pos hF c29671
                refine g_aload_n hk dX12_levelsFirst_158 rfl ?_
                refine gM_r0_38 hk hin12 (List.mem_cons_of_mem _ (List.mem_append_left _ (List.mem_of_getElem? (i := 0) rfl))) dX12_levelsFirst_159 ?_
                refine g_iload hk dX12_levelsFirst_162 rfl ?_
                refine g_dup2 hk dX12_levelsFirst_164 rfl rfl ?_
                refine lM_19 (v := (A29557 19 x29549.toNatClampNeg)) hk (vp_in_iff.mpr ⟨by omega, by omega⟩) rfl dX12_levelsFirst_165 ?_
                refine g_iload hk dX12_levelsFirst_166 rfl ?_
                have b29672l := Int32.le_toInt (A29557 19 x29549.toNatClampNeg)
                have b29672h := Int32.toInt_lt (A29557 19 x29549.toNatClampNeg)
                have b29673l := Int32.le_toInt (A 19 0)
                have b29673h := Int32.toInt_lt (A 19 0)
                refine g_isub hk dX12_levelsFirst_168 ?_
                refine g_topi (fun y29674 ey29674 => ?_)
                replace hF := FE.lt hF ey29674
                have hy29674 := i32_sub0 ey29674
                refine sM_19 (j := x29549.toNatClampNeg) hk (vp_in_iff.mpr ⟨by omega, by omega⟩) rfl dX12_levelsFirst_169 ?_
                refine g_goto (tgt := 208) hk dX12_levelsFirst_170 (by decide) ?_
                obtain ⟨y29675, ey29675⟩ : ∃ y : Int32, y = x29549 + Int32.ofInt 1 := ⟨_, rfl⟩
                replace hF := FE.lt hF ey29675
                have hy29675 : y29675.toInt = x29549.toInt + 1 := i32_add ey29675 rfl (by decide) (by omega) (by omega)
                refine g_iinc (v := y29675) (lv' := [(7, .int y29675), (6, .int y29548), (5, .int (A 19 0)), (4, .int x28951), (3, .int x28952), (2, .int x28953), (0, .ref (r 0)), (1, .int z1)]) hk 0 dX12_levelsFirst_208 rfl ey29675.symm (by decide) rfl ?_
                refine g_goto (tgt := 100) hk dX12_levelsFirst_211 (by decide) ?_
                exact g_lv (List.forall_mem_cons.mpr ⟨List.mem_of_getElem? (i := 0) rfl, (List.forall_mem_cons.mpr ⟨List.mem_of_getElem? (i := 1) rfl, (List.forall_mem_cons.mpr ⟨List.mem_of_getElem? (i := 2) rfl, (List.forall_mem_cons.mpr ⟨List.mem_of_getElem? (i := 3) rfl, (List.forall_mem_cons.mpr ⟨List.mem_of_getElem? (i := 4) rfl, (List.forall_mem_cons.mpr ⟨List.mem_of_getElem? (i := 5) rfl, (List.forall_mem_cons.mpr ⟨List.mem_of_getElem? (i := 6) rfl, (List.forall_mem_cons.mpr ⟨List.mem_of_getElem? (i := 7) rfl, (fun _ h => absurd h List.not_mem_nil)⟩)⟩)⟩)⟩)⟩)⟩)⟩)⟩) (ih29662 y29675 I29557 (up3 A29557 19 (x29549.toNatClampNeg) y29674) L29557 (show Md [] I I29557 from Md.tr hI29557 (show Md [] I29557 I29557 from Md.rf) rfl) (show Md [19] A (up3 A29557 19 (x29549.toNatClampNeg) y29674) from Md.tr hA29557 (show Md [19] A29557 (up3 A29557 19 (x29549.toNatClampNeg) y29674) from (Md.up3 Md.rf rfl)) rfl) ⟨(IvM_f1 (I := I29557) (A := A29557) hV29557), (IvM_f2 (I := I29557) (A := A29557) hV29557), (IvM_f3 (I := I29557) (A := A29557) hV29557), (IvM_f4 (I := I29557) (A := A29557) hV29557), (IvM_f6 (I := I29557) (A := A29557) hV29557), (IvM_f8 (I := I29557) (A := A29557) hV29557), (IvM_f15 (I := I29557) (A := A29557) hV29557), (IvM_f16 (I := I29557) (A := A29557) hV29557), (IvM_f17 (I := I29557) (A := A29557) hV29557), (IvM_f18 (I := I29557) (A := A29557) hV29557), (IvM_f22 (I := I29557) (A := A29557) hV29557), (IvM_f23 (I := I29557) (A := A29557) hV29557), (IvM_f24 (I := I29557) (A := A29557) hV29557), (IvM_a11 (I := I29557) (A := A29557) hV29557), (IvM_a26 (I := I29557) (A := A29557) hV29557), (IvM_s8_0 (I := I29557) (A := A29557) hV29557), (IvM_s8_1 (I := I29557) (A := A29557) hV29557), (IvM_s10_0 (I := I29557) (A := A29557) hV29557), (IvM_s10_1 (I := I29557) (A := A29557) hV29557), (IvM_s17_0 (I := I29557) (A := A29557) hV29557), (IvM_s17_164 (I := I29557) (A := A29557) hV29557), (IvM_lv (I := I29557) (A := A29557) hV29557), (IvM_sd (I := I29557) (A := A29557) hV29557), (IvM_nq (I := I29557) (A := A29557) hV29557), (IvM_hr (I := I29557) (A := A29557) hV29557), (IvM_hh (I := I29557) (A := A29557) hV29557), trivial⟩ (show L29557 = L from hL29557) (by omega) (by omega) (by omega) (by omega) hF)
              replace hF := FE.neg hF c29671
              refine g_tabOut (tgt := 173) (a := (A 18 162).toInt) hk dX12_levelsFirst_114 rfl (by omega) (by decide) ?_
              refine g_aload_n hk dX12_levelsFirst_173 rfl ?_
              refine gM_r0_38 hk hin12 (List.mem_cons_of_mem _ (List.mem_append_left _ (List.mem_of_getElem? (i := 0) rfl))) dX12_levelsFirst_174 ?_
              refine g_iload hk dX12_levelsFirst_177 rfl ?_
              refine g_iload hk dX12_levelsFirst_179 rfl ?_
              refine g_iload_n hk dX12_levelsFirst_181 rfl ?_
              have b29676l := Int32.le_toInt x28951
              have b29676h := Int32.toInt_lt x28951
              have b29677l := Int32.le_toInt x28952
              have b29677h := Int32.toInt_lt x28952
              refine g_icmp_ne (tgt := 189) (a := x28951.toInt) (b := x28952.toInt) hk dX12_levelsFirst_182 (by decide) rfl rfl (fun c29678 => ?_) (fun c29678 => ?_)
              · skip
                replace hF := FE.pos hF c29678
                refine g_sipush (v := 1000) hk dX12_levelsFirst_189 (by decide) ?_
                refine g_aload_n hk dX12_levelsFirst_192 rfl ?_
                refine gM_r0_38 hk hin12 (List.mem_cons_of_mem _ (List.mem_append_left _ (List.mem_of_getElem? (i := 0) rfl))) dX12_levelsFirst_193 ?_
                refine g_iload hk dX12_levelsFirst_196 rfl ?_
                refine lM_19 (v := (A29557 19 x29549.toNatClampNeg)) hk (vp_in_iff.mpr ⟨by omega, by omega⟩) rfl dX12_levelsFirst_198 ?_
                refine g_iload_n hk dX12_levelsFirst_199 rfl ?_
                have b29679l := Int32.le_toInt (A29557 19 x29549.toNatClampNeg)
                have b29679h := Int32.toInt_lt (A29557 19 x29549.toNatClampNeg)
                refine g_isub hk dX12_levelsFirst_200 ?_
                refine g_topi (fun y29680 ey29680 => ?_)
                replace hF := FE.lt hF ey29680
                have hy29680 := i32_sub0 ey29680
                have b29681l := Int32.le_toInt y29680
                have b29681h := Int32.toInt_lt y29680
                refine g_imul hk dX12_levelsFirst_201 ?_
                refine g_topi (fun y29682 ey29682 => ?_)
                replace hF := FE.lt hF ey29682
                refine g_iload hk dX12_levelsFirst_202 rfl ?_
                refine g_iload_n hk dX12_levelsFirst_204 rfl ?_
                refine g_isub hk dX12_levelsFirst_205 ?_
                refine g_topi (fun y29683 ey29683 => ?_)
                replace hF := FE.lt hF ey29683
                have hy29683 := i32_sub0 ey29683
                have b29684l := Int32.le_toInt y29683
                have b29684h := Int32.toInt_lt y29683
                refine g_idiv hk dX12_levelsFirst_206 (i32_ne0 (by omega)) ?_
                refine g_topi (fun y29685 ey29685 => ?_)
                replace hF := FE.lt hF ey29685
                refine sM_19 (j := x29549.toNatClampNeg) hk (vp_in_iff.mpr ⟨by omega, by omega⟩) rfl dX12_levelsFirst_207 ?_
                obtain ⟨y29686, ey29686⟩ : ∃ y : Int32, y = x29549 + Int32.ofInt 1 := ⟨_, rfl⟩
                replace hF := FE.lt hF ey29686
                have hy29686 : y29686.toInt = x29549.toInt + 1 := i32_add ey29686 rfl (by decide) (by omega) (by omega)
                refine g_iinc (v := y29686) (lv' := [(7, .int y29686), (6, .int y29548), (5, .int (A 19 0)), (4, .int x28951), (3, .int x28952), (2, .int x28953), (0, .ref (r 0)), (1, .int z1)]) hk 0 dX12_levelsFirst_208 rfl ey29686.symm (by decide) rfl ?_
                refine g_goto (tgt := 100) hk dX12_levelsFirst_211 (by decide) ?_
                exact g_lv (List.forall_mem_cons.mpr ⟨List.mem_of_getElem? (i := 0) rfl, (List.forall_mem_cons.mpr ⟨List.mem_of_getElem? (i := 1) rfl, (List.forall_mem_cons.mpr ⟨List.mem_of_getElem? (i := 2) rfl, (List.forall_mem_cons.mpr ⟨List.mem_of_getElem? (i := 3) rfl, (List.forall_mem_cons.mpr ⟨List.mem_of_getElem? (i := 4) rfl, (List.forall_mem_cons.mpr ⟨List.mem_of_getElem? (i := 5) rfl, (List.forall_mem_cons.mpr ⟨List.mem_of_getElem? (i := 6) rfl, (List.forall_mem_cons.mpr ⟨List.mem_of_getElem? (i := 7) rfl, (fun _ h => absurd h List.not_mem_nil)⟩)⟩)⟩)⟩)⟩)⟩)⟩)⟩) (ih29662 y29686 I29557 (up3 A29557 19 (x29549.toNatClampNeg) y29685) L29557 (show Md [] I I29557 from Md.tr hI29557 (show Md [] I29557 I29557 from Md.rf) rfl) (show Md [19] A (up3 A29557 19 (x29549.toNatClampNeg) y29685) from Md.tr hA29557 (show Md [19] A29557 (up3 A29557 19 (x29549.toNatClampNeg) y29685) from (Md.up3 Md.rf rfl)) rfl) ⟨(IvM_f1 (I := I29557) (A := A29557) hV29557), (IvM_f2 (I := I29557) (A := A29557) hV29557), (IvM_f3 (I := I29557) (A := A29557) hV29557), (IvM_f4 (I := I29557) (A := A29557) hV29557), (IvM_f6 (I := I29557) (A := A29557) hV29557), (IvM_f8 (I := I29557) (A := A29557) hV29557), (IvM_f15 (I := I29557) (A := A29557) hV29557), (IvM_f16 (I := I29557) (A := A29557) hV29557), (IvM_f17 (I := I29557) (A := A29557) hV29557), (IvM_f18 (I := I29557) (A := A29557) hV29557), (IvM_f22 (I := I29557) (A := A29557) hV29557), (IvM_f23 (I := I29557) (A := A29557) hV29557), (IvM_f24 (I := I29557) (A := A29557) hV29557), (IvM_a11 (I := I29557) (A := A29557) hV29557), (IvM_a26 (I := I29557) (A := A29557) hV29557), (IvM_s8_0 (I := I29557) (A := A29557) hV29557), (IvM_s8_1 (I := I29557) (A := A29557) hV29557), (IvM_s10_0 (I := I29557) (A := A29557) hV29557), (IvM_s10_1 (I := I29557) (A := A29557) hV29557), (IvM_s17_0 (I := I29557) (A := A29557) hV29557), (IvM_s17_164 (I := I29557) (A := A29557) hV29557), (IvM_lv (I := I29557) (A := A29557) hV29557), (IvM_sd (I := I29557) (A := A29557) hV29557), (IvM_nq (I := I29557) (A := A29557) hV29557), (IvM_hr (I := I29557) (A := A29557) hV29557), (IvM_hh (I := I29557) (A := A29557) hV29557), trivial⟩ (show L29557 = L from hL29557) (by omega) (by omega) (by omega) (by omega) hF)
              · skip
                replace hF := FE.neg hF c29678
                refine g_iconst (v := 0) hk dX12_levelsFirst_185 (by decide) ?_
                refine g_goto (tgt := 207) hk dX12_levelsFirst_186 (by decide) ?_
                have k29687 : (0 : Int32).toInt = 0 := rfl
                refine sM_19 (j := x29549.toNatClampNeg) hk (vp_in_iff.mpr ⟨by omega, by omega⟩) rfl dX12_levelsFirst_207 ?_
                obtain ⟨y29688, ey29688⟩ : ∃ y : Int32, y = x29549 + Int32.ofInt 1 := ⟨_, rfl⟩
                replace hF := FE.lt hF ey29688
                have hy29688 : y29688.toInt = x29549.toInt + 1 := i32_add ey29688 rfl (by decide) (by omega) (by omega)
                refine g_iinc (v := y29688) (lv' := [(7, .int y29688), (6, .int y29548), (5, .int (A 19 0)), (4, .int x28951), (3, .int x28952), (2, .int x28953), (0, .ref (r 0)), (1, .int z1)]) hk 0 dX12_levelsFirst_208 rfl ey29688.symm (by decide) rfl ?_
                refine g_goto (tgt := 100) hk dX12_levelsFirst_211 (by decide) ?_
                exact g_lv (List.forall_mem_cons.mpr ⟨List.mem_of_getElem? (i := 0) rfl, (List.forall_mem_cons.mpr ⟨List.mem_of_getElem? (i := 1) rfl, (List.forall_mem_cons.mpr ⟨List.mem_of_getElem? (i := 2) rfl, (List.forall_mem_cons.mpr ⟨List.mem_of_getElem? (i := 3) rfl, (List.forall_mem_cons.mpr ⟨List.mem_of_getElem? (i := 4) rfl, (List.forall_mem_cons.mpr ⟨List.mem_of_getElem? (i := 5) rfl, (List.forall_mem_cons.mpr ⟨List.mem_of_getElem? (i := 6) rfl, (List.forall_mem_cons.mpr ⟨List.mem_of_getElem? (i := 7) rfl, (fun _ h => absurd h List.not_mem_nil)⟩)⟩)⟩)⟩)⟩)⟩)⟩)⟩) (ih29662 y29688 I29557 (up3 A29557 19 (x29549.toNatClampNeg) 0) L29557 (show Md [] I I29557 from Md.tr hI29557 (show Md [] I29557 I29557 from Md.rf) rfl) (show Md [19] A (up3 A29557 19 (x29549.toNatClampNeg) 0) from Md.tr hA29557 (show Md [19] A29557 (up3 A29557 19 (x29549.toNatClampNeg) 0) from (Md.up3 Md.rf rfl)) rfl) ⟨(IvM_f1 (I := I29557) (A := A29557) hV29557), (IvM_f2 (I := I29557) (A := A29557) hV29557), (IvM_f3 (I := I29557) (A := A29557) hV29557), (IvM_f4 (I := I29557) (A := A29557) hV29557), (IvM_f6 (I := I29557) (A := A29557) hV29557), (IvM_f8 (I := I29557) (A := A29557) hV29557), (IvM_f15 (I := I29557) (A := A29557) hV29557), (IvM_f16 (I := I29557) (A := A29557) hV29557), (IvM_f17 (I := I29557) (A := A29557) hV29557), (IvM_f18 (I := I29557) (A := A29557) hV29557), (IvM_f22 (I := I29557) (A := A29557) hV29557), (IvM_f23 (I := I29557) (A := A29557) hV29557), (IvM_f24 (I := I29557) (A := A29557) hV29557), (IvM_a11 (I := I29557) (A := A29557) hV29557), (IvM_a26 (I := I29557) (A := A29557) hV29557), (IvM_s8_0 (I := I29557) (A := A29557) hV29557), (IvM_s8_1 (I := I29557) (A := A29557) hV29557), (IvM_s10_0 (I := I29557) (A := A29557) hV29557), (IvM_s10_1 (I := I29557) (A := A29557) hV29557), (IvM_s17_0 (I := I29557) (A := A29557) hV29557), (IvM_s17_164 (I := I29557) (A := A29557) hV29557), (IvM_lv (I := I29557) (A := A29557) hV29557), (IvM_sd (I := I29557) (A := A29557) hV29557), (IvM_nq (I := I29557) (A := A29557) hV29557), (IvM_hr (I := I29557) (A := A29557) hV29557), (IvM_hh (I := I29557) (A := A29557) hV29557), trivial⟩ (show L29557 = L from hL29557) (by omega) (by omega) (by omega) (by omega) hF)
        have k29689 : (0 : Int32).toInt = 0 := rfl
        have b29691 := Int32.le_toInt (0 : Int32)
        have b29692 := Int32.toInt_lt (0 : Int32)
        have n29690a : 17 - (0 : Int32).toInt < (FU : Int) := by have := FU_eq; omega
        have n29690b : 0 < FU := by have := FU_eq; omega
        exact lp29658 FU 0 I A L Md.rf Md.rf hIv rfl (by omega) (by omega) n29690a n29690b hF
      · skip
        replace hF := FE.neg hF c29547
        refine g_iload_n hk dX12_levelsFirst_34 rfl ?_
        refine g_aload_n hk dX12_levelsFirst_35 rfl ?_
        refine gM_r0_38 hk hin12 (List.mem_cons_of_mem _ (List.mem_append_left _ (List.mem_of_getElem? (i := 0) rfl))) dX12_levelsFirst_36 ?_
        refine g_iload hk dX12_levelsFirst_39 rfl ?_
        refine lM_19 (v := (A 19 x28949.toNatClampNeg)) hk (vp_in_iff.mpr ⟨by omega, by omega⟩) rfl dX12_levelsFirst_41 ?_
        have b29693l := Int32.le_toInt x28953
        have b29693h := Int32.toInt_lt x28953
        have b29694l := Int32.le_toInt (A 19 x28949.toNatClampNeg)
        have b29694h := Int32.toInt_lt (A 19 x28949.toNatClampNeg)
        refine g_iadd hk dX12_levelsFirst_42 ?_
        refine g_topi (fun y29695 ey29695 => ?_)
        replace hF := FE.lt hF ey29695
        refine g_istore_n (lv' := [(2, .int y29695), (6, .int x28949), (5, .int (A 19 0)), (4, .int x28951), (3, .int x28952), (0, .ref (r 0)), (1, .int z1)]) hk dX12_levelsFirst_43 (by decide) rfl ?_
        refine g_aload_n hk dX12_levelsFirst_44 rfl ?_
        refine gM_r0_38 hk hin12 (List.mem_cons_of_mem _ (List.mem_append_left _ (List.mem_of_getElem? (i := 0) rfl))) dX12_levelsFirst_45 ?_
        refine g_iload hk dX12_levelsFirst_48 rfl ?_
        refine lM_19 (v := (A 19 x28949.toNatClampNeg)) hk (vp_in_iff.mpr ⟨by omega, by omega⟩) rfl dX12_levelsFirst_50 ?_
        refine g_iload_n hk dX12_levelsFirst_51 rfl ?_
        have b29696l := Int32.le_toInt x28952
        have b29696h := Int32.toInt_lt x28952
        refine g_icmp_ge (tgt := 63) (a := (A 19 x28949.toNatClampNeg).toInt) (b := x28952.toInt) hk dX12_levelsFirst_52 (by decide) rfl rfl (fun c29697 => ?_) (fun c29697 => ?_)
        · skip
          replace hF := FE.pos hF c29697
          refine g_aload_n hk dX12_levelsFirst_63 rfl ?_
          refine gM_r0_38 hk hin12 (List.mem_cons_of_mem _ (List.mem_append_left _ (List.mem_of_getElem? (i := 0) rfl))) dX12_levelsFirst_64 ?_
          refine g_iload hk dX12_levelsFirst_67 rfl ?_
          refine lM_19 (v := (A 19 x28949.toNatClampNeg)) hk (vp_in_iff.mpr ⟨by omega, by omega⟩) rfl dX12_levelsFirst_69 ?_
          refine g_iload hk dX12_levelsFirst_70 rfl ?_
          have b29698l := Int32.le_toInt x28951
          have b29698h := Int32.toInt_lt x28951
          refine g_icmp_le (tgt := 84) (a := (A 19 x28949.toNatClampNeg).toInt) (b := x28951.toInt) hk dX12_levelsFirst_72 (by decide) rfl rfl (fun c29699 => ?_) (fun c29699 => ?_)
          · skip
            replace hF := FE.pos hF c29699
            obtain ⟨y29700, ey29700⟩ : ∃ y : Int32, y = x28949 + Int32.ofInt 1 := ⟨_, rfl⟩
            replace hF := FE.lt hF ey29700
            have hy29700 : y29700.toInt = x28949.toInt + 1 := i32_add ey29700 rfl (by decide) (by omega) (by omega)
            refine g_iinc (v := y29700) (lv' := [(6, .int y29700), (2, .int y29695), (5, .int (A 19 0)), (4, .int x28951), (3, .int x28952), (0, .ref (r 0)), (1, .int z1)]) hk 1 dX12_levelsFirst_84 rfl ey29700.symm (by decide) rfl ?_
            refine g_goto (tgt := 28) hk dX12_levelsFirst_87 (by decide) ?_
            have b29701l := Int32.le_toInt y29695
            have b29701h := Int32.toInt_lt y29695
            exact g_lv (List.forall_mem_cons.mpr ⟨List.mem_of_getElem? (i := 0) rfl, (List.forall_mem_cons.mpr ⟨List.mem_of_getElem? (i := 2) rfl, (List.forall_mem_cons.mpr ⟨List.mem_of_getElem? (i := 3) rfl, (List.forall_mem_cons.mpr ⟨List.mem_of_getElem? (i := 4) rfl, (List.forall_mem_cons.mpr ⟨List.mem_of_getElem? (i := 1) rfl, (List.forall_mem_cons.mpr ⟨List.mem_of_getElem? (i := 5) rfl, (List.forall_mem_cons.mpr ⟨List.mem_of_getElem? (i := 6) rfl, (fun _ h => absurd h List.not_mem_nil)⟩)⟩)⟩)⟩)⟩)⟩)⟩) (ih29546 y29700 x28951 x28952 y29695 (by omega) (by omega) (by omega) (by omega) hF)
          · skip
            replace hF := FE.neg hF c29699
            refine g_aload_n hk dX12_levelsFirst_75 rfl ?_
            refine gM_r0_38 hk hin12 (List.mem_cons_of_mem _ (List.mem_append_left _ (List.mem_of_getElem? (i := 0) rfl))) dX12_levelsFirst_76 ?_
            refine g_iload hk dX12_levelsFirst_79 rfl ?_
            refine lM_19 (v := (A 19 x28949.toNatClampNeg)) hk (vp_in_iff.mpr ⟨by omega, by omega⟩) rfl dX12_levelsFirst_81 ?_
            refine g_istore (lv' := [(4, .int (A 19 x28949.toNatClampNeg)), (2, .int y29695), (6, .int x28949), (5, .int (A 19 0)), (3, .int x28952), (0, .ref (r 0)), (1, .int z1)]) hk dX12_levelsFirst_82 (by decide) rfl ?_
            obtain ⟨y29702, ey29702⟩ : ∃ y : Int32, y = x28949 + Int32.ofInt 1 := ⟨_, rfl⟩
            replace hF := FE.lt hF ey29702
            have hy29702 : y29702.toInt = x28949.toInt + 1 := i32_add ey29702 rfl (by decide) (by omega) (by omega)
            refine g_iinc (v := y29702) (lv' := [(6, .int y29702), (4, .int (A 19 x28949.toNatClampNeg)), (2, .int y29695), (5, .int (A 19 0)), (3, .int x28952), (0, .ref (r 0)), (1, .int z1)]) hk 2 dX12_levelsFirst_84 rfl ey29702.symm (by decide) rfl ?_
            refine g_goto (tgt := 28) hk dX12_levelsFirst_87 (by decide) ?_
            have b29703l := Int32.le_toInt y29695
            have b29703h := Int32.toInt_lt y29695
            exact g_lv (List.forall_mem_cons.mpr ⟨List.mem_of_getElem? (i := 0) rfl, (List.forall_mem_cons.mpr ⟨List.mem_of_getElem? (i := 3) rfl, (List.forall_mem_cons.mpr ⟨List.mem_of_getElem? (i := 1) rfl, (List.forall_mem_cons.mpr ⟨List.mem_of_getElem? (i := 4) rfl, (List.forall_mem_cons.mpr ⟨List.mem_of_getElem? (i := 2) rfl, (List.forall_mem_cons.mpr ⟨List.mem_of_getElem? (i := 5) rfl, (List.forall_mem_cons.mpr ⟨List.mem_of_getElem? (i := 6) rfl, (fun _ h => absurd h List.not_mem_nil)⟩)⟩)⟩)⟩)⟩)⟩)⟩) (ih29546 y29702 (A 19 x28949.toNatClampNeg) x28952 y29695 (by omega) (by omega) (by omega) (by omega) hF)
        · skip
          replace hF := FE.neg hF c29697
          refine g_aload_n hk dX12_levelsFirst_55 rfl ?_
          refine gM_r0_38 hk hin12 (List.mem_cons_of_mem _ (List.mem_append_left _ (List.mem_of_getElem? (i := 0) rfl))) dX12_levelsFirst_56 ?_
          refine g_iload hk dX12_levelsFirst_59 rfl ?_
          refine lM_19 (v := (A 19 x28949.toNatClampNeg)) hk (vp_in_iff.mpr ⟨by omega, by omega⟩) rfl dX12_levelsFirst_61 ?_
          refine g_istore_n (lv' := [(3, .int (A 19 x28949.toNatClampNeg)), (2, .int y29695), (6, .int x28949), (5, .int (A 19 0)), (4, .int x28951), (0, .ref (r 0)), (1, .int z1)]) hk dX12_levelsFirst_62 (by decide) rfl ?_
          refine g_aload_n hk dX12_levelsFirst_63 rfl ?_
          refine gM_r0_38 hk hin12 (List.mem_cons_of_mem _ (List.mem_append_left _ (List.mem_of_getElem? (i := 0) rfl))) dX12_levelsFirst_64 ?_
          refine g_iload hk dX12_levelsFirst_67 rfl ?_
          refine lM_19 (v := (A 19 x28949.toNatClampNeg)) hk (vp_in_iff.mpr ⟨by omega, by omega⟩) rfl dX12_levelsFirst_69 ?_
          refine g_iload hk dX12_levelsFirst_70 rfl ?_
          have b29704l := Int32.le_toInt x28951
          have b29704h := Int32.toInt_lt x28951
          refine g_icmp_le (tgt := 84) (a := (A 19 x28949.toNatClampNeg).toInt) (b := x28951.toInt) hk dX12_levelsFirst_72 (by decide) rfl rfl (fun c29705 => ?_) (fun c29705 => ?_)
          · skip
            replace hF := FE.pos hF c29705
            obtain ⟨y29706, ey29706⟩ : ∃ y : Int32, y = x28949 + Int32.ofInt 1 := ⟨_, rfl⟩
            replace hF := FE.lt hF ey29706
            have hy29706 : y29706.toInt = x28949.toInt + 1 := i32_add ey29706 rfl (by decide) (by omega) (by omega)
            refine g_iinc (v := y29706) (lv' := [(6, .int y29706), (3, .int (A 19 x28949.toNatClampNeg)), (2, .int y29695), (5, .int (A 19 0)), (4, .int x28951), (0, .ref (r 0)), (1, .int z1)]) hk 2 dX12_levelsFirst_84 rfl ey29706.symm (by decide) rfl ?_
            refine g_goto (tgt := 28) hk dX12_levelsFirst_87 (by decide) ?_
            have b29707l := Int32.le_toInt y29695
            have b29707h := Int32.toInt_lt y29695
            exact g_lv (List.forall_mem_cons.mpr ⟨List.mem_of_getElem? (i := 0) rfl, (List.forall_mem_cons.mpr ⟨List.mem_of_getElem? (i := 3) rfl, (List.forall_mem_cons.mpr ⟨List.mem_of_getElem? (i := 4) rfl, (List.forall_mem_cons.mpr ⟨List.mem_of_getElem? (i := 1) rfl, (List.forall_mem_cons.mpr ⟨List.mem_of_getElem? (i := 2) rfl, (List.forall_mem_cons.mpr ⟨List.mem_of_getElem? (i := 5) rfl, (List.forall_mem_cons.mpr ⟨List.mem_of_getElem? (i := 6) rfl, (fun _ h => absurd h List.not_mem_nil)⟩)⟩)⟩)⟩)⟩)⟩)⟩) (ih29546 y29706 x28951 (A 19 x28949.toNatClampNeg) y29695 (by omega) (by omega) (by omega) (by omega) hF)
          · skip
            replace hF := FE.neg hF c29705
            refine g_aload_n hk dX12_levelsFirst_75 rfl ?_
            refine gM_r0_38 hk hin12 (List.mem_cons_of_mem _ (List.mem_append_left _ (List.mem_of_getElem? (i := 0) rfl))) dX12_levelsFirst_76 ?_
            refine g_iload hk dX12_levelsFirst_79 rfl ?_
            refine lM_19 (v := (A 19 x28949.toNatClampNeg)) hk (vp_in_iff.mpr ⟨by omega, by omega⟩) rfl dX12_levelsFirst_81 ?_
            refine g_istore (lv' := [(4, .int (A 19 x28949.toNatClampNeg)), (3, .int (A 19 x28949.toNatClampNeg)), (2, .int y29695), (6, .int x28949), (5, .int (A 19 0)), (0, .ref (r 0)), (1, .int z1)]) hk dX12_levelsFirst_82 (by decide) rfl ?_
            obtain ⟨y29708, ey29708⟩ : ∃ y : Int32, y = x28949 + Int32.ofInt 1 := ⟨_, rfl⟩
            replace hF := FE.lt hF ey29708
            have hy29708 : y29708.toInt = x28949.toInt + 1 := i32_add ey29708 rfl (by decide) (by omega) (by omega)
            refine g_iinc (v := y29708) (lv' := [(6, .int y29708), (4, .int (A 19 x28949.toNatClampNeg)), (3, .int (A 19 x28949.toNatClampNeg)), (2, .int y29695), (5, .int (A 19 0)), (0, .ref (r 0)), (1, .int z1)]) hk 3 dX12_levelsFirst_84 rfl ey29708.symm (by decide) rfl ?_
            refine g_goto (tgt := 28) hk dX12_levelsFirst_87 (by decide) ?_
            have b29709l := Int32.le_toInt y29695
            have b29709h := Int32.toInt_lt y29695
            exact g_lv (List.forall_mem_cons.mpr ⟨List.mem_of_getElem? (i := 0) rfl, (List.forall_mem_cons.mpr ⟨List.mem_of_getElem? (i := 4) rfl, (List.forall_mem_cons.mpr ⟨List.mem_of_getElem? (i := 1) rfl, (List.forall_mem_cons.mpr ⟨List.mem_of_getElem? (i := 2) rfl, (List.forall_mem_cons.mpr ⟨List.mem_of_getElem? (i := 3) rfl, (List.forall_mem_cons.mpr ⟨List.mem_of_getElem? (i := 5) rfl, (List.forall_mem_cons.mpr ⟨List.mem_of_getElem? (i := 6) rfl, (fun _ h => absurd h List.not_mem_nil)⟩)⟩)⟩)⟩)⟩)⟩)⟩) (ih29546 y29708 (A 19 x28949.toNatClampNeg) (A 19 x28949.toNatClampNeg) y29695 (by omega) (by omega) (by omega) (by omega) hF)
  have k29710 : (0 : Int32).toInt = 0 := rfl
  have b29711l := Int32.le_toInt (A 19 0)
  have b29711h := Int32.toInt_lt (A 19 0)
  have b29713 := Int32.le_toInt (0 : Int32)
  have b29714 := Int32.toInt_lt (0 : Int32)
  have n29712a : 17 - (0 : Int32).toInt < (FU : Int) := by have := FU_eq; omega
  have n29712b : 0 < FU := by have := FU_eq; omega
  exact lp29542 FU 0 (A 19 0) (A 19 0) 0 (by omega) (by omega) n29712a n29712b hF
noncomputable def bM12_laysWindow_2 (z2 : Int32) (z1 : Int32) (A : Nat → Nat → Int32) : (Int32 → (Nat → Int32) → (Nat → Nat → Int32) → (Nat → Nat → Int64) → (Int32 × (Nat → Int32) × (Nat → Nat → Int32) × (Nat → Nat → Int64))) → Int32 → (Nat → Int32) → (Nat → Nat → Int32) → (Nat → Nat → Int64) → (Int32 × (Nat → Int32) × (Nat → Nat → Int32) × (Nat → Nat → Int64)) := fun kk29738 x28941 I28945 A28945 L28945 => if z2.toInt ≤ x28941.toInt then f_bdM (fM12_levelsFirst I28945 A28945 L28945 z2) fun _ I29742 A29742 L29742 => (0, I29742, A29742, L29742) else f_lt ((1 : Int32) + z1) fun y29743 => f_lt (y29743 + x28941) fun y29744 => f_lt (x28941 + Int32.ofInt 1) fun y29745 => kk29738 y29745 I28945 (up3 A28945 19 (x28941.toNatClampNeg) (A 18 y29744.toNatClampNeg)) L28945
noncomputable def fM12_laysWindow (I : Nat → Int32) (A : Nat → Nat → Int32) (L : Nat → Nat → Int64) (z1 : Int32) (z2 : Int32) : Int32 × (Nat → Int32) × (Nat → Nat → Int32) × (Nat → Nat → Int64) := itr_iIAL dfM (bM12_laysWindow_2 z2 z1 A) FU 0 I A L
def wo_j165_X12_laysWindow : List Cond := [Cond.fieldLink RX12 76 "WarpDeskModel" "firstAt" "[I", Cond.fieldLink RX12 73 "WarpDeskModel" "row" "[I", Cond.methodLink RX12 264 yX12_levelsFirst, Cond.instanceMethod yX12_levelsFirst, Cond.selects RX12 yX12_levelsFirst yX12_levelsFirst, Cond.initialized RX12]
def wz_j165_X12_laysWindow : List Cond := .code yX12_laysWindow cX12_laysWindow 4 none :: (wo_j165_X12_laysWindow ++ (wsX120 ++ (wz_j166_X12_levelsFirst ++ ([] : List Cond))))
theorem zg_j165_X12_laysWindow : ∀ w ∈ wz_j165_X12_laysWindow, goodWord w = true := zg_cons rfl (zg_app (by decide +kernel) (zg_app zgU_wsX120 (zg_app zg_j166_X12_levelsFirst zg_nil)))
theorem zi_j165_X12_laysWindow : ∀ w ∈ wz_j165_X12_laysWindow, w ∈ lw_tbl := zi_cons zw_1738 (zi_app (zi_cons zw_1416 (zi_cons zw_1414 (zi_cons zw_1739 (zi_cons zw_1741 (zi_cons zw_77 (zi_cons zw_115 zi_nil)))))) (zi_app inX12 (zi_app zi_j166_X12_levelsFirst zi_nil)))
set_option maxHeartbeats 4000000 in
set_option maxRecDepth 100000 in
theorem j165_X12_laysWindow (l : Launch) (D : va_G) (zt : Nat × Nat × Nat × (Nat → Nat) × (Nat → Nat)) (r : Nat → Nat) (g : Nat → ClassId) (I : Nat → Int32) (A : Nat → Nat → Int32) (L : Nat → Nat → Int64) (z1 : Int32) (z2 : Int32) (hIv : IvM I A) (hp0 : 0 ≤ z1.toInt) (hp1 : z1.toInt ≤ 159) (hp2 : 1 ≤ z2.toInt) (hp3 : z2.toInt ≤ 16) (hp4 : z1.toInt + z2.toInt ≤ 160) : GM l D zt (tyM g) yX12_laysWindow wz_j165_X12_laysWindow ({ frames := 2, cells := 0, slots := 0, locals := 49 } : Room) [.ref (r 0), .int z1, .int z2] (wM r g I A L) (fun v _ w' => ∃ (I' : Nat → Int32) (A' : Nat → Nat → Int32) (L' : Nat → Nat → Int64), Md [] I I' ∧ Md [19] A A' ∧ IvM I' A' ∧ (L' = L) ∧ FE (fM12_laysWindow I A L z1 z2) (0, I', A', L') ∧ v = none ∧ w' = wM r g I' A' L') 0 0 := by
  refine GM.of (cc := cX12_laysWindow) (maxL := 4) (ret := none) (own := RX12) (lv := [(0, .ref (r 0)), (1, .int z1), (2, .int z2)]) (by decide) rfl rfl (Nat.le_of_ble_eq_true rfl) rfl (fun κ sz hk hR hN => ?_)
  have hin12 : ∀ w ∈ u_ws RX12 TX12 55, w ∈ wz_j165_X12_laysWindow := fun w h => (List.mem_cons_of_mem _ (List.mem_append_right _ (List.mem_append_left _ h)))
  have hF : FE (fM12_laysWindow I A L z1 z2) (fM12_laysWindow I A L z1 z2) := FE.rf
  refine g_iconst (v := 0) hk dX12_laysWindow_0 (by decide) ?_
  refine g_istore_n (lv' := [(3, .int 0), (0, .ref (r 0)), (1, .int z1), (2, .int z2)]) hk dX12_laysWindow_1 (by decide) rfl ?_
  have lp29735 : ∀ (n29736 : Nat) (x28941 : Int32) (I28945 : Nat → Int32) (A28945 : Nat → Nat → Int32) (L28945 : Nat → Nat → Int64), (Md [] I I28945) → (Md [19] A A28945) → (IvM I28945 A28945) → (L28945 = L) → (0 ≤ x28941.toInt) → (x28941.toInt ≤ 16) → (17 - x28941.toInt < (n29736 : Int)) → (0 < n29736) → (FE (fM12_laysWindow I A L z1 z2) (itr_iIAL dfM (bM12_laysWindow_2 z2 z1 A) n29736 x28941 I28945 A28945 L28945)) → GW κ 4 0 0 (wM r g I28945 A28945 L28945) 2 [(3, .int x28941), (0, .ref (r 0)), (1, .int z1), (2, .int z2)] [] := by
    intro n29736
    induction n29736 with
    | zero =>
      intro x28941 I28945 A28945 L28945 hI28945 hA28945 hV28945 hL28945 h29733 h29734 m29737 m29737z hF
      exact absurd m29737z (Nat.lt_irrefl 0)
    | succ n29736 ih29739 =>
      intro x28941 I28945 A28945 L28945 hI28945 hA28945 hV28945 hL28945 h29733 h29734 m29737 m29737z hF
      replace hF := FE.itr_iIAL hF
      refine g_iload_n hk dX12_laysWindow_2 rfl ?_
      refine g_iload_n hk dX12_laysWindow_3 rfl ?_
      refine g_icmp_ge (tgt := 29) (a := x28941.toInt) (b := z2.toInt) hk dX12_laysWindow_4 (by decide) rfl rfl (fun c29740 => ?_) (fun c29740 => ?_)
      · skip
        replace hF := FE.pos hF c29740
        refine g_aload_n hk dX12_laysWindow_29 rfl ?_
        refine g_iload_n hk dX12_laysWindow_30 rfl ?_
        refine g_callV (n := 1) hk (j166_X12_levelsFirst l D zt r g I28945 A28945 L28945 z2 hV28945 (by omega) (by omega)) (SP.same _) (fun _ h => h) (gi_V (List.mem_cons_of_mem _ (List.mem_append_left _ (List.mem_of_getElem? (i := 2) rfl))) (List.mem_cons_of_mem _ (List.mem_append_left _ (List.mem_of_getElem? (i := 3) rfl))) (List.mem_cons_of_mem _ (List.mem_append_left _ (List.mem_of_getElem? (i := 4) rfl))) (List.mem_cons_of_mem _ (List.mem_append_left _ (List.mem_of_getElem? (i := 5) rfl))) (gi_sub (fun w h => (List.mem_cons_of_mem _ (List.mem_append_right _ (List.mem_append_right _ (List.mem_append_left _ h))))) zg_j166_X12_levelsFirst)) rfl rfl rfl (by decide +kernel) ⟨Nat.le_of_ble_eq_true rfl, Nat.le_of_ble_eq_true rfl⟩ 0 rfl rfl rfl rfl (Nat.le_of_ble_eq_true rfl) ⟨Nat.le_of_ble_eq_true rfl, Nat.le_of_ble_eq_true rfl⟩ dX12_laysWindow_31 (fun v ty' w' hp hk' => ?_)
        obtain ⟨I29742, A29742, L29742, hI29742, hA29742, hV29742, hL29742, hC, rfl, rfl⟩ := hp
        replace hF := FE.bdM hF hC
        show GW κ 4 0 0 (wM r g I29742 A29742 L29742) 34 [(3, .int x28941), (0, .ref (r 0)), (1, .int z1), (2, .int z2)] []
        exact g_vret hk hR ⟨I29742, A29742, L29742, (show Md [] I I29742 from (Md.tr (Md.tr Md.rf hI28945 rfl) hI29742 rfl)), (show Md [19] A A29742 from (Md.tr (Md.tr Md.rf hA28945 rfl) hA29742 rfl)), hV29742, (show L29742 = L from (hL29742.trans hL28945)), hF, rfl, rfl⟩ dX12_laysWindow_34
      · skip
        replace hF := FE.neg hF c29740
        refine g_aload_n hk dX12_laysWindow_7 rfl ?_
        refine gM_r0_38 hk hin12 (List.mem_cons_of_mem _ (List.mem_append_left _ (List.mem_of_getElem? (i := 0) rfl))) dX12_laysWindow_8 ?_
        refine g_iload_n hk dX12_laysWindow_11 rfl ?_
        refine g_aload_n hk dX12_laysWindow_12 rfl ?_
        refine gM_r0_36 hk hin12 (List.mem_cons_of_mem _ (List.mem_append_left _ (List.mem_of_getElem? (i := 1) rfl))) dX12_laysWindow_13 ?_
        refine g_iconst (v := 1) hk dX12_laysWindow_16 (by decide) ?_
        refine g_iload_n hk dX12_laysWindow_17 rfl ?_
        refine g_iadd hk dX12_laysWindow_18 ?_
        refine g_topi (fun y29743 ey29743 => ?_)
        replace hF := FE.lt hF ey29743
        have hy29743 : y29743.toInt = 1 + z1.toInt := i32_add ey29743 rfl rfl (by omega) (by omega)
        refine g_iload_n hk dX12_laysWindow_19 rfl ?_
        refine g_iadd hk dX12_laysWindow_20 ?_
        refine g_topi (fun y29744 ey29744 => ?_)
        replace hF := FE.lt hF ey29744
        have hy29744 : y29744.toInt = y29743.toInt + x28941.toInt := i32_add ey29744 rfl rfl (by omega) (by omega)
        refine lM_18 (v := (A 18 y29744.toNatClampNeg)) hk (vp_in_iff.mpr ⟨by omega, by omega⟩) (congrFun (hA28945 18 rfl) _) dX12_laysWindow_21 ?_
        refine sM_19 (j := x28941.toNatClampNeg) hk (vp_in_iff.mpr ⟨by omega, by omega⟩) rfl dX12_laysWindow_22 ?_
        obtain ⟨y29745, ey29745⟩ : ∃ y : Int32, y = x28941 + Int32.ofInt 1 := ⟨_, rfl⟩
        replace hF := FE.lt hF ey29745
        have hy29745 : y29745.toInt = x28941.toInt + 1 := i32_add ey29745 rfl (by decide) (by omega) (by omega)
        refine g_iinc (v := y29745) (lv' := [(3, .int y29745), (0, .ref (r 0)), (1, .int z1), (2, .int z2)]) hk 0 dX12_laysWindow_23 rfl ey29745.symm (by decide) rfl ?_
        refine g_goto (tgt := 2) hk dX12_laysWindow_26 (by decide) ?_
        exact g_lv (List.forall_mem_cons.mpr ⟨List.mem_of_getElem? (i := 0) rfl, (List.forall_mem_cons.mpr ⟨List.mem_of_getElem? (i := 1) rfl, (List.forall_mem_cons.mpr ⟨List.mem_of_getElem? (i := 2) rfl, (List.forall_mem_cons.mpr ⟨List.mem_of_getElem? (i := 3) rfl, (fun _ h => absurd h List.not_mem_nil)⟩)⟩)⟩)⟩) (ih29739 y29745 I28945 (up3 A28945 19 (x28941.toNatClampNeg) (A 18 y29744.toNatClampNeg)) L28945 (show Md [] I I28945 from Md.tr hI28945 (show Md [] I28945 I28945 from Md.rf) rfl) (show Md [19] A (up3 A28945 19 (x28941.toNatClampNeg) (A 18 y29744.toNatClampNeg)) from Md.tr hA28945 (show Md [19] A28945 (up3 A28945 19 (x28941.toNatClampNeg) (A 18 y29744.toNatClampNeg)) from (Md.up3 Md.rf rfl)) rfl) ⟨(IvM_f1 (I := I28945) (A := A28945) hV28945), (IvM_f2 (I := I28945) (A := A28945) hV28945), (IvM_f3 (I := I28945) (A := A28945) hV28945), (IvM_f4 (I := I28945) (A := A28945) hV28945), (IvM_f6 (I := I28945) (A := A28945) hV28945), (IvM_f8 (I := I28945) (A := A28945) hV28945), (IvM_f15 (I := I28945) (A := A28945) hV28945), (IvM_f16 (I := I28945) (A := A28945) hV28945), (IvM_f17 (I := I28945) (A := A28945) hV28945), (IvM_f18 (I := I28945) (A := A28945) hV28945), (IvM_f22 (I := I28945) (A := A28945) hV28945), (IvM_f23 (I := I28945) (A := A28945) hV28945), (IvM_f24 (I := I28945) (A := A28945) hV28945), (IvM_a11 (I := I28945) (A := A28945) hV28945), (IvM_a26 (I := I28945) (A := A28945) hV28945), (IvM_s8_0 (I := I28945) (A := A28945) hV28945), (IvM_s8_1 (I := I28945) (A := A28945) hV28945), (IvM_s10_0 (I := I28945) (A := A28945) hV28945), (IvM_s10_1 (I := I28945) (A := A28945) hV28945), (IvM_s17_0 (I := I28945) (A := A28945) hV28945), (IvM_s17_164 (I := I28945) (A := A28945) hV28945), (IvM_lv (I := I28945) (A := A28945) hV28945), (IvM_sd (I := I28945) (A := A28945) hV28945), (IvM_nq (I := I28945) (A := A28945) hV28945), (IvM_hr (I := I28945) (A := A28945) hV28945), (IvM_hh (I := I28945) (A := A28945) hV28945), trivial⟩ (show L28945 = L from hL28945) (by omega) (by omega) (by omega) (by omega) hF)
  have k29746 : (0 : Int32).toInt = 0 := rfl
  have b29748 := Int32.le_toInt (0 : Int32)
  have b29749 := Int32.toInt_lt (0 : Int32)
  have n29747a : 17 - (0 : Int32).toInt < (FU : Int) := by have := FU_eq; omega
  have n29747b : 0 < FU := by have := FU_eq; omega
  exact lp29735 FU 0 I A L Md.rf Md.rf hIv rfl (by omega) (by omega) n29747a n29747b hF
noncomputable def fM12_level (I : Nat → Int32) (A : Nat → Nat → Int32) (L : Nat → Nat → Int64) (z1 : Int32) (z2 : Int32) (z3 : Int32) : Int32 × (Nat → Int32) × (Nat → Nat → Int32) × (Nat → Nat → Int64) := if fM12_in I A L z2 2 16 = 0 then ((-1000000), I, A, L) else if fM12_isWindow I A L z1 z2 = 0 then ((-1000000), I, A, L) else f_lt (z2 - (1 : Int32)) fun y28927 => if fM12_in I A L z3 0 y28927 = 0 then ((-1000000), I, A, L) else f_bdM (fM12_copies I A L) fun _ I28936 A28936 L28936 => f_bdM (fM12_laysWindow I28936 A28936 L28936 z1 z2) fun _ I29751 A29751 L29751 => ((A29751 19 z3.toNatClampNeg), I29751, A29751, L29751)
def wo_j164_X12_level : List Cond := [Cond.methodLink RX12 244 yX12_in, Cond.static yX12_in, Cond.initialized RX12, Cond.constant RX12 332 (-1000000), Cond.methodLink RX12 257 yX12_isWindow, Cond.instanceMethod yX12_isWindow, Cond.selects RX12 yX12_isWindow yX12_isWindow, Cond.methodLink RX12 323 yX12_copies, Cond.instanceMethod yX12_copies, Cond.selects RX12 yX12_copies yX12_copies, Cond.methodLink RX12 270 yX12_laysWindow, Cond.instanceMethod yX12_laysWindow, Cond.selects RX12 yX12_laysWindow yX12_laysWindow, Cond.fieldLink RX12 76 "WarpDeskModel" "firstAt" "[I"]
def wz_j164_X12_level : List Cond := .code yX12_level cX12_level 4 (some .int) :: (wo_j164_X12_level ++ (wsX120 ++ (wz_j145_X12_in ++ (wz_j160_X12_isWindow ++ (wz_j151_X12_copies ++ (wz_j165_X12_laysWindow ++ ([] : List Cond)))))))
theorem zg_j164_X12_level : ∀ w ∈ wz_j164_X12_level, goodWord w = true := zg_cons rfl (zg_app (by decide +kernel) (zg_app zgU_wsX120 (zg_app zg_j145_X12_in (zg_app zg_j160_X12_isWindow (zg_app zg_j151_X12_copies (zg_app zg_j165_X12_laysWindow zg_nil))))))
theorem zi_j164_X12_level : ∀ w ∈ wz_j164_X12_level, w ∈ lw_tbl := zi_cons zw_1734 (zi_app (zi_cons zw_1656 (zi_cons zw_1657 (zi_cons zw_115 (zi_cons zw_1718 (zi_cons zw_1714 (zi_cons zw_1716 (zi_cons zw_72 (zi_cons zw_1679 (zi_cons zw_1681 (zi_cons zw_70 (zi_cons zw_1735 (zi_cons zw_1737 (zi_cons zw_76 (zi_cons zw_1416 zi_nil)))))))))))))) (zi_app inX12 (zi_app zi_j145_X12_in (zi_app zi_j160_X12_isWindow (zi_app zi_j151_X12_copies (zi_app zi_j165_X12_laysWindow zi_nil))))))
set_option maxHeartbeats 4000000 in
set_option maxRecDepth 100000 in
theorem j164_X12_level (l : Launch) (D : va_G) (zt : Nat × Nat × Nat × (Nat → Nat) × (Nat → Nat)) (r : Nat → Nat) (g : Nat → ClassId) (I : Nat → Int32) (A : Nat → Nat → Int32) (L : Nat → Nat → Int64) (z1 : Int32) (z2 : Int32) (z3 : Int32) (hIv : IvM I A) : GM l D zt (tyM g) yX12_level wz_j164_X12_level ({ frames := 3, cells := 0, slots := 0, locals := 72 } : Room) [.ref (r 0), .int z1, .int z2, .int z3] (wM r g I A L) (fun v _ w' => ∃ (I' : Nat → Int32) (A' : Nat → Nat → Int32) (L' : Nat → Nat → Int64), Md [] I I' ∧ Md [18, 19] A A' ∧ IvM I' A' ∧ ∃ y0 : Int32, (L' = L) ∧ FE (fM12_level I A L z1 z2 z3) (y0, I', A', L') ∧ v = some (.int y0) ∧ w' = wM r g I' A' L') 0 0 := by
  refine GM.of (cc := cX12_level) (maxL := 4) (ret := (some .int)) (own := RX12) (lv := [(0, .ref (r 0)), (1, .int z1), (2, .int z2), (3, .int z3)]) (by decide) rfl rfl (Nat.le_of_ble_eq_true rfl) rfl (fun κ sz hk hR hN => ?_)
  have hin12 : ∀ w ∈ u_ws RX12 TX12 55, w ∈ wz_j164_X12_level := fun w h => (List.mem_cons_of_mem _ (List.mem_append_right _ (List.mem_append_left _ h)))
  have hF : FE (fM12_level I A L z1 z2 z3) (fM12_level I A L z1 z2 z3) := FE.rf
  refine g_iload_n hk dX12_level_0 rfl ?_
  refine g_iconst (v := 2) hk dX12_level_1 (by decide) ?_
  refine g_bipush (v := 16) hk dX12_level_2 (by decide) ?_
  have k28910 : (2 : Int32).toInt = 2 := rfl
  have k28911 : (16 : Int32).toInt = 16 := rfl
  refine g_callS (n := 3) hk (j145_X12_in l D zt r g I A L z2 2 16 hIv) (SP.same _) (fun _ h => h) (gi_S (List.mem_cons_of_mem _ (List.mem_append_left _ (List.mem_of_getElem? (i := 0) rfl))) (List.mem_cons_of_mem _ (List.mem_append_left _ (List.mem_of_getElem? (i := 1) rfl))) (List.mem_cons_of_mem _ (List.mem_append_left _ (List.mem_of_getElem? (i := 2) rfl))) (gi_sub (fun w h => (List.mem_cons_of_mem _ (List.mem_append_right _ (List.mem_append_right _ (List.mem_append_left _ h))))) zg_j145_X12_in)) rfl rfl rfl (by decide +kernel) ⟨Nat.le_of_ble_eq_true rfl, Nat.le_of_ble_eq_true rfl⟩ rfl rfl (Nat.le_of_ble_eq_true rfl) ⟨Nat.le_of_ble_eq_true rfl, Nat.le_of_ble_eq_true rfl⟩ dX12_level_4 (fun v ty' w' hp hk' => ?_)
  rcases hp with ⟨c28912, hC, rfl, rfl⟩ | ⟨c28914, c28915, hC, rfl, rfl⟩
  · skip
    replace hF := FE.pos hF hC
    have b28917l := Int32.le_toInt z2
    have b28917h := Int32.toInt_lt z2
    show GW κ 4 0 0 (wM r g I A L) 7 [(0, .ref (r 0)), (1, .int z1), (2, .int z2), (3, .int z3)] [.int 0]
    refine g_if_eq (tgt := 30) (a := 0) hk dX12_level_7 (by decide) rfl (fun _ => ?_) (fun z9 => absurd (show (0 : Int) = (0 : Int) from by decide) z9)
    refine g_ldcw (v := (-1000000)) hk (List.mem_cons_of_mem _ (List.mem_append_left _ (List.mem_of_getElem? (i := 3) rfl))) dX12_level_30 ?_
    exact g_iret hk hR rfl ⟨I, A, L, (show Md [] I I from Md.rf), (show Md [18, 19] A A from Md.rf), hIv, (-1000000), (show L = L from rfl), hF, rfl, rfl⟩ dX12_level_33
  · skip
    replace hF := FE.neg hF (fe_ne hC (by decide))
    show GW κ 4 0 0 (wM r g I A L) 7 [(0, .ref (r 0)), (1, .int z1), (2, .int z2), (3, .int z3)] [.int 1]
    refine g_if_eq (tgt := 30) (a := 1) hk dX12_level_7 (by decide) rfl (fun z9 => absurd z9 (show ¬ ((1 : Int) = (0 : Int)) from by decide)) (fun _ => ?_)
    refine g_aload_n hk dX12_level_10 rfl ?_
    refine g_iload_n hk dX12_level_11 rfl ?_
    refine g_iload_n hk dX12_level_12 rfl ?_
    refine g_callV (n := 2) hk (j160_X12_isWindow l D zt r g I A L z1 z2 hIv) (SP.same _) (fun _ h => h) (gi_V (List.mem_cons_of_mem _ (List.mem_append_left _ (List.mem_of_getElem? (i := 4) rfl))) (List.mem_cons_of_mem _ (List.mem_append_left _ (List.mem_of_getElem? (i := 5) rfl))) (List.mem_cons_of_mem _ (List.mem_append_left _ (List.mem_of_getElem? (i := 6) rfl))) (List.mem_cons_of_mem _ (List.mem_append_left _ (List.mem_of_getElem? (i := 2) rfl))) (gi_sub (fun w h => (List.mem_cons_of_mem _ (List.mem_append_right _ (List.mem_append_right _ (List.mem_append_right _ (List.mem_append_left _ h)))))) zg_j160_X12_isWindow)) rfl rfl rfl (by decide +kernel) ⟨Nat.le_of_ble_eq_true rfl, Nat.le_of_ble_eq_true rfl⟩ 0 rfl rfl rfl rfl (Nat.le_of_ble_eq_true rfl) ⟨Nat.le_of_ble_eq_true rfl, Nat.le_of_ble_eq_true rfl⟩ dX12_level_13 (fun v ty' w' hp hk' => ?_)
    rcases hp with ⟨hC, rfl, rfl⟩ | ⟨c28919, c28920, c28921, c28922, c28923, c28924, c28925, hC, rfl, rfl⟩
    · skip
      replace hF := FE.pos hF hC
      show GW κ 4 0 0 (wM r g I A L) 16 [(0, .ref (r 0)), (1, .int z1), (2, .int z2), (3, .int z3)] [.int 0]
      refine g_if_eq (tgt := 30) (a := 0) hk dX12_level_16 (by decide) rfl (fun _ => ?_) (fun z9 => absurd (show (0 : Int) = (0 : Int) from by decide) z9)
      refine g_ldcw (v := (-1000000)) hk (List.mem_cons_of_mem _ (List.mem_append_left _ (List.mem_of_getElem? (i := 3) rfl))) dX12_level_30 ?_
      exact g_iret hk hR rfl ⟨I, A, L, (show Md [] I I from Md.rf), (show Md [18, 19] A A from Md.rf), hIv, (-1000000), (show L = L from rfl), hF, rfl, rfl⟩ dX12_level_33
    · skip
      replace hF := FE.neg hF (fe_ne hC (by decide))
      show GW κ 4 0 0 (wM r g I A L) 16 [(0, .ref (r 0)), (1, .int z1), (2, .int z2), (3, .int z3)] [.int 1]
      refine g_if_eq (tgt := 30) (a := 1) hk dX12_level_16 (by decide) rfl (fun z9 => absurd z9 (show ¬ ((1 : Int) = (0 : Int)) from by decide)) (fun _ => ?_)
      refine g_iload_n hk dX12_level_19 rfl ?_
      refine g_iconst (v := 0) hk dX12_level_20 (by decide) ?_
      refine g_iload_n hk dX12_level_21 rfl ?_
      refine g_iconst (v := 1) hk dX12_level_22 (by decide) ?_
      refine g_isub hk dX12_level_23 ?_
      refine g_topi (fun y28927 ey28927 => ?_)
      replace hF := FE.lt hF ey28927
      have hy28927 : y28927.toInt = z2.toInt - 1 := i32_sub ey28927 rfl rfl (by omega) (by omega)
      have k28928 : (0 : Int32).toInt = 0 := rfl
      refine g_callS (n := 3) hk (j145_X12_in l D zt r g I A L z3 0 y28927 hIv) (SP.same _) (fun _ h => h) (gi_S (List.mem_cons_of_mem _ (List.mem_append_left _ (List.mem_of_getElem? (i := 0) rfl))) (List.mem_cons_of_mem _ (List.mem_append_left _ (List.mem_of_getElem? (i := 1) rfl))) (List.mem_cons_of_mem _ (List.mem_append_left _ (List.mem_of_getElem? (i := 2) rfl))) (gi_sub (fun w h => (List.mem_cons_of_mem _ (List.mem_append_right _ (List.mem_append_right _ (List.mem_append_left _ h))))) zg_j145_X12_in)) rfl rfl rfl (by decide +kernel) ⟨Nat.le_of_ble_eq_true rfl, Nat.le_of_ble_eq_true rfl⟩ rfl rfl (Nat.le_of_ble_eq_true rfl) ⟨Nat.le_of_ble_eq_true rfl, Nat.le_of_ble_eq_true rfl⟩ dX12_level_24 (fun v ty' w' hp hk' => ?_)
      rcases hp with ⟨c28929, hC, rfl, rfl⟩ | ⟨c28931, c28932, hC, rfl, rfl⟩
      · skip
        replace hF := FE.pos hF hC
        have b28934l := Int32.le_toInt z3
        have b28934h := Int32.toInt_lt z3
        show GW κ 4 0 0 (wM r g I A L) 27 [(0, .ref (r 0)), (1, .int z1), (2, .int z2), (3, .int z3)] [.int 0]
        refine g_if_ne (tgt := 34) (a := 0) hk dX12_level_27 (by decide) rfl (fun z9 => absurd z9 (show ¬ ((0 : Int) ≠ (0 : Int)) from by decide)) (fun _ => ?_)
        refine g_ldcw (v := (-1000000)) hk (List.mem_cons_of_mem _ (List.mem_append_left _ (List.mem_of_getElem? (i := 3) rfl))) dX12_level_30 ?_
        exact g_iret hk hR rfl ⟨I, A, L, (show Md [] I I from Md.rf), (show Md [18, 19] A A from Md.rf), hIv, (-1000000), (show L = L from rfl), hF, rfl, rfl⟩ dX12_level_33
      · skip
        replace hF := FE.neg hF (fe_ne hC (by decide))
        show GW κ 4 0 0 (wM r g I A L) 27 [(0, .ref (r 0)), (1, .int z1), (2, .int z2), (3, .int z3)] [.int 1]
        refine g_if_ne (tgt := 34) (a := 1) hk dX12_level_27 (by decide) rfl (fun _ => ?_) (fun z9 => absurd (show (1 : Int) ≠ (0 : Int) from by decide) z9)
        refine g_aload_n hk dX12_level_34 rfl ?_
        refine g_callV (n := 0) hk (j151_X12_copies l D zt r g I A L  hIv) (SP.same _) (fun _ h => h) (gi_V (List.mem_cons_of_mem _ (List.mem_append_left _ (List.mem_of_getElem? (i := 7) rfl))) (List.mem_cons_of_mem _ (List.mem_append_left _ (List.mem_of_getElem? (i := 8) rfl))) (List.mem_cons_of_mem _ (List.mem_append_left _ (List.mem_of_getElem? (i := 9) rfl))) (List.mem_cons_of_mem _ (List.mem_append_left _ (List.mem_of_getElem? (i := 2) rfl))) (gi_sub (fun w h => (List.mem_cons_of_mem _ (List.mem_append_right _ (List.mem_append_right _ (List.mem_append_right _ (List.mem_append_right _ (List.mem_append_left _ h))))))) zg_j151_X12_copies)) rfl rfl rfl (by decide +kernel) ⟨Nat.le_of_ble_eq_true rfl, Nat.le_of_ble_eq_true rfl⟩ 0 rfl rfl rfl rfl (Nat.le_of_ble_eq_true rfl) ⟨Nat.le_of_ble_eq_true rfl, Nat.le_of_ble_eq_true rfl⟩ dX12_level_35 (fun v ty' w' hp hk' => ?_)
        obtain ⟨I28936, A28936, L28936, hI28936, hA28936, hV28936, r28937, r28938, hL28936, hC, rfl, rfl⟩ := hp
        replace hF := FE.bdM hF hC
        have f28939 := IvM_s17_0 hIv
        have f28940 := IvM_s17_164 hIv
        show GW κ 4 0 0 (wM r g I28936 A28936 L28936) 38 [(0, .ref (r 0)), (1, .int z1), (2, .int z2), (3, .int z3)] []
        refine g_aload_n hk dX12_level_38 rfl ?_
        refine g_iload_n hk dX12_level_39 rfl ?_
        refine g_iload_n hk dX12_level_40 rfl ?_
        refine g_callV (n := 2) hk (j165_X12_laysWindow l D zt r g I28936 A28936 L28936 z1 z2 hV28936 (by omega) (by omega) (by omega) (by omega) (by omega)) (SP.same _) (fun _ h => h) (gi_V (List.mem_cons_of_mem _ (List.mem_append_left _ (List.mem_of_getElem? (i := 10) rfl))) (List.mem_cons_of_mem _ (List.mem_append_left _ (List.mem_of_getElem? (i := 11) rfl))) (List.mem_cons_of_mem _ (List.mem_append_left _ (List.mem_of_getElem? (i := 12) rfl))) (List.mem_cons_of_mem _ (List.mem_append_left _ (List.mem_of_getElem? (i := 2) rfl))) (gi_sub (fun w h => (List.mem_cons_of_mem _ (List.mem_append_right _ (List.mem_append_right _ (List.mem_append_right _ (List.mem_append_right _ (List.mem_append_right _ (List.mem_append_left _ h)))))))) zg_j165_X12_laysWindow)) rfl rfl rfl (by decide +kernel) ⟨Nat.le_of_ble_eq_true rfl, Nat.le_of_ble_eq_true rfl⟩ 0 rfl rfl rfl rfl (Nat.le_of_ble_eq_true rfl) ⟨Nat.le_of_ble_eq_true rfl, Nat.le_of_ble_eq_true rfl⟩ dX12_level_41 (fun v ty' w' hp hk' => ?_)
        obtain ⟨I29751, A29751, L29751, hI29751, hA29751, hV29751, hL29751, hC, rfl, rfl⟩ := hp
        replace hF := FE.bdM hF hC
        show GW κ 4 0 0 (wM r g I29751 A29751 L29751) 44 [(0, .ref (r 0)), (1, .int z1), (2, .int z2), (3, .int z3)] []
        refine g_aload_n hk dX12_level_44 rfl ?_
        refine gM_r0_38 hk hin12 (List.mem_cons_of_mem _ (List.mem_append_left _ (List.mem_of_getElem? (i := 13) rfl))) dX12_level_45 ?_
        refine g_iload_n hk dX12_level_48 rfl ?_
        refine lM_19 (v := (A29751 19 z3.toNatClampNeg)) hk (vp_in_iff.mpr ⟨by omega, by omega⟩) rfl dX12_level_49 ?_
        have b29752l := Int32.le_toInt (A29751 19 z3.toNatClampNeg)
        have b29752h := Int32.toInt_lt (A29751 19 z3.toNatClampNeg)
        exact g_iret hk hR rfl ⟨I29751, A29751, L29751, (show Md [] I I29751 from (Md.tr (Md.tr Md.rf hI28936 rfl) hI29751 rfl)), (show Md [18, 19] A A29751 from (Md.tr (Md.tr Md.rf hA28936 rfl) hA29751 rfl)), hV29751, (A29751 19 z3.toNatClampNeg), (show L29751 = L from (hL29751.trans hL28936)), hF, rfl, rfl⟩ dX12_level_50
noncomputable def fM12_isOf (I : Nat → Int32) (A : Nat → Nat → Int32) (L : Nat → Nat → Int64) (z1 : Int32) (z2 : Int32) : Int32 := if fM12_isQuery I A L z1 = 0 then 0 else if fM12_isWindow I A L z2 (A 11 (5 * (I 15) + z1).toNatClampNeg) = 0 then 0 else 1
def wo_j168_X12_isOf : List Cond := [Cond.methodLink RX12 251 yX12_isQuery, Cond.instanceMethod yX12_isQuery, Cond.selects RX12 yX12_isQuery yX12_isQuery, Cond.initialized RX12, Cond.methodLink RX12 254 yX12_wideOf, Cond.instanceMethod yX12_wideOf, Cond.selects RX12 yX12_wideOf yX12_wideOf, Cond.methodLink RX12 257 yX12_isWindow, Cond.instanceMethod yX12_isWindow, Cond.selects RX12 yX12_isWindow yX12_isWindow]
def wz_j168_X12_isOf : List Cond := .code yX12_isOf cX12_isOf 3 (some .boolean) :: (wo_j168_X12_isOf ++ (wz_j147_X12_isQuery ++ (wz_j148_X12_wideOf ++ (wz_j160_X12_isWindow ++ ([] : List Cond)))))
theorem zg_j168_X12_isOf : ∀ w ∈ wz_j168_X12_isOf, goodWord w = true := zg_cons rfl (zg_app (by decide +kernel) (zg_app zg_j147_X12_isQuery (zg_app zg_j148_X12_wideOf (zg_app zg_j160_X12_isWindow zg_nil))))
theorem zi_j168_X12_isOf : ∀ w ∈ wz_j168_X12_isOf, w ∈ lw_tbl := zi_cons zw_1758 (zi_app (zi_cons zw_1663 (zi_cons zw_1665 (zi_cons zw_67 (zi_cons zw_115 (zi_cons zw_1667 (zi_cons zw_1669 (zi_cons zw_68 (zi_cons zw_1714 (zi_cons zw_1716 (zi_cons zw_72 zi_nil)))))))))) (zi_app zi_j147_X12_isQuery (zi_app zi_j148_X12_wideOf (zi_app zi_j160_X12_isWindow zi_nil))))
set_option maxHeartbeats 4000000 in
set_option maxRecDepth 100000 in
theorem j168_X12_isOf (l : Launch) (D : va_G) (zt : Nat × Nat × Nat × (Nat → Nat) × (Nat → Nat)) (r : Nat → Nat) (g : Nat → ClassId) (I : Nat → Int32) (A : Nat → Nat → Int32) (L : Nat → Nat → Int64) (z1 : Int32) (z2 : Int32) (hIv : IvM I A) : GM l D zt (tyM g) yX12_isOf wz_j168_X12_isOf ({ frames := 2, cells := 0, slots := 0, locals := 43 } : Room) [.ref (r 0), .int z1, .int z2] (wM r g I A L) (fun v _ w' => (FE (fM12_isOf I A L z1 z2) (0) ∧ v = some (.int 0) ∧ w' = wM r g I A L) ∨ ((¬ (z1.toInt < 0)) ∧ (0 ≤ z1.toInt) ∧ (z1.toInt ≤ 4) ∧ (¬ (z2.toInt < 0)) ∧ (0 ≤ z2.toInt) ∧ (z2.toInt ≤ 159) ∧ (0 ≤ z1.toInt) ∧ (z1.toInt ≤ 4) ∧ (0 ≤ z2.toInt) ∧ (z2.toInt ≤ 159) ∧ (1 ≤ (A 11 (5 * (I 15) + z1).toNatClampNeg).toInt) ∧ (z2.toInt + (A 11 (5 * (I 15) + z1).toNatClampNeg).toInt ≤ 160) ∧ FE (fM12_isOf I A L z1 z2) (1) ∧ v = some (.int 1) ∧ w' = wM r g I A L)) 0 0 := by
  refine GM.of (cc := cX12_isOf) (maxL := 3) (ret := (some .boolean)) (own := RX12) (lv := [(0, .ref (r 0)), (1, .int z1), (2, .int z2)]) (by decide) rfl rfl (Nat.le_of_ble_eq_true rfl) rfl (fun κ sz hk hR hN => ?_)
  have hF : FE (fM12_isOf I A L z1 z2) (fM12_isOf I A L z1 z2) := FE.rf
  refine g_aload_n hk dX12_isOf_0 rfl ?_
  refine g_iload_n hk dX12_isOf_1 rfl ?_
  refine g_callV (n := 1) hk (j147_X12_isQuery l D zt r g I A L z1 hIv) (SP.same _) (fun _ h => h) (gi_V (List.mem_cons_of_mem _ (List.mem_append_left _ (List.mem_of_getElem? (i := 0) rfl))) (List.mem_cons_of_mem _ (List.mem_append_left _ (List.mem_of_getElem? (i := 1) rfl))) (List.mem_cons_of_mem _ (List.mem_append_left _ (List.mem_of_getElem? (i := 2) rfl))) (List.mem_cons_of_mem _ (List.mem_append_left _ (List.mem_of_getElem? (i := 3) rfl))) (gi_sub (fun w h => (List.mem_cons_of_mem _ (List.mem_append_right _ (List.mem_append_left _ h)))) zg_j147_X12_isQuery)) rfl rfl rfl (by decide +kernel) ⟨Nat.le_of_ble_eq_true rfl, Nat.le_of_ble_eq_true rfl⟩ 0 rfl rfl rfl rfl (Nat.le_of_ble_eq_true rfl) ⟨Nat.le_of_ble_eq_true rfl, Nat.le_of_ble_eq_true rfl⟩ dX12_isOf_2 (fun v ty' w' hp hk' => ?_)
  rcases hp with ⟨hC, rfl, rfl⟩ | ⟨c29754, c29755, c29756, c29757, hC, rfl, rfl⟩
  · skip
    replace hF := FE.pos hF hC
    show GW κ 3 0 0 (wM r g I A L) 5 [(0, .ref (r 0)), (1, .int z1), (2, .int z2)] [.int 0]
    refine g_if_eq (tgt := 25) (a := 0) hk dX12_isOf_5 (by decide) rfl (fun _ => ?_) (fun z9 => absurd (show (0 : Int) = (0 : Int) from by decide) z9)
    refine g_iconst (v := 0) hk dX12_isOf_25 (by decide) ?_
    exact g_iret hk hR rfl (Or.inl ⟨hF, rfl, rfl⟩) dX12_isOf_26
  · skip
    replace hF := FE.neg hF (fe_ne hC (by decide))
    have f29759 : 0 ≤ (A 11 (5 * (I 15) + z1).toNatClampNeg).toInt ∧ (A 11 (5 * (I 15) + z1).toNatClampNeg).toInt ≤ 16 := IvM_a11 hIv _
    show GW κ 3 0 0 (wM r g I A L) 5 [(0, .ref (r 0)), (1, .int z1), (2, .int z2)] [.int 1]
    refine g_if_eq (tgt := 25) (a := 1) hk dX12_isOf_5 (by decide) rfl (fun z9 => absurd z9 (show ¬ ((1 : Int) = (0 : Int)) from by decide)) (fun _ => ?_)
    refine g_aload_n hk dX12_isOf_8 rfl ?_
    refine g_iload_n hk dX12_isOf_9 rfl ?_
    refine g_aload_n hk dX12_isOf_10 rfl ?_
    refine g_iload_n hk dX12_isOf_11 rfl ?_
    refine g_callV (n := 1) hk (j148_X12_wideOf l D zt r g I A L z1 hIv (by omega) (by omega)) (SP.same _) (fun _ h => h) (gi_V (List.mem_cons_of_mem _ (List.mem_append_left _ (List.mem_of_getElem? (i := 4) rfl))) (List.mem_cons_of_mem _ (List.mem_append_left _ (List.mem_of_getElem? (i := 5) rfl))) (List.mem_cons_of_mem _ (List.mem_append_left _ (List.mem_of_getElem? (i := 6) rfl))) (List.mem_cons_of_mem _ (List.mem_append_left _ (List.mem_of_getElem? (i := 3) rfl))) (gi_sub (fun w h => (List.mem_cons_of_mem _ (List.mem_append_right _ (List.mem_append_right _ (List.mem_append_left _ h))))) zg_j148_X12_wideOf)) rfl rfl rfl (by decide +kernel) ⟨Nat.le_of_ble_eq_true rfl, Nat.le_of_ble_eq_true rfl⟩ 0 rfl rfl rfl rfl (Nat.le_of_ble_eq_true rfl) ⟨Nat.le_of_ble_eq_true rfl, Nat.le_of_ble_eq_true rfl⟩ dX12_isOf_12 (fun v ty' w' hp hk' => ?_)
    obtain ⟨rfl, rfl⟩ := hp
    show GW κ 3 0 0 (wM r g I A L) 15 [(0, .ref (r 0)), (1, .int z1), (2, .int z2)] [.int (A 11 (5 * (I 15) + z1).toNatClampNeg), .int z2, .ref (r 0)]
    refine g_callV (n := 2) hk (j160_X12_isWindow l D zt r g I A L z2 (A 11 (5 * (I 15) + z1).toNatClampNeg) hIv) (SP.same _) (fun _ h => h) (gi_V (List.mem_cons_of_mem _ (List.mem_append_left _ (List.mem_of_getElem? (i := 7) rfl))) (List.mem_cons_of_mem _ (List.mem_append_left _ (List.mem_of_getElem? (i := 8) rfl))) (List.mem_cons_of_mem _ (List.mem_append_left _ (List.mem_of_getElem? (i := 9) rfl))) (List.mem_cons_of_mem _ (List.mem_append_left _ (List.mem_of_getElem? (i := 3) rfl))) (gi_sub (fun w h => (List.mem_cons_of_mem _ (List.mem_append_right _ (List.mem_append_right _ (List.mem_append_right _ (List.mem_append_left _ h)))))) zg_j160_X12_isWindow)) rfl rfl rfl (by decide +kernel) ⟨Nat.le_of_ble_eq_true rfl, Nat.le_of_ble_eq_true rfl⟩ 0 rfl rfl rfl rfl (Nat.le_of_ble_eq_true rfl) ⟨Nat.le_of_ble_eq_true rfl, Nat.le_of_ble_eq_true rfl⟩ dX12_isOf_15 (fun v ty' w' hp hk' => ?_)
    rcases hp with ⟨hC, rfl, rfl⟩ | ⟨c29761, c29762, c29763, c29764, c29765, c29766, c29767, hC, rfl, rfl⟩
    · skip
      replace hF := FE.pos hF hC
      show GW κ 3 0 0 (wM r g I A L) 18 [(0, .ref (r 0)), (1, .int z1), (2, .int z2)] [.int 0]
      refine g_if_eq (tgt := 25) (a := 0) hk dX12_isOf_18 (by decide) rfl (fun _ => ?_) (fun z9 => absurd (show (0 : Int) = (0 : Int) from by decide) z9)
      refine g_iconst (v := 0) hk dX12_isOf_25 (by decide) ?_
      exact g_iret hk hR rfl (Or.inl ⟨hF, rfl, rfl⟩) dX12_isOf_26
    · skip
      replace hF := FE.neg hF (fe_ne hC (by decide))
      show GW κ 3 0 0 (wM r g I A L) 18 [(0, .ref (r 0)), (1, .int z1), (2, .int z2)] [.int 1]
      refine g_if_eq (tgt := 25) (a := 1) hk dX12_isOf_18 (by decide) rfl (fun z9 => absurd z9 (show ¬ ((1 : Int) = (0 : Int)) from by decide)) (fun _ => ?_)
      refine g_iconst (v := 1) hk dX12_isOf_21 (by decide) ?_
      refine g_goto (tgt := 26) hk dX12_isOf_22 (by decide) ?_
      exact g_iret hk hR rfl (Or.inr (⟨c29754, c29755, c29756, c29761, c29763, c29764, (by omega), (by omega), (by omega), (by omega), (by omega), (by omega), hF, rfl, rfl⟩)) dX12_isOf_26
noncomputable def bM12_changesBoth_2 (z1 : Int32) : (Int32 → (Nat → Int32) → (Nat → Nat → Int32) → (Nat → Nat → Int64) → (Int32 × (Nat → Int32) × (Nat → Nat → Int32) × (Nat → Nat → Int64))) → Int32 → (Nat → Int32) → (Nat → Nat → Int32) → (Nat → Nat → Int64) → (Int32 × (Nat → Int32) × (Nat → Nat → Int32) × (Nat → Nat → Int64)) := fun kk29810 x29793 I29796 A29796 L29796 => if z1.toInt ≤ x29793.toInt then (0, I29796, A29796, L29796) else f_lt (x29793 + Int32.ofInt 1) fun y29813 => kk29810 y29813 I29796 (up3 (up3 A29796 19 (x29793.toNatClampNeg) (A29796 20 x29793.toNatClampNeg)) 20 (x29793.toNatClampNeg) (A29796 19 x29793.toNatClampNeg)) L29796
noncomputable def fM12_changesBoth (I : Nat → Int32) (A : Nat → Nat → Int32) (L : Nat → Nat → Int64) (z1 : Int32) : Int32 × (Nat → Int32) × (Nat → Nat → Int32) × (Nat → Nat → Int64) := itr_iIAL dfM (bM12_changesBoth_2 z1) FU 0 I A L
def wo_j171_X12_changesBoth : List Cond := [Cond.fieldLink RX12 76 "WarpDeskModel" "firstAt" "[I", Cond.fieldLink RX12 79 "WarpDeskModel" "otherAt" "[I"]
def wz_j171_X12_changesBoth : List Cond := .code yX12_changesBoth cX12_changesBoth 4 none :: (wo_j171_X12_changesBoth ++ (wsX120 ++ ([] : List Cond)))
theorem zg_j171_X12_changesBoth : ∀ w ∈ wz_j171_X12_changesBoth, goodWord w = true := zg_cons rfl (zg_app (by decide +kernel) (zg_app zgU_wsX120 zg_nil))
theorem zi_j171_X12_changesBoth : ∀ w ∈ wz_j171_X12_changesBoth, w ∈ lw_tbl := zi_cons zw_1770 (zi_app (zi_cons zw_1416 (zi_cons zw_1417 zi_nil)) (zi_app inX12 zi_nil))
set_option maxHeartbeats 4000000 in
set_option maxRecDepth 100000 in
theorem j171_X12_changesBoth (l : Launch) (D : va_G) (zt : Nat × Nat × Nat × (Nat → Nat) × (Nat → Nat)) (r : Nat → Nat) (g : Nat → ClassId) (I : Nat → Int32) (A : Nat → Nat → Int32) (L : Nat → Nat → Int64) (z1 : Int32) (hIv : IvM I A) (hp0 : 0 ≤ z1.toInt) (hp1 : z1.toInt ≤ 16) : GM l D zt (tyM g) yX12_changesBoth wz_j171_X12_changesBoth ({ frames := 0, cells := 0, slots := 0, locals := 0 } : Room) [.ref (r 0), .int z1] (wM r g I A L) (fun v _ w' => ∃ (I' : Nat → Int32) (A' : Nat → Nat → Int32) (L' : Nat → Nat → Int64), Md [] I I' ∧ Md [19, 20] A A' ∧ IvM I' A' ∧ (L' = L) ∧ FE (fM12_changesBoth I A L z1) (0, I', A', L') ∧ v = none ∧ w' = wM r g I' A' L') 0 0 := by
  refine GM.of (cc := cX12_changesBoth) (maxL := 4) (ret := none) (own := RX12) (lv := [(0, .ref (r 0)), (1, .int z1)]) (by decide) rfl rfl (Nat.le_of_ble_eq_true rfl) rfl (fun κ sz hk hR hN => ?_)
  have hin12 : ∀ w ∈ u_ws RX12 TX12 55, w ∈ wz_j171_X12_changesBoth := fun w h => (List.mem_cons_of_mem _ (List.mem_append_right _ (List.mem_append_left _ h)))
  have hF : FE (fM12_changesBoth I A L z1) (fM12_changesBoth I A L z1) := FE.rf
  refine g_iconst (v := 0) hk dX12_changesBoth_0 (by decide) ?_
  refine g_istore_n (lv' := [(2, .int 0), (0, .ref (r 0)), (1, .int z1)]) hk dX12_changesBoth_1 (by decide) rfl ?_
  have lp29807 : ∀ (n29808 : Nat) (x29793 : Int32) (I29796 : Nat → Int32) (A29796 : Nat → Nat → Int32) (L29796 : Nat → Nat → Int64), (Md [] I I29796) → (Md [19, 20] A A29796) → (IvM I29796 A29796) → (L29796 = L) → (0 ≤ x29793.toInt) → (x29793.toInt ≤ 16) → (17 - x29793.toInt < (n29808 : Int)) → (0 < n29808) → (FE (fM12_changesBoth I A L z1) (itr_iIAL dfM (bM12_changesBoth_2 z1) n29808 x29793 I29796 A29796 L29796)) → GW κ 4 0 0 (wM r g I29796 A29796 L29796) 2 [(2, .int x29793), (0, .ref (r 0)), (1, .int z1)] [] := by
    intro n29808
    induction n29808 with
    | zero =>
      intro x29793 I29796 A29796 L29796 hI29796 hA29796 hV29796 hL29796 h29805 h29806 m29809 m29809z hF
      exact absurd m29809z (Nat.lt_irrefl 0)
    | succ n29808 ih29811 =>
      intro x29793 I29796 A29796 L29796 hI29796 hA29796 hV29796 hL29796 h29805 h29806 m29809 m29809z hF
      replace hF := FE.itr_iIAL hF
      refine g_iload_n hk dX12_changesBoth_2 rfl ?_
      refine g_iload_n hk dX12_changesBoth_3 rfl ?_
      refine g_icmp_ge (tgt := 39) (a := x29793.toInt) (b := z1.toInt) hk dX12_changesBoth_4 (by decide) rfl rfl (fun c29812 => ?_) (fun c29812 => ?_)
      · skip
        replace hF := FE.pos hF c29812
        exact g_vret hk hR ⟨I29796, A29796, L29796, (show Md [] I I29796 from (Md.tr Md.rf hI29796 rfl)), (show Md [19, 20] A A29796 from (Md.tr Md.rf hA29796 rfl)), hV29796, (show L29796 = L from hL29796), hF, rfl, rfl⟩ dX12_changesBoth_39
      · skip
        replace hF := FE.neg hF c29812
        refine g_aload_n hk dX12_changesBoth_7 rfl ?_
        refine gM_r0_38 hk hin12 (List.mem_cons_of_mem _ (List.mem_append_left _ (List.mem_of_getElem? (i := 0) rfl))) dX12_changesBoth_8 ?_
        refine g_iload_n hk dX12_changesBoth_11 rfl ?_
        refine lM_19 (v := (A29796 19 x29793.toNatClampNeg)) hk (vp_in_iff.mpr ⟨by omega, by omega⟩) rfl dX12_changesBoth_12 ?_
        refine g_istore_n (lv' := [(3, .int (A29796 19 x29793.toNatClampNeg)), (2, .int x29793), (0, .ref (r 0)), (1, .int z1)]) hk dX12_changesBoth_13 (by decide) rfl ?_
        refine g_aload_n hk dX12_changesBoth_14 rfl ?_
        refine gM_r0_38 hk hin12 (List.mem_cons_of_mem _ (List.mem_append_left _ (List.mem_of_getElem? (i := 0) rfl))) dX12_changesBoth_15 ?_
        refine g_iload_n hk dX12_changesBoth_18 rfl ?_
        refine g_aload_n hk dX12_changesBoth_19 rfl ?_
        refine gM_r0_39 hk hin12 (List.mem_cons_of_mem _ (List.mem_append_left _ (List.mem_of_getElem? (i := 1) rfl))) dX12_changesBoth_20 ?_
        refine g_iload_n hk dX12_changesBoth_23 rfl ?_
        refine lM_20 (v := (A29796 20 x29793.toNatClampNeg)) hk (vp_in_iff.mpr ⟨by omega, by omega⟩) rfl dX12_changesBoth_24 ?_
        refine sM_19 (j := x29793.toNatClampNeg) hk (vp_in_iff.mpr ⟨by omega, by omega⟩) rfl dX12_changesBoth_25 ?_
        refine g_aload_n hk dX12_changesBoth_26 rfl ?_
        refine gM_r0_39 hk hin12 (List.mem_cons_of_mem _ (List.mem_append_left _ (List.mem_of_getElem? (i := 1) rfl))) dX12_changesBoth_27 ?_
        refine g_iload_n hk dX12_changesBoth_30 rfl ?_
        refine g_iload_n hk dX12_changesBoth_31 rfl ?_
        refine sM_20 (j := x29793.toNatClampNeg) hk (vp_in_iff.mpr ⟨by omega, by omega⟩) rfl dX12_changesBoth_32 ?_
        obtain ⟨y29813, ey29813⟩ : ∃ y : Int32, y = x29793 + Int32.ofInt 1 := ⟨_, rfl⟩
        replace hF := FE.lt hF ey29813
        have hy29813 : y29813.toInt = x29793.toInt + 1 := i32_add ey29813 rfl (by decide) (by omega) (by omega)
        refine g_iinc (v := y29813) (lv' := [(2, .int y29813), (3, .int (A29796 19 x29793.toNatClampNeg)), (0, .ref (r 0)), (1, .int z1)]) hk 1 dX12_changesBoth_33 rfl ey29813.symm (by decide) rfl ?_
        refine g_goto (tgt := 2) hk dX12_changesBoth_36 (by decide) ?_
        exact g_lv (List.forall_mem_cons.mpr ⟨List.mem_of_getElem? (i := 0) rfl, (List.forall_mem_cons.mpr ⟨List.mem_of_getElem? (i := 2) rfl, (List.forall_mem_cons.mpr ⟨List.mem_of_getElem? (i := 3) rfl, (fun _ h => absurd h List.not_mem_nil)⟩)⟩)⟩) (ih29811 y29813 I29796 (up3 (up3 A29796 19 (x29793.toNatClampNeg) (A29796 20 x29793.toNatClampNeg)) 20 (x29793.toNatClampNeg) (A29796 19 x29793.toNatClampNeg)) L29796 (show Md [] I I29796 from Md.tr hI29796 (show Md [] I29796 I29796 from Md.rf) rfl) (show Md [19, 20] A (up3 (up3 A29796 19 (x29793.toNatClampNeg) (A29796 20 x29793.toNatClampNeg)) 20 (x29793.toNatClampNeg) (A29796 19 x29793.toNatClampNeg)) from Md.tr hA29796 (show Md [19, 20] A29796 (up3 (up3 A29796 19 (x29793.toNatClampNeg) (A29796 20 x29793.toNatClampNeg)) 20 (x29793.toNatClampNeg) (A29796 19 x29793.toNatClampNeg)) from (Md.up3 (Md.up3 Md.rf rfl) rfl)) rfl) ⟨(IvM_f1 (I := I29796) (A := A29796) hV29796), (IvM_f2 (I := I29796) (A := A29796) hV29796), (IvM_f3 (I := I29796) (A := A29796) hV29796), (IvM_f4 (I := I29796) (A := A29796) hV29796), (IvM_f6 (I := I29796) (A := A29796) hV29796), (IvM_f8 (I := I29796) (A := A29796) hV29796), (IvM_f15 (I := I29796) (A := A29796) hV29796), (IvM_f16 (I := I29796) (A := A29796) hV29796), (IvM_f17 (I := I29796) (A := A29796) hV29796), (IvM_f18 (I := I29796) (A := A29796) hV29796), (IvM_f22 (I := I29796) (A := A29796) hV29796), (IvM_f23 (I := I29796) (A := A29796) hV29796), (IvM_f24 (I := I29796) (A := A29796) hV29796), (IvM_a11 (I := I29796) (A := A29796) hV29796), (IvM_a26 (I := I29796) (A := A29796) hV29796), (IvM_s8_0 (I := I29796) (A := A29796) hV29796), (IvM_s8_1 (I := I29796) (A := A29796) hV29796), (IvM_s10_0 (I := I29796) (A := A29796) hV29796), (IvM_s10_1 (I := I29796) (A := A29796) hV29796), (IvM_s17_0 (I := I29796) (A := A29796) hV29796), (IvM_s17_164 (I := I29796) (A := A29796) hV29796), (IvM_lv (I := I29796) (A := A29796) hV29796), (IvM_sd (I := I29796) (A := A29796) hV29796), (IvM_nq (I := I29796) (A := A29796) hV29796), (IvM_hr (I := I29796) (A := A29796) hV29796), (IvM_hh (I := I29796) (A := A29796) hV29796), trivial⟩ (show L29796 = L from hL29796) (by omega) (by omega) (by omega) (by omega) hF)
  have k29814 : (0 : Int32).toInt = 0 := rfl
  have b29816 := Int32.le_toInt (0 : Int32)
  have b29817 := Int32.toInt_lt (0 : Int32)
  have n29815a : 17 - (0 : Int32).toInt < (FU : Int) := by have := FU_eq; omega
  have n29815b : 0 < FU := by have := FU_eq; omega
  exact lp29807 FU 0 I A L Md.rf Md.rf hIv rfl (by omega) (by omega) n29815a n29815b hF
noncomputable def bM12_laysQuery_2 (A : Nat → Nat → Int32) (I : Nat → Int32) (z1 : Int32) : (Int32 → (Nat → Int32) → (Nat → Nat → Int32) → (Nat → Nat → Int64) → (Int32 × (Nat → Int32) × (Nat → Nat → Int32) × (Nat → Nat → Int64))) → Int32 → (Nat → Int32) → (Nat → Nat → Int32) → (Nat → Nat → Int64) → (Int32 × (Nat → Int32) × (Nat → Nat → Int32) × (Nat → Nat → Int64)) := fun kk29869 x29820 I29823 A29823 L29823 => if (A 11 (5 * (I 15) + z1).toNatClampNeg).toInt ≤ x29820.toInt then f_bdM (fM12_levelsFirst I29823 A29823 L29823 (A 11 (5 * (I 15) + z1).toNatClampNeg)) fun _ I29874 A29874 L29874 => (0, I29874, A29874, L29874) else f_lt ((5 : Int32) * (I 15)) fun y29876 => f_lt (y29876 + z1) fun y29877 => f_lt ((16 : Int32) * y29877) fun y29878 => f_lt (y29878 + x29820) fun y29879 => f_lt (x29820 + Int32.ofInt 1) fun y29880 => kk29869 y29880 I29823 (up3 A29823 19 (x29820.toNatClampNeg) (A 12 y29879.toNatClampNeg)) L29823
noncomputable def fM12_laysQuery (I : Nat → Int32) (A : Nat → Nat → Int32) (L : Nat → Nat → Int64) (z1 : Int32) : Int32 × (Nat → Int32) × (Nat → Nat → Int32) × (Nat → Nat → Int64) := itr_iIAL dfM (bM12_laysQuery_2 A I z1) FU 0 I A L
def wo_j172_X12_laysQuery : List Cond := [Cond.methodLink RX12 254 yX12_wideOf, Cond.instanceMethod yX12_wideOf, Cond.selects RX12 yX12_wideOf yX12_wideOf, Cond.initialized RX12, Cond.methodLink RX12 264 yX12_levelsFirst, Cond.instanceMethod yX12_levelsFirst, Cond.selects RX12 yX12_levelsFirst yX12_levelsFirst, Cond.fieldLink RX12 76 "WarpDeskModel" "firstAt" "[I", Cond.fieldLink RX12 55 "WarpDeskModel" "queryAt" "[I", Cond.fieldLink RX12 197 "WarpDeskModel" "live" "I"]
def wz_j172_X12_laysQuery : List Cond := .code yX12_laysQuery cX12_laysQuery 3 none :: (wo_j172_X12_laysQuery ++ (wsX120 ++ (wz_j148_X12_wideOf ++ (wz_j166_X12_levelsFirst ++ ([] : List Cond)))))
theorem zg_j172_X12_laysQuery : ∀ w ∈ wz_j172_X12_laysQuery, goodWord w = true := zg_cons rfl (zg_app (by decide +kernel) (zg_app zgU_wsX120 (zg_app zg_j148_X12_wideOf (zg_app zg_j166_X12_levelsFirst zg_nil))))
theorem zi_j172_X12_laysQuery : ∀ w ∈ wz_j172_X12_laysQuery, w ∈ lw_tbl := zi_cons zw_1774 (zi_app (zi_cons zw_1667 (zi_cons zw_1669 (zi_cons zw_68 (zi_cons zw_115 (zi_cons zw_1739 (zi_cons zw_1741 (zi_cons zw_77 (zi_cons zw_1416 (zi_cons zw_1408 (zi_cons zw_1400 zi_nil)))))))))) (zi_app inX12 (zi_app zi_j148_X12_wideOf (zi_app zi_j166_X12_levelsFirst zi_nil))))
set_option maxHeartbeats 4000000 in
set_option maxRecDepth 100000 in
theorem j172_X12_laysQuery (l : Launch) (D : va_G) (zt : Nat × Nat × Nat × (Nat → Nat) × (Nat → Nat)) (r : Nat → Nat) (g : Nat → ClassId) (I : Nat → Int32) (A : Nat → Nat → Int32) (L : Nat → Nat → Int64) (z1 : Int32) (hIv : IvM I A) (hp0 : 0 ≤ z1.toInt) (hp1 : z1.toInt ≤ 4) (hp2 : 1 ≤ (A 11 (5 * (I 15) + z1).toNatClampNeg).toInt) : GM l D zt (tyM g) yX12_laysQuery wz_j172_X12_laysQuery ({ frames := 2, cells := 0, slots := 0, locals := 49 } : Room) [.ref (r 0), .int z1] (wM r g I A L) (fun v _ w' => ∃ (I' : Nat → Int32) (A' : Nat → Nat → Int32) (L' : Nat → Nat → Int64), Md [] I I' ∧ Md [19] A A' ∧ IvM I' A' ∧ (L' = L) ∧ FE (fM12_laysQuery I A L z1) (0, I', A', L') ∧ v = none ∧ w' = wM r g I' A' L') 0 0 := by
  refine GM.of (cc := cX12_laysQuery) (maxL := 3) (ret := none) (own := RX12) (lv := [(0, .ref (r 0)), (1, .int z1)]) (by decide) rfl rfl (Nat.le_of_ble_eq_true rfl) rfl (fun κ sz hk hR hN => ?_)
  have hin12 : ∀ w ∈ u_ws RX12 TX12 55, w ∈ wz_j172_X12_laysQuery := fun w h => (List.mem_cons_of_mem _ (List.mem_append_right _ (List.mem_append_left _ h)))
  have hF : FE (fM12_laysQuery I A L z1) (fM12_laysQuery I A L z1) := FE.rf
  refine g_iconst (v := 0) hk dX12_laysQuery_0 (by decide) ?_
  refine g_istore_n (lv' := [(2, .int 0), (0, .ref (r 0)), (1, .int z1)]) hk dX12_laysQuery_1 (by decide) rfl ?_
  have lp29866 : ∀ (n29867 : Nat) (x29820 : Int32) (I29823 : Nat → Int32) (A29823 : Nat → Nat → Int32) (L29823 : Nat → Nat → Int64), (Md [] I I29823) → (Md [19] A A29823) → (IvM I29823 A29823) → (L29823 = L) → (0 ≤ x29820.toInt) → (x29820.toInt ≤ 16) → (17 - x29820.toInt < (n29867 : Int)) → (0 < n29867) → (FE (fM12_laysQuery I A L z1) (itr_iIAL dfM (bM12_laysQuery_2 A I z1) n29867 x29820 I29823 A29823 L29823)) → GW κ 3 0 0 (wM r g I29823 A29823 L29823) 2 [(2, .int x29820), (0, .ref (r 0)), (1, .int z1)] [] := by
    intro n29867
    induction n29867 with
    | zero =>
      intro x29820 I29823 A29823 L29823 hI29823 hA29823 hV29823 hL29823 h29864 h29865 m29868 m29868z hF
      exact absurd m29868z (Nat.lt_irrefl 0)
    | succ n29867 ih29870 =>
      intro x29820 I29823 A29823 L29823 hI29823 hA29823 hV29823 hL29823 h29864 h29865 m29868 m29868z hF
      replace hF := FE.itr_iIAL hF
      refine g_iload_n hk dX12_laysQuery_2 rfl ?_
      refine g_aload_n hk dX12_laysQuery_3 rfl ?_
      refine g_iload_n hk dX12_laysQuery_4 rfl ?_
      refine g_callV (n := 1) hk (j148_X12_wideOf l D zt r g I29823 A29823 L29823 z1 hV29823 (by omega) (by omega)) (SP.same _) (fun _ h => h) (gi_V (List.mem_cons_of_mem _ (List.mem_append_left _ (List.mem_of_getElem? (i := 0) rfl))) (List.mem_cons_of_mem _ (List.mem_append_left _ (List.mem_of_getElem? (i := 1) rfl))) (List.mem_cons_of_mem _ (List.mem_append_left _ (List.mem_of_getElem? (i := 2) rfl))) (List.mem_cons_of_mem _ (List.mem_append_left _ (List.mem_of_getElem? (i := 3) rfl))) (gi_sub (fun w h => (List.mem_cons_of_mem _ (List.mem_append_right _ (List.mem_append_right _ (List.mem_append_left _ h))))) zg_j148_X12_wideOf)) rfl rfl rfl (by decide +kernel) ⟨Nat.le_of_ble_eq_true rfl, Nat.le_of_ble_eq_true rfl⟩ 0 rfl rfl rfl rfl (Nat.le_of_ble_eq_true rfl) ⟨Nat.le_of_ble_eq_true rfl, Nat.le_of_ble_eq_true rfl⟩ dX12_laysQuery_5 (fun v ty' w' hp hk' => ?_)
      obtain ⟨rfl, rfl⟩ := hp
      show GW κ 3 0 0 (wM r g I29823 A29823 L29823) 8 [(2, .int x29820), (0, .ref (r 0)), (1, .int z1)] [.int (A29823 11 (5 * (I29823 15) + z1).toNatClampNeg), .int x29820]
      refine g_norm (v := (A 11 (5 * (I 15) + z1).toNatClampNeg)) (by rw [show I29823 15 = (I 15) from (hI29823 15 rfl)]; exact (congrFun (hA29823 11 rfl) _)) ?_
      have f29871 : 0 ≤ (A 11 (5 * (I 15) + z1).toNatClampNeg).toInt ∧ (A 11 (5 * (I 15) + z1).toNatClampNeg).toInt ≤ 16 := IvM_a11 hIv _
      refine g_icmp_ge (tgt := 41) (a := x29820.toInt) (b := (A 11 (5 * (I 15) + z1).toNatClampNeg).toInt) hk dX12_laysQuery_8 (by decide) rfl rfl (fun c29872 => ?_) (fun c29872 => ?_)
      · skip
        replace hF := FE.pos hF c29872
        refine g_aload_n hk dX12_laysQuery_41 rfl ?_
        refine g_aload_n hk dX12_laysQuery_42 rfl ?_
        refine g_iload_n hk dX12_laysQuery_43 rfl ?_
        refine g_callV (n := 1) hk (j148_X12_wideOf l D zt r g I29823 A29823 L29823 z1 hV29823 (by omega) (by omega)) (SP.same _) (fun _ h => h) (gi_V (List.mem_cons_of_mem _ (List.mem_append_left _ (List.mem_of_getElem? (i := 0) rfl))) (List.mem_cons_of_mem _ (List.mem_append_left _ (List.mem_of_getElem? (i := 1) rfl))) (List.mem_cons_of_mem _ (List.mem_append_left _ (List.mem_of_getElem? (i := 2) rfl))) (List.mem_cons_of_mem _ (List.mem_append_left _ (List.mem_of_getElem? (i := 3) rfl))) (gi_sub (fun w h => (List.mem_cons_of_mem _ (List.mem_append_right _ (List.mem_append_right _ (List.mem_append_left _ h))))) zg_j148_X12_wideOf)) rfl rfl rfl (by decide +kernel) ⟨Nat.le_of_ble_eq_true rfl, Nat.le_of_ble_eq_true rfl⟩ 0 rfl rfl rfl rfl (Nat.le_of_ble_eq_true rfl) ⟨Nat.le_of_ble_eq_true rfl, Nat.le_of_ble_eq_true rfl⟩ dX12_laysQuery_44 (fun v ty' w' hp hk' => ?_)
        obtain ⟨rfl, rfl⟩ := hp
        show GW κ 3 0 0 (wM r g I29823 A29823 L29823) 47 [(2, .int x29820), (0, .ref (r 0)), (1, .int z1)] [.int (A29823 11 (5 * (I29823 15) + z1).toNatClampNeg), .ref (r 0)]
        refine g_norm (v := (A 11 (5 * (I 15) + z1).toNatClampNeg)) (by rw [show I29823 15 = (I 15) from (hI29823 15 rfl)]; exact (congrFun (hA29823 11 rfl) _)) ?_
        refine g_callV (n := 1) hk (j166_X12_levelsFirst l D zt r g I29823 A29823 L29823 (A 11 (5 * (I 15) + z1).toNatClampNeg) hV29823 (by omega) (by omega)) (SP.same _) (fun _ h => h) (gi_V (List.mem_cons_of_mem _ (List.mem_append_left _ (List.mem_of_getElem? (i := 4) rfl))) (List.mem_cons_of_mem _ (List.mem_append_left _ (List.mem_of_getElem? (i := 5) rfl))) (List.mem_cons_of_mem _ (List.mem_append_left _ (List.mem_of_getElem? (i := 6) rfl))) (List.mem_cons_of_mem _ (List.mem_append_left _ (List.mem_of_getElem? (i := 3) rfl))) (gi_sub (fun w h => (List.mem_cons_of_mem _ (List.mem_append_right _ (List.mem_append_right _ (List.mem_append_right _ (List.mem_append_left _ h)))))) zg_j166_X12_levelsFirst)) rfl rfl rfl (by decide +kernel) ⟨Nat.le_of_ble_eq_true rfl, Nat.le_of_ble_eq_true rfl⟩ 0 rfl rfl rfl rfl (Nat.le_of_ble_eq_true rfl) ⟨Nat.le_of_ble_eq_true rfl, Nat.le_of_ble_eq_true rfl⟩ dX12_laysQuery_47 (fun v ty' w' hp hk' => ?_)
        obtain ⟨I29874, A29874, L29874, hI29874, hA29874, hV29874, hL29874, hC, rfl, rfl⟩ := hp
        replace hF := FE.bdM hF hC
        show GW κ 3 0 0 (wM r g I29874 A29874 L29874) 50 [(2, .int x29820), (0, .ref (r 0)), (1, .int z1)] []
        exact g_vret hk hR ⟨I29874, A29874, L29874, (show Md [] I I29874 from (Md.tr (Md.tr Md.rf hI29823 rfl) hI29874 rfl)), (show Md [19] A A29874 from (Md.tr (Md.tr Md.rf hA29823 rfl) hA29874 rfl)), hV29874, (show L29874 = L from (hL29874.trans hL29823)), hF, rfl, rfl⟩ dX12_laysQuery_50
      · skip
        replace hF := FE.neg hF c29872
        refine g_aload_n hk dX12_laysQuery_11 rfl ?_
        refine gM_r0_38 hk hin12 (List.mem_cons_of_mem _ (List.mem_append_left _ (List.mem_of_getElem? (i := 7) rfl))) dX12_laysQuery_12 ?_
        refine g_iload_n hk dX12_laysQuery_15 rfl ?_
        refine g_aload_n hk dX12_laysQuery_16 rfl ?_
        refine gM_r0_30 hk hin12 (List.mem_cons_of_mem _ (List.mem_append_left _ (List.mem_of_getElem? (i := 8) rfl))) dX12_laysQuery_17 ?_
        refine g_bipush (v := 16) hk dX12_laysQuery_20 (by decide) ?_
        refine g_iconst (v := 5) hk dX12_laysQuery_22 (by decide) ?_
        refine g_aload_n hk dX12_laysQuery_23 rfl ?_
        refine gM_i15 (v := (I 15)) hk hin12 (List.mem_cons_of_mem _ (List.mem_append_left _ (List.mem_of_getElem? (i := 9) rfl))) dX12_laysQuery_24 (hI29823 15 rfl) ?_
        have f29875 := IvM_f15 hIv
        refine g_imul hk dX12_laysQuery_27 ?_
        refine g_topi (fun y29876 ey29876 => ?_)
        replace hF := FE.lt hF ey29876
        have hy29876 : y29876.toInt = 5 * (I 15).toInt := i32_mul ey29876 rfl rfl (by omega) (by omega)
        refine g_iload_n hk dX12_laysQuery_28 rfl ?_
        refine g_iadd hk dX12_laysQuery_29 ?_
        refine g_topi (fun y29877 ey29877 => ?_)
        replace hF := FE.lt hF ey29877
        have hy29877 : y29877.toInt = y29876.toInt + z1.toInt := i32_add ey29877 rfl rfl (by omega) (by omega)
        refine g_imul hk dX12_laysQuery_30 ?_
        refine g_topi (fun y29878 ey29878 => ?_)
        replace hF := FE.lt hF ey29878
        have hy29878 : y29878.toInt = 16 * y29877.toInt := i32_mul ey29878 rfl rfl (by omega) (by omega)
        refine g_iload_n hk dX12_laysQuery_31 rfl ?_
        refine g_iadd hk dX12_laysQuery_32 ?_
        refine g_topi (fun y29879 ey29879 => ?_)
        replace hF := FE.lt hF ey29879
        have hy29879 : y29879.toInt = y29878.toInt + x29820.toInt := i32_add ey29879 rfl rfl (by omega) (by omega)
        refine lM_12 (v := (A 12 y29879.toNatClampNeg)) hk (vp_in_iff.mpr ⟨by omega, by omega⟩) (congrFun (hA29823 12 rfl) _) dX12_laysQuery_33 ?_
        refine sM_19 (j := x29820.toNatClampNeg) hk (vp_in_iff.mpr ⟨by omega, by omega⟩) rfl dX12_laysQuery_34 ?_
        obtain ⟨y29880, ey29880⟩ : ∃ y : Int32, y = x29820 + Int32.ofInt 1 := ⟨_, rfl⟩
        replace hF := FE.lt hF ey29880
        have hy29880 : y29880.toInt = x29820.toInt + 1 := i32_add ey29880 rfl (by decide) (by omega) (by omega)
        refine g_iinc (v := y29880) (lv' := [(2, .int y29880), (0, .ref (r 0)), (1, .int z1)]) hk 0 dX12_laysQuery_35 rfl ey29880.symm (by decide) rfl ?_
        refine g_goto (tgt := 2) hk dX12_laysQuery_38 (by decide) ?_
        exact g_lv (List.forall_mem_cons.mpr ⟨List.mem_of_getElem? (i := 0) rfl, (List.forall_mem_cons.mpr ⟨List.mem_of_getElem? (i := 1) rfl, (List.forall_mem_cons.mpr ⟨List.mem_of_getElem? (i := 2) rfl, (fun _ h => absurd h List.not_mem_nil)⟩)⟩)⟩) (ih29870 y29880 I29823 (up3 A29823 19 (x29820.toNatClampNeg) (A 12 y29879.toNatClampNeg)) L29823 (show Md [] I I29823 from Md.tr hI29823 (show Md [] I29823 I29823 from Md.rf) rfl) (show Md [19] A (up3 A29823 19 (x29820.toNatClampNeg) (A 12 y29879.toNatClampNeg)) from Md.tr hA29823 (show Md [19] A29823 (up3 A29823 19 (x29820.toNatClampNeg) (A 12 y29879.toNatClampNeg)) from (Md.up3 Md.rf rfl)) rfl) ⟨(IvM_f1 (I := I29823) (A := A29823) hV29823), (IvM_f2 (I := I29823) (A := A29823) hV29823), (IvM_f3 (I := I29823) (A := A29823) hV29823), (IvM_f4 (I := I29823) (A := A29823) hV29823), (IvM_f6 (I := I29823) (A := A29823) hV29823), (IvM_f8 (I := I29823) (A := A29823) hV29823), (IvM_f15 (I := I29823) (A := A29823) hV29823), (IvM_f16 (I := I29823) (A := A29823) hV29823), (IvM_f17 (I := I29823) (A := A29823) hV29823), (IvM_f18 (I := I29823) (A := A29823) hV29823), (IvM_f22 (I := I29823) (A := A29823) hV29823), (IvM_f23 (I := I29823) (A := A29823) hV29823), (IvM_f24 (I := I29823) (A := A29823) hV29823), (IvM_a11 (I := I29823) (A := A29823) hV29823), (IvM_a26 (I := I29823) (A := A29823) hV29823), (IvM_s8_0 (I := I29823) (A := A29823) hV29823), (IvM_s8_1 (I := I29823) (A := A29823) hV29823), (IvM_s10_0 (I := I29823) (A := A29823) hV29823), (IvM_s10_1 (I := I29823) (A := A29823) hV29823), (IvM_s17_0 (I := I29823) (A := A29823) hV29823), (IvM_s17_164 (I := I29823) (A := A29823) hV29823), (IvM_lv (I := I29823) (A := A29823) hV29823), (IvM_sd (I := I29823) (A := A29823) hV29823), (IvM_nq (I := I29823) (A := A29823) hV29823), (IvM_hr (I := I29823) (A := A29823) hV29823), (IvM_hh (I := I29823) (A := A29823) hV29823), trivial⟩ (show L29823 = L from hL29823) (by omega) (by omega) (by omega) (by omega) hF)
  have k29881 : (0 : Int32).toInt = 0 := rfl
  have b29883 := Int32.le_toInt (0 : Int32)
  have b29884 := Int32.toInt_lt (0 : Int32)
  have n29882a : 17 - (0 : Int32).toInt < (FU : Int) := by have := FU_eq; omega
  have n29882b : 0 < FU := by have := FU_eq; omega
  exact lp29866 FU 0 I A L Md.rf Md.rf hIv rfl (by omega) (by omega) n29882a n29882b hF
noncomputable def fM12_laysBoth (I : Nat → Int32) (A : Nat → Nat → Int32) (L : Nat → Nat → Int64) (z1 : Int32) (z2 : Int32) : Int32 × (Nat → Int32) × (Nat → Nat → Int32) × (Nat → Nat → Int64) := f_bdM (fM12_laysWindow (upd I 18 (A 11 (5 * (I 15) + z1).toNatClampNeg)) A L z2 (A 11 (5 * (I 15) + z1).toNatClampNeg)) fun _ I29792 A29792 L29792 => f_bdM (fM12_changesBoth I29792 A29792 L29792 (A 11 (5 * (I 15) + z1).toNatClampNeg)) fun _ I29819 A29819 L29819 => f_bdM (fM12_laysQuery I29819 A29819 L29819 z1) fun _ I29886 A29886 L29886 => (0, I29886, A29886, L29886)
def wo_j170_X12_laysBoth : List Cond := [Cond.methodLink RX12 254 yX12_wideOf, Cond.instanceMethod yX12_wideOf, Cond.selects RX12 yX12_wideOf yX12_wideOf, Cond.initialized RX12, Cond.fieldLink RX12 267 "WarpDeskModel" "wide" "I", Cond.methodLink RX12 270 yX12_laysWindow, Cond.instanceMethod yX12_laysWindow, Cond.selects RX12 yX12_laysWindow yX12_laysWindow, Cond.methodLink RX12 273 yX12_changesBoth, Cond.instanceMethod yX12_changesBoth, Cond.selects RX12 yX12_changesBoth yX12_changesBoth, Cond.methodLink RX12 276 yX12_laysQuery, Cond.instanceMethod yX12_laysQuery, Cond.selects RX12 yX12_laysQuery yX12_laysQuery]
def wz_j170_X12_laysBoth : List Cond := .code yX12_laysBoth cX12_laysBoth 3 none :: (wo_j170_X12_laysBoth ++ (wsX120 ++ (wz_j148_X12_wideOf ++ (wz_j165_X12_laysWindow ++ (wz_j171_X12_changesBoth ++ (wz_j172_X12_laysQuery ++ ([] : List Cond)))))))
theorem zg_j170_X12_laysBoth : ∀ w ∈ wz_j170_X12_laysBoth, goodWord w = true := zg_cons rfl (zg_app (by decide +kernel) (zg_app zgU_wsX120 (zg_app zg_j148_X12_wideOf (zg_app zg_j165_X12_laysWindow (zg_app zg_j171_X12_changesBoth (zg_app zg_j172_X12_laysQuery zg_nil))))))
theorem zi_j170_X12_laysBoth : ∀ w ∈ wz_j170_X12_laysBoth, w ∈ lw_tbl := zi_cons zw_1766 (zi_app (zi_cons zw_1667 (zi_cons zw_1669 (zi_cons zw_68 (zi_cons zw_115 (zi_cons zw_1415 (zi_cons zw_1735 (zi_cons zw_1737 (zi_cons zw_76 (zi_cons zw_1767 (zi_cons zw_1769 (zi_cons zw_81 (zi_cons zw_1771 (zi_cons zw_1773 (zi_cons zw_82 zi_nil)))))))))))))) (zi_app inX12 (zi_app zi_j148_X12_wideOf (zi_app zi_j165_X12_laysWindow (zi_app zi_j171_X12_changesBoth (zi_app zi_j172_X12_laysQuery zi_nil))))))
set_option maxHeartbeats 4000000 in
set_option maxRecDepth 100000 in
theorem j170_X12_laysBoth (l : Launch) (D : va_G) (zt : Nat × Nat × Nat × (Nat → Nat) × (Nat → Nat)) (r : Nat → Nat) (g : Nat → ClassId) (I : Nat → Int32) (A : Nat → Nat → Int32) (L : Nat → Nat → Int64) (z1 : Int32) (z2 : Int32) (hIv : IvM I A) (hp0 : 0 ≤ z1.toInt) (hp1 : z1.toInt ≤ 4) (hp2 : 0 ≤ z2.toInt) (hp3 : z2.toInt ≤ 159) (hp4 : 1 ≤ (A 11 (5 * (I 15) + z1).toNatClampNeg).toInt) (hp5 : z2.toInt + (A 11 (5 * (I 15) + z1).toNatClampNeg).toInt ≤ 160) : GM l D zt (tyM g) yX12_laysBoth wz_j170_X12_laysBoth ({ frames := 3, cells := 0, slots := 0, locals := 72 } : Room) [.ref (r 0), .int z1, .int z2] (wM r g I A L) (fun v _ w' => ∃ (I' : Nat → Int32) (A' : Nat → Nat → Int32) (L' : Nat → Nat → Int64), Md [18] I I' ∧ Md [19, 20] A A' ∧ IvM I' A' ∧ (1 ≤ (I' 18).toInt) ∧ (L' = L) ∧ FE (fM12_laysBoth I A L z1 z2) (0, I', A', L') ∧ v = none ∧ w' = wM r g I' A' L') 0 0 := by
  refine GM.of (cc := cX12_laysBoth) (maxL := 3) (ret := none) (own := RX12) (lv := [(0, .ref (r 0)), (1, .int z1), (2, .int z2)]) (by decide) rfl rfl (Nat.le_of_ble_eq_true rfl) rfl (fun κ sz hk hR hN => ?_)
  have hin12 : ∀ w ∈ u_ws RX12 TX12 55, w ∈ wz_j170_X12_laysBoth := fun w h => (List.mem_cons_of_mem _ (List.mem_append_right _ (List.mem_append_left _ h)))
  have hF : FE (fM12_laysBoth I A L z1 z2) (fM12_laysBoth I A L z1 z2) := FE.rf
  refine g_aload_n hk dX12_laysBoth_0 rfl ?_
  refine g_aload_n hk dX12_laysBoth_1 rfl ?_
  refine g_iload_n hk dX12_laysBoth_2 rfl ?_
  refine g_callV (n := 1) hk (j148_X12_wideOf l D zt r g I A L z1 hIv (by omega) (by omega)) (SP.same _) (fun _ h => h) (gi_V (List.mem_cons_of_mem _ (List.mem_append_left _ (List.mem_of_getElem? (i := 0) rfl))) (List.mem_cons_of_mem _ (List.mem_append_left _ (List.mem_of_getElem? (i := 1) rfl))) (List.mem_cons_of_mem _ (List.mem_append_left _ (List.mem_of_getElem? (i := 2) rfl))) (List.mem_cons_of_mem _ (List.mem_append_left _ (List.mem_of_getElem? (i := 3) rfl))) (gi_sub (fun w h => (List.mem_cons_of_mem _ (List.mem_append_right _ (List.mem_append_right _ (List.mem_append_left _ h))))) zg_j148_X12_wideOf)) rfl rfl rfl (by decide +kernel) ⟨Nat.le_of_ble_eq_true rfl, Nat.le_of_ble_eq_true rfl⟩ 0 rfl rfl rfl rfl (Nat.le_of_ble_eq_true rfl) ⟨Nat.le_of_ble_eq_true rfl, Nat.le_of_ble_eq_true rfl⟩ dX12_laysBoth_3 (fun v ty' w' hp hk' => ?_)
  obtain ⟨rfl, rfl⟩ := hp
  show GW κ 3 0 0 (wM r g I A L) 6 [(0, .ref (r 0)), (1, .int z1), (2, .int z2)] [.int (A 11 (5 * (I 15) + z1).toNatClampNeg), .ref (r 0)]
  have f29790 : 0 ≤ (A 11 (5 * (I 15) + z1).toNatClampNeg).toInt ∧ (A 11 (5 * (I 15) + z1).toNatClampNeg).toInt ≤ 16 := IvM_a11 hIv _
  refine pM_i18 hk hin12 (List.mem_cons_of_mem _ (List.mem_append_left _ (List.mem_of_getElem? (i := 4) rfl))) dX12_laysBoth_6 ?_
  refine g_aload_n hk dX12_laysBoth_9 rfl ?_
  refine g_iload_n hk dX12_laysBoth_10 rfl ?_
  refine g_aload_n hk dX12_laysBoth_11 rfl ?_
  refine gM_i18 (v := (A 11 (5 * (I 15) + z1).toNatClampNeg)) hk hin12 (List.mem_cons_of_mem _ (List.mem_append_left _ (List.mem_of_getElem? (i := 4) rfl))) dX12_laysBoth_12 rfl ?_
  refine g_callV (n := 2) hk (j165_X12_laysWindow l D zt r g (upd I 18 (A 11 (5 * (I 15) + z1).toNatClampNeg)) A L z2 (A 11 (5 * (I 15) + z1).toNatClampNeg) ⟨(IvM_f1 (I := I) (A := A) hIv), (IvM_f2 (I := I) (A := A) hIv), (IvM_f3 (I := I) (A := A) hIv), (IvM_f4 (I := I) (A := A) hIv), (IvM_f6 (I := I) (A := A) hIv), (IvM_f8 (I := I) (A := A) hIv), (IvM_f15 (I := I) (A := A) hIv), (IvM_f16 (I := I) (A := A) hIv), (IvM_f17 (I := I) (A := A) hIv), (show 0 ≤ (A 11 (5 * (I 15) + z1).toNatClampNeg).toInt ∧ (A 11 (5 * (I 15) + z1).toNatClampNeg).toInt ≤ 16 from ⟨by omega, by omega⟩), (IvM_f22 (I := I) (A := A) hIv), (IvM_f23 (I := I) (A := A) hIv), (IvM_f24 (I := I) (A := A) hIv), (IvM_a11 (I := I) (A := A) hIv), (IvM_a26 (I := I) (A := A) hIv), (IvM_s8_0 (I := I) (A := A) hIv), (IvM_s8_1 (I := I) (A := A) hIv), (IvM_s10_0 (I := I) (A := A) hIv), (IvM_s10_1 (I := I) (A := A) hIv), (IvM_s17_0 (I := I) (A := A) hIv), (IvM_s17_164 (I := I) (A := A) hIv), (IvM_lv (I := I) (A := A) hIv), (IvM_sd (I := I) (A := A) hIv), (IvM_nq (I := I) (A := A) hIv), (IvM_hr (I := I) (A := A) hIv), (IvM_hh (I := I) (A := A) hIv), trivial⟩ (by omega) (by omega) (by omega) (by omega) (by omega)) (SP.same _) (fun _ h => h) (gi_V (List.mem_cons_of_mem _ (List.mem_append_left _ (List.mem_of_getElem? (i := 5) rfl))) (List.mem_cons_of_mem _ (List.mem_append_left _ (List.mem_of_getElem? (i := 6) rfl))) (List.mem_cons_of_mem _ (List.mem_append_left _ (List.mem_of_getElem? (i := 7) rfl))) (List.mem_cons_of_mem _ (List.mem_append_left _ (List.mem_of_getElem? (i := 3) rfl))) (gi_sub (fun w h => (List.mem_cons_of_mem _ (List.mem_append_right _ (List.mem_append_right _ (List.mem_append_right _ (List.mem_append_left _ h)))))) zg_j165_X12_laysWindow)) rfl rfl rfl (by decide +kernel) ⟨Nat.le_of_ble_eq_true rfl, Nat.le_of_ble_eq_true rfl⟩ 0 rfl rfl rfl rfl (Nat.le_of_ble_eq_true rfl) ⟨Nat.le_of_ble_eq_true rfl, Nat.le_of_ble_eq_true rfl⟩ dX12_laysBoth_15 (fun v ty' w' hp hk' => ?_)
  obtain ⟨I29792, A29792, L29792, hI29792, hA29792, hV29792, hL29792, hC, rfl, rfl⟩ := hp
  replace hF := FE.bdM hF hC
  show GW κ 3 0 0 (wM r g I29792 A29792 L29792) 18 [(0, .ref (r 0)), (1, .int z1), (2, .int z2)] []
  refine g_aload_n hk dX12_laysBoth_18 rfl ?_
  refine g_aload_n hk dX12_laysBoth_19 rfl ?_
  refine gM_i18 (v := (A 11 (5 * (I 15) + z1).toNatClampNeg)) hk hin12 (List.mem_cons_of_mem _ (List.mem_append_left _ (List.mem_of_getElem? (i := 4) rfl))) dX12_laysBoth_20 (hI29792 18 rfl) ?_
  refine g_callV (n := 1) hk (j171_X12_changesBoth l D zt r g I29792 A29792 L29792 (A 11 (5 * (I 15) + z1).toNatClampNeg) hV29792 (by omega) (by omega)) (SP.same _) (fun _ h => h) (gi_V (List.mem_cons_of_mem _ (List.mem_append_left _ (List.mem_of_getElem? (i := 8) rfl))) (List.mem_cons_of_mem _ (List.mem_append_left _ (List.mem_of_getElem? (i := 9) rfl))) (List.mem_cons_of_mem _ (List.mem_append_left _ (List.mem_of_getElem? (i := 10) rfl))) (List.mem_cons_of_mem _ (List.mem_append_left _ (List.mem_of_getElem? (i := 3) rfl))) (gi_sub (fun w h => (List.mem_cons_of_mem _ (List.mem_append_right _ (List.mem_append_right _ (List.mem_append_right _ (List.mem_append_right _ (List.mem_append_left _ h))))))) zg_j171_X12_changesBoth)) rfl rfl rfl (by decide +kernel) ⟨Nat.le_of_ble_eq_true rfl, Nat.le_of_ble_eq_true rfl⟩ 0 rfl rfl rfl rfl (Nat.le_of_ble_eq_true rfl) ⟨Nat.le_of_ble_eq_true rfl, Nat.le_of_ble_eq_true rfl⟩ dX12_laysBoth_23 (fun v ty' w' hp hk' => ?_)
  obtain ⟨I29819, A29819, L29819, hI29819, hA29819, hV29819, hL29819, hC, rfl, rfl⟩ := hp
  replace hF := FE.bdM hF hC
  show GW κ 3 0 0 (wM r g I29819 A29819 L29819) 26 [(0, .ref (r 0)), (1, .int z1), (2, .int z2)] []
  refine g_aload_n hk dX12_laysBoth_26 rfl ?_
  refine g_iload_n hk dX12_laysBoth_27 rfl ?_
  refine g_callV (n := 1) hk (j172_X12_laysQuery l D zt r g I29819 A29819 L29819 z1 hV29819 (by omega) (by omega) (by first | (rw [show (A29819 11 (5 * (I29819 15) + z1).toNatClampNeg) = (A 11 (5 * (I 15) + z1).toNatClampNeg) from (by rw [show I29819 15 = (I 15) from ((hI29819 15 rfl).trans (hI29792 15 rfl))]; exact ((congrFun (hA29819 11 rfl) _).trans (congrFun (hA29792 11 rfl) _)))] <;> omega) | omega)) (SP.same _) (fun _ h => h) (gi_V (List.mem_cons_of_mem _ (List.mem_append_left _ (List.mem_of_getElem? (i := 11) rfl))) (List.mem_cons_of_mem _ (List.mem_append_left _ (List.mem_of_getElem? (i := 12) rfl))) (List.mem_cons_of_mem _ (List.mem_append_left _ (List.mem_of_getElem? (i := 13) rfl))) (List.mem_cons_of_mem _ (List.mem_append_left _ (List.mem_of_getElem? (i := 3) rfl))) (gi_sub (fun w h => (List.mem_cons_of_mem _ (List.mem_append_right _ (List.mem_append_right _ (List.mem_append_right _ (List.mem_append_right _ (List.mem_append_right _ (List.mem_append_left _ h)))))))) zg_j172_X12_laysQuery)) rfl rfl rfl (by decide +kernel) ⟨Nat.le_of_ble_eq_true rfl, Nat.le_of_ble_eq_true rfl⟩ 0 rfl rfl rfl rfl (Nat.le_of_ble_eq_true rfl) ⟨Nat.le_of_ble_eq_true rfl, Nat.le_of_ble_eq_true rfl⟩ dX12_laysBoth_28 (fun v ty' w' hp hk' => ?_)
  obtain ⟨I29886, A29886, L29886, hI29886, hA29886, hV29886, hL29886, hC, rfl, rfl⟩ := hp
  replace hF := FE.bdM hF hC
  show GW κ 3 0 0 (wM r g I29886 A29886 L29886) 31 [(0, .ref (r 0)), (1, .int z1), (2, .int z2)] []
  exact g_vret hk hR ⟨I29886, A29886, L29886, (show Md [18] I I29886 from (Md.tr (Md.tr (Md.tr (Md.up Md.rf rfl) hI29792 rfl) hI29819 rfl) hI29886 rfl)), (show Md [19, 20] A A29886 from (Md.tr (Md.tr (Md.tr Md.rf hA29792 rfl) hA29819 rfl) hA29886 rfl)), hV29886, (by rw [show (I29886 18) = (A 11 (5 * (I 15) + z1).toNatClampNeg) from ((hI29886 18 rfl).trans ((hI29819 18 rfl).trans (hI29792 18 rfl)))] <;> omega), (show L29886 = L from (hL29886.trans (hL29819.trans hL29792))), hF, rfl, rfl⟩ dX12_laysBoth_31
noncomputable def fM12_isBand (I : Nat → Int32) (A : Nat → Nat → Int32) (L : Nat → Nat → Int64) (z1 : Int32) (z2 : Int32) : Int32 := f_lt ((I 18) - (1 : Int32)) fun y29903 => if fM12_in I A L z2 0 y29903 = 0 then 0 else f_lt (z1 - z2) fun y29910 => f_lt (-(A 18 161)) fun y29911 => if fM12_in I A L y29910 y29911 (A 18 161) = 0 then 0 else 1
def wo_j175_X12_isBand : List Cond := [Cond.fieldLink RX12 267 "WarpDeskModel" "wide" "I", Cond.methodLink RX12 244 yX12_in, Cond.static yX12_in, Cond.initialized RX12, Cond.fieldLink RX12 73 "WarpDeskModel" "row" "[I"]
def wz_j175_X12_isBand : List Cond := .code yX12_isBand cX12_isBand 3 (some .boolean) :: (wo_j175_X12_isBand ++ (wsX120 ++ (wz_j145_X12_in ++ ([] : List Cond))))
theorem zg_j175_X12_isBand : ∀ w ∈ wz_j175_X12_isBand, goodWord w = true := zg_cons rfl (zg_app (by decide +kernel) (zg_app zgU_wsX120 (zg_app zg_j145_X12_in zg_nil)))
theorem zi_j175_X12_isBand : ∀ w ∈ wz_j175_X12_isBand, w ∈ lw_tbl := zi_cons zw_1787 (zi_app (zi_cons zw_1415 (zi_cons zw_1656 (zi_cons zw_1657 (zi_cons zw_115 (zi_cons zw_1414 zi_nil))))) (zi_app inX12 (zi_app zi_j145_X12_in zi_nil)))
set_option maxHeartbeats 4000000 in
set_option maxRecDepth 100000 in
theorem j175_X12_isBand (l : Launch) (D : va_G) (zt : Nat × Nat × Nat × (Nat → Nat) × (Nat → Nat)) (r : Nat → Nat) (g : Nat → ClassId) (I : Nat → Int32) (A : Nat → Nat → Int32) (L : Nat → Nat → Int64) (z1 : Int32) (z2 : Int32) (hIv : IvM I A) (hp0 : (-1) ≤ z1.toInt) (hp1 : z1.toInt ≤ 15) (hp2 : (-1) ≤ z2.toInt) (hp3 : z2.toInt ≤ 15) : GM l D zt (tyM g) yX12_isBand wz_j175_X12_isBand ({ frames := 1, cells := 0, slots := 0, locals := 22 } : Room) [.ref (r 0), .int z1, .int z2] (wM r g I A L) (fun v _ w' => (FE (fM12_isBand I A L z1 z2) (0) ∧ v = some (.int 0) ∧ w' = wM r g I A L) ∨ ((¬ (z2.toInt < 0)) ∧ (0 ≤ z2.toInt) ∧ FE (fM12_isBand I A L z1 z2) (1) ∧ v = some (.int 1) ∧ w' = wM r g I A L)) 0 0 := by
  refine GM.of (cc := cX12_isBand) (maxL := 3) (ret := (some .boolean)) (own := RX12) (lv := [(0, .ref (r 0)), (1, .int z1), (2, .int z2)]) (by decide) rfl rfl (Nat.le_of_ble_eq_true rfl) rfl (fun κ sz hk hR hN => ?_)
  have hin12 : ∀ w ∈ u_ws RX12 TX12 55, w ∈ wz_j175_X12_isBand := fun w h => (List.mem_cons_of_mem _ (List.mem_append_right _ (List.mem_append_left _ h)))
  have hF : FE (fM12_isBand I A L z1 z2) (fM12_isBand I A L z1 z2) := FE.rf
  refine g_iload_n hk dX12_isBand_0 rfl ?_
  refine g_iconst (v := 0) hk dX12_isBand_1 (by decide) ?_
  refine g_aload_n hk dX12_isBand_2 rfl ?_
  refine gM_i18 (v := (I 18)) hk hin12 (List.mem_cons_of_mem _ (List.mem_append_left _ (List.mem_of_getElem? (i := 0) rfl))) dX12_isBand_3 rfl ?_
  have f29902 := IvM_f18 hIv
  refine g_iconst (v := 1) hk dX12_isBand_6 (by decide) ?_
  refine g_isub hk dX12_isBand_7 ?_
  refine g_topi (fun y29903 ey29903 => ?_)
  replace hF := FE.lt hF ey29903
  have hy29903 : y29903.toInt = (I 18).toInt - 1 := i32_sub ey29903 rfl rfl (by omega) (by omega)
  have k29904 : (0 : Int32).toInt = 0 := rfl
  refine g_callS (n := 3) hk (j145_X12_in l D zt r g I A L z2 0 y29903 hIv) (SP.same _) (fun _ h => h) (gi_S (List.mem_cons_of_mem _ (List.mem_append_left _ (List.mem_of_getElem? (i := 1) rfl))) (List.mem_cons_of_mem _ (List.mem_append_left _ (List.mem_of_getElem? (i := 2) rfl))) (List.mem_cons_of_mem _ (List.mem_append_left _ (List.mem_of_getElem? (i := 3) rfl))) (gi_sub (fun w h => (List.mem_cons_of_mem _ (List.mem_append_right _ (List.mem_append_right _ (List.mem_append_left _ h))))) zg_j145_X12_in)) rfl rfl rfl (by decide +kernel) ⟨Nat.le_of_ble_eq_true rfl, Nat.le_of_ble_eq_true rfl⟩ rfl rfl (Nat.le_of_ble_eq_true rfl) ⟨Nat.le_of_ble_eq_true rfl, Nat.le_of_ble_eq_true rfl⟩ dX12_isBand_8 (fun v ty' w' hp hk' => ?_)
  rcases hp with ⟨c29905, hC, rfl, rfl⟩ | ⟨c29907, c29908, hC, rfl, rfl⟩
  · skip
    replace hF := FE.pos hF hC
    show GW κ 3 0 0 (wM r g I A L) 11 [(0, .ref (r 0)), (1, .int z1), (2, .int z2)] [.int 0]
    refine g_if_eq (tgt := 44) (a := 0) hk dX12_isBand_11 (by decide) rfl (fun _ => ?_) (fun z9 => absurd (show (0 : Int) = (0 : Int) from by decide) z9)
    refine g_iconst (v := 0) hk dX12_isBand_44 (by decide) ?_
    exact g_iret hk hR rfl (Or.inl ⟨hF, rfl, rfl⟩) dX12_isBand_45
  · skip
    replace hF := FE.neg hF (fe_ne hC (by decide))
    show GW κ 3 0 0 (wM r g I A L) 11 [(0, .ref (r 0)), (1, .int z1), (2, .int z2)] [.int 1]
    refine g_if_eq (tgt := 44) (a := 1) hk dX12_isBand_11 (by decide) rfl (fun z9 => absurd z9 (show ¬ ((1 : Int) = (0 : Int)) from by decide)) (fun _ => ?_)
    refine g_iload_n hk dX12_isBand_14 rfl ?_
    refine g_iload_n hk dX12_isBand_15 rfl ?_
    refine g_isub hk dX12_isBand_16 ?_
    refine g_topi (fun y29910 ey29910 => ?_)
    replace hF := FE.lt hF ey29910
    have hy29910 : y29910.toInt = z1.toInt - z2.toInt := i32_sub ey29910 rfl rfl (by omega) (by omega)
    refine g_aload_n hk dX12_isBand_17 rfl ?_
    refine gM_r0_36 hk hin12 (List.mem_cons_of_mem _ (List.mem_append_left _ (List.mem_of_getElem? (i := 4) rfl))) dX12_isBand_18 ?_
    refine g_sipush (v := 161) hk dX12_isBand_21 (by decide) ?_
    refine lM_18 (v := (A 18 161)) hk (vp_in_iff.mpr ⟨by decide, by decide⟩) rfl dX12_isBand_24 ?_
    refine g_ineg hk dX12_isBand_25 ?_
    refine g_topi (fun y29911 ey29911 => ?_)
    replace hF := FE.lt hF ey29911
    refine g_aload_n hk dX12_isBand_26 rfl ?_
    refine gM_r0_36 hk hin12 (List.mem_cons_of_mem _ (List.mem_append_left _ (List.mem_of_getElem? (i := 4) rfl))) dX12_isBand_27 ?_
    refine g_sipush (v := 161) hk dX12_isBand_30 (by decide) ?_
    refine lM_18 (v := (A 18 161)) hk (vp_in_iff.mpr ⟨by decide, by decide⟩) rfl dX12_isBand_33 ?_
    refine g_callS (n := 3) hk (j145_X12_in l D zt r g I A L y29910 y29911 (A 18 161) hIv) (SP.same _) (fun _ h => h) (gi_S (List.mem_cons_of_mem _ (List.mem_append_left _ (List.mem_of_getElem? (i := 1) rfl))) (List.mem_cons_of_mem _ (List.mem_append_left _ (List.mem_of_getElem? (i := 2) rfl))) (List.mem_cons_of_mem _ (List.mem_append_left _ (List.mem_of_getElem? (i := 3) rfl))) (gi_sub (fun w h => (List.mem_cons_of_mem _ (List.mem_append_right _ (List.mem_append_right _ (List.mem_append_left _ h))))) zg_j145_X12_in)) rfl rfl rfl (by decide +kernel) ⟨Nat.le_of_ble_eq_true rfl, Nat.le_of_ble_eq_true rfl⟩ rfl rfl (Nat.le_of_ble_eq_true rfl) ⟨Nat.le_of_ble_eq_true rfl, Nat.le_of_ble_eq_true rfl⟩ dX12_isBand_34 (fun v ty' w' hp hk' => ?_)
    rcases hp with ⟨c29912, hC, rfl, rfl⟩ | ⟨c29914, c29915, hC, rfl, rfl⟩
    · skip
      replace hF := FE.pos hF hC
      have b29917l := Int32.le_toInt y29911
      have b29917h := Int32.toInt_lt y29911
      have b29918l := Int32.le_toInt (A 18 161)
      have b29918h := Int32.toInt_lt (A 18 161)
      show GW κ 3 0 0 (wM r g I A L) 37 [(0, .ref (r 0)), (1, .int z1), (2, .int z2)] [.int 0]
      refine g_if_eq (tgt := 44) (a := 0) hk dX12_isBand_37 (by decide) rfl (fun _ => ?_) (fun z9 => absurd (show (0 : Int) = (0 : Int) from by decide) z9)
      refine g_iconst (v := 0) hk dX12_isBand_44 (by decide) ?_
      exact g_iret hk hR rfl (Or.inl ⟨hF, rfl, rfl⟩) dX12_isBand_45
    · skip
      replace hF := FE.neg hF (fe_ne hC (by decide))
      show GW κ 3 0 0 (wM r g I A L) 37 [(0, .ref (r 0)), (1, .int z1), (2, .int z2)] [.int 1]
      refine g_if_eq (tgt := 44) (a := 1) hk dX12_isBand_37 (by decide) rfl (fun z9 => absurd z9 (show ¬ ((1 : Int) = (0 : Int)) from by decide)) (fun _ => ?_)
      refine g_iconst (v := 1) hk dX12_isBand_40 (by decide) ?_
      refine g_goto (tgt := 45) hk dX12_isBand_41 (by decide) ?_
      exact g_iret hk hR rfl (Or.inr (⟨c29907, (by omega), hF, rfl, rfl⟩)) dX12_isBand_45
noncomputable def fM12_atTable (I : Nat → Int32) (A : Nat → Nat → Int32) (L : Nat → Nat → Int64) (z1 : Int32) (z2 : Int32) : Int32 := if z1.toInt < 0 then 2000000000 else if z2.toInt < 0 then 2000000000 else if fM12_isBand I A L z1 z2 = 0 then 2000000000 else f_lt ((16 : Int32) * z1) fun y29923 => f_lt (y29923 + z2) fun y29924 => (A 21 y29924.toNatClampNeg)
def wo_j174_X12_atTable : List Cond := [Cond.constant RX12 282 (2000000000), Cond.methodLink RX12 279 yX12_isBand, Cond.instanceMethod yX12_isBand, Cond.selects RX12 yX12_isBand yX12_isBand, Cond.initialized RX12, Cond.fieldLink RX12 82 "WarpDeskModel" "tableAt" "[I"]
def wz_j174_X12_atTable : List Cond := .code yX12_atTable cX12_atTable 3 (some .int) :: (wo_j174_X12_atTable ++ (wsX120 ++ (wz_j175_X12_isBand ++ ([] : List Cond))))
theorem zg_j174_X12_atTable : ∀ w ∈ wz_j174_X12_atTable, goodWord w = true := zg_cons rfl (zg_app (by decide +kernel) (zg_app zgU_wsX120 (zg_app zg_j175_X12_isBand zg_nil)))
theorem zi_j174_X12_atTable : ∀ w ∈ wz_j174_X12_atTable, w ∈ lw_tbl := zi_cons zw_1791 (zi_app (zi_cons zw_1775 (zi_cons zw_1784 (zi_cons zw_1786 (zi_cons zw_85 (zi_cons zw_115 (zi_cons zw_1418 zi_nil)))))) (zi_app inX12 (zi_app zi_j175_X12_isBand zi_nil)))
set_option maxHeartbeats 4000000 in
set_option maxRecDepth 100000 in
theorem j174_X12_atTable (l : Launch) (D : va_G) (zt : Nat × Nat × Nat × (Nat → Nat) × (Nat → Nat)) (r : Nat → Nat) (g : Nat → ClassId) (I : Nat → Int32) (A : Nat → Nat → Int32) (L : Nat → Nat → Int64) (z1 : Int32) (z2 : Int32) (hIv : IvM I A) (hp0 : (-1) ≤ z1.toInt) (hp1 : z1.toInt ≤ 15) (hp2 : (-1) ≤ z2.toInt) (hp3 : z2.toInt ≤ 15) : GM l D zt (tyM g) yX12_atTable wz_j174_X12_atTable ({ frames := 2, cells := 0, slots := 0, locals := 44 } : Room) [.ref (r 0), .int z1, .int z2] (wM r g I A L) (fun v _ w' => ∃ y0 : Int32, FE (fM12_atTable I A L z1 z2) y0 ∧ v = some (.int y0) ∧ w' = wM r g I A L) 0 0 := by
  refine GM.of (cc := cX12_atTable) (maxL := 3) (ret := (some .int)) (own := RX12) (lv := [(0, .ref (r 0)), (1, .int z1), (2, .int z2)]) (by decide) rfl rfl (Nat.le_of_ble_eq_true rfl) rfl (fun κ sz hk hR hN => ?_)
  have hin12 : ∀ w ∈ u_ws RX12 TX12 55, w ∈ wz_j174_X12_atTable := fun w h => (List.mem_cons_of_mem _ (List.mem_append_right _ (List.mem_append_left _ h)))
  have hF : FE (fM12_atTable I A L z1 z2) (fM12_atTable I A L z1 z2) := FE.rf
  refine g_iload_n hk dX12_atTable_0 rfl ?_
  refine g_if_lt (tgt := 17) (a := z1.toInt) hk dX12_atTable_1 (by decide) rfl (fun c29900 => ?_) (fun c29900 => ?_)
  · skip
    replace hF := FE.pos hF c29900
    refine g_ldcw (v := 2000000000) hk (List.mem_cons_of_mem _ (List.mem_append_left _ (List.mem_of_getElem? (i := 0) rfl))) dX12_atTable_17 ?_
    refine g_goto (tgt := 34) hk dX12_atTable_20 (by decide) ?_
    exact g_iret hk hR rfl ⟨2000000000, hF, rfl, rfl⟩ dX12_atTable_34
  · skip
    replace hF := FE.neg hF c29900
    refine g_iload_n hk dX12_atTable_4 rfl ?_
    refine g_if_lt (tgt := 17) (a := z2.toInt) hk dX12_atTable_5 (by decide) rfl (fun c29901 => ?_) (fun c29901 => ?_)
    · skip
      replace hF := FE.pos hF c29901
      refine g_ldcw (v := 2000000000) hk (List.mem_cons_of_mem _ (List.mem_append_left _ (List.mem_of_getElem? (i := 0) rfl))) dX12_atTable_17 ?_
      refine g_goto (tgt := 34) hk dX12_atTable_20 (by decide) ?_
      exact g_iret hk hR rfl ⟨2000000000, hF, rfl, rfl⟩ dX12_atTable_34
    · skip
      replace hF := FE.neg hF c29901
      refine g_aload_n hk dX12_atTable_8 rfl ?_
      refine g_iload_n hk dX12_atTable_9 rfl ?_
      refine g_iload_n hk dX12_atTable_10 rfl ?_
      refine g_callV (n := 2) hk (j175_X12_isBand l D zt r g I A L z1 z2 hIv (by omega) (by omega) (by omega) (by omega)) (SP.same _) (fun _ h => h) (gi_V (List.mem_cons_of_mem _ (List.mem_append_left _ (List.mem_of_getElem? (i := 1) rfl))) (List.mem_cons_of_mem _ (List.mem_append_left _ (List.mem_of_getElem? (i := 2) rfl))) (List.mem_cons_of_mem _ (List.mem_append_left _ (List.mem_of_getElem? (i := 3) rfl))) (List.mem_cons_of_mem _ (List.mem_append_left _ (List.mem_of_getElem? (i := 4) rfl))) (gi_sub (fun w h => (List.mem_cons_of_mem _ (List.mem_append_right _ (List.mem_append_right _ (List.mem_append_left _ h))))) zg_j175_X12_isBand)) rfl rfl rfl (by decide +kernel) ⟨Nat.le_of_ble_eq_true rfl, Nat.le_of_ble_eq_true rfl⟩ 0 rfl rfl rfl rfl (Nat.le_of_ble_eq_true rfl) ⟨Nat.le_of_ble_eq_true rfl, Nat.le_of_ble_eq_true rfl⟩ dX12_atTable_11 (fun v ty' w' hp hk' => ?_)
      rcases hp with ⟨hC, rfl, rfl⟩ | ⟨c29920, c29921, hC, rfl, rfl⟩
      · skip
        replace hF := FE.pos hF hC
        show GW κ 3 0 0 (wM r g I A L) 14 [(0, .ref (r 0)), (1, .int z1), (2, .int z2)] [.int 0]
        refine g_if_ne (tgt := 23) (a := 0) hk dX12_atTable_14 (by decide) rfl (fun z9 => absurd z9 (show ¬ ((0 : Int) ≠ (0 : Int)) from by decide)) (fun _ => ?_)
        refine g_ldcw (v := 2000000000) hk (List.mem_cons_of_mem _ (List.mem_append_left _ (List.mem_of_getElem? (i := 0) rfl))) dX12_atTable_17 ?_
        refine g_goto (tgt := 34) hk dX12_atTable_20 (by decide) ?_
        exact g_iret hk hR rfl ⟨2000000000, hF, rfl, rfl⟩ dX12_atTable_34
      · skip
        replace hF := FE.neg hF (fe_ne hC (by decide))
        show GW κ 3 0 0 (wM r g I A L) 14 [(0, .ref (r 0)), (1, .int z1), (2, .int z2)] [.int 1]
        refine g_if_ne (tgt := 23) (a := 1) hk dX12_atTable_14 (by decide) rfl (fun _ => ?_) (fun z9 => absurd (show (1 : Int) ≠ (0 : Int) from by decide) z9)
        refine g_aload_n hk dX12_atTable_23 rfl ?_
        refine gM_r0_40 hk hin12 (List.mem_cons_of_mem _ (List.mem_append_left _ (List.mem_of_getElem? (i := 5) rfl))) dX12_atTable_24 ?_
        refine g_bipush (v := 16) hk dX12_atTable_27 (by decide) ?_
        refine g_iload_n hk dX12_atTable_29 rfl ?_
        refine g_imul hk dX12_atTable_30 ?_
        refine g_topi (fun y29923 ey29923 => ?_)
        replace hF := FE.lt hF ey29923
        have hy29923 : y29923.toInt = 16 * z1.toInt := i32_mul ey29923 rfl rfl (by omega) (by omega)
        refine g_iload_n hk dX12_atTable_31 rfl ?_
        refine g_iadd hk dX12_atTable_32 ?_
        refine g_topi (fun y29924 ey29924 => ?_)
        replace hF := FE.lt hF ey29924
        have hy29924 : y29924.toInt = y29923.toInt + z2.toInt := i32_add ey29924 rfl rfl (by omega) (by omega)
        refine lM_21 (v := (A 21 y29924.toNatClampNeg)) hk (vp_in_iff.mpr ⟨by omega, by omega⟩) rfl dX12_atTable_33 ?_
        have b29925l := Int32.le_toInt (A 21 y29924.toNatClampNeg)
        have b29925h := Int32.toInt_lt (A 21 y29924.toNatClampNeg)
        exact g_iret hk hR rfl ⟨(A 21 y29924.toNatClampNeg), hF, rfl, rfl⟩ dX12_atTable_34
noncomputable def fM12_least (I : Nat → Int32) (A : Nat → Nat → Int32) (L : Nat → Nat → Int64) (z0 : Int32) (z1 : Int32) : Int32 := if z1.toInt ≤ z0.toInt then z1 else z0
def wz_j177_X12_least : List Cond := .code yX12_least cX12_least 2 (some .int) :: (wo_k126_X10_isLetter ++ ([] : List Cond))
theorem zg_j177_X12_least : ∀ w ∈ wz_j177_X12_least, goodWord w = true := zg_cons rfl (zg_app (by decide +kernel) zg_nil)
theorem zi_j177_X12_least : ∀ w ∈ wz_j177_X12_least, w ∈ lw_tbl := zi_cons zw_1794 (zi_app zi_nil zi_nil)
set_option maxHeartbeats 4000000 in
set_option maxRecDepth 100000 in
theorem j177_X12_least (l : Launch) (D : va_G) (zt : Nat × Nat × Nat × (Nat → Nat) × (Nat → Nat)) (r : Nat → Nat) (g : Nat → ClassId) (I : Nat → Int32) (A : Nat → Nat → Int32) (L : Nat → Nat → Int64) (z0 : Int32) (z1 : Int32) (hIv : IvM I A) : GM l D zt (tyM g) yX12_least wz_j177_X12_least ({ frames := 0, cells := 0, slots := 0, locals := 0 } : Room) [.int z0, .int z1] (wM r g I A L) (fun v _ w' => ∃ y0 : Int32, FE (fM12_least I A L z0 z1) y0 ∧ v = some (.int y0) ∧ w' = wM r g I A L) 0 0 := by
  refine GM.of (cc := cX12_least) (maxL := 2) (ret := (some .int)) (own := RX12) (lv := [(0, .int z0), (1, .int z1)]) (by decide) rfl rfl (Nat.le_of_ble_eq_true rfl) rfl (fun κ sz hk hR hN => ?_)
  have hF : FE (fM12_least I A L z0 z1) (fM12_least I A L z0 z1) := FE.rf
  refine g_iload_n hk dX12_least_0 rfl ?_
  refine g_iload_n hk dX12_least_1 rfl ?_
  have b29945l := Int32.le_toInt z0
  have b29945h := Int32.toInt_lt z0
  have b29946l := Int32.le_toInt z1
  have b29946h := Int32.toInt_lt z1
  refine g_icmp_ge (tgt := 9) (a := z0.toInt) (b := z1.toInt) hk dX12_least_2 (by decide) rfl rfl (fun c29947 => ?_) (fun c29947 => ?_)
  · skip
    replace hF := FE.pos hF c29947
    refine g_iload_n hk dX12_least_9 rfl ?_
    exact g_iret hk hR rfl ⟨z1, hF, rfl, rfl⟩ dX12_least_10
  · skip
    replace hF := FE.neg hF c29947
    refine g_iload_n hk dX12_least_5 rfl ?_
    refine g_goto (tgt := 10) hk dX12_least_6 (by decide) ?_
    exact g_iret hk hR rfl ⟨z0, hF, rfl, rfl⟩ dX12_least_10
noncomputable def fM12_costOf (I : Nat → Int32) (A : Nat → Nat → Int32) (L : Nat → Nat → Int64) (z1 : Int32) (z2 : Int32) : Int32 := if z2.toInt ≤ z1.toInt then f_lt (z1 - z2) fun y29956 => if (A 18 163).toInt ≠ 0 then f_lt (y29956 * y29956) fun y29960 => y29960 else y29956 else f_lt (z2 - z1) fun y29963 => if (A 18 163).toInt ≠ 0 then f_lt (y29963 * y29963) fun y29967 => y29967 else y29963
def wo_j178_X12_costOf : List Cond := [Cond.fieldLink RX12 73 "WarpDeskModel" "row" "[I"]
def wz_j178_X12_costOf : List Cond := .code yX12_costOf cX12_costOf 4 (some .int) :: (wo_j178_X12_costOf ++ (wsX120 ++ ([] : List Cond)))
theorem zg_j178_X12_costOf : ∀ w ∈ wz_j178_X12_costOf, goodWord w = true := zg_cons rfl (zg_app (by decide +kernel) (zg_app zgU_wsX120 zg_nil))
theorem zi_j178_X12_costOf : ∀ w ∈ wz_j178_X12_costOf, w ∈ lw_tbl := zi_cons zw_1798 (zi_app (zi_cons zw_1414 zi_nil) (zi_app inX12 zi_nil))
set_option maxHeartbeats 4000000 in
set_option maxRecDepth 100000 in
theorem j178_X12_costOf (l : Launch) (D : va_G) (zt : Nat × Nat × Nat × (Nat → Nat) × (Nat → Nat)) (r : Nat → Nat) (g : Nat → ClassId) (I : Nat → Int32) (A : Nat → Nat → Int32) (L : Nat → Nat → Int64) (z1 : Int32) (z2 : Int32) (hIv : IvM I A) : GM l D zt (tyM g) yX12_costOf wz_j178_X12_costOf ({ frames := 0, cells := 0, slots := 0, locals := 0 } : Room) [.ref (r 0), .int z1, .int z2] (wM r g I A L) (fun v _ w' => ∃ y0 : Int32, FE (fM12_costOf I A L z1 z2) y0 ∧ v = some (.int y0) ∧ w' = wM r g I A L) 0 0 := by
  refine GM.of (cc := cX12_costOf) (maxL := 4) (ret := (some .int)) (own := RX12) (lv := [(0, .ref (r 0)), (1, .int z1), (2, .int z2)]) (by decide) rfl rfl (Nat.le_of_ble_eq_true rfl) rfl (fun κ sz hk hR hN => ?_)
  have hin12 : ∀ w ∈ u_ws RX12 TX12 55, w ∈ wz_j178_X12_costOf := fun w h => (List.mem_cons_of_mem _ (List.mem_append_right _ (List.mem_append_left _ h)))
  have hF : FE (fM12_costOf I A L z1 z2) (fM12_costOf I A L z1 z2) := FE.rf
  refine g_iload_n hk dX12_costOf_0 rfl ?_
  refine g_iload_n hk dX12_costOf_1 rfl ?_
  have b29953l := Int32.le_toInt z1
  have b29953h := Int32.toInt_lt z1
  have b29954l := Int32.le_toInt z2
  have b29954h := Int32.toInt_lt z2
  refine g_icmp_ge (tgt := 11) (a := z1.toInt) (b := z2.toInt) hk dX12_costOf_2 (by decide) rfl rfl (fun c29955 => ?_) (fun c29955 => ?_)
  · skip
    replace hF := FE.pos hF c29955
    refine g_iload_n hk dX12_costOf_11 rfl ?_
    refine g_iload_n hk dX12_costOf_12 rfl ?_
    refine g_isub hk dX12_costOf_13 ?_
    refine g_topi (fun y29956 ey29956 => ?_)
    replace hF := FE.lt hF ey29956
    have hy29956 := i32_sub0 ey29956
    refine g_istore_n (lv' := [(3, .int y29956), (0, .ref (r 0)), (1, .int z1), (2, .int z2)]) hk dX12_costOf_14 (by decide) rfl ?_
    refine g_aload_n hk dX12_costOf_15 rfl ?_
    refine gM_r0_36 hk hin12 (List.mem_cons_of_mem _ (List.mem_append_left _ (List.mem_of_getElem? (i := 0) rfl))) dX12_costOf_16 ?_
    refine g_sipush (v := 163) hk dX12_costOf_19 (by decide) ?_
    refine lM_18 (v := (A 18 163)) hk (vp_in_iff.mpr ⟨by decide, by decide⟩) rfl dX12_costOf_22 ?_
    have b29957l := Int32.le_toInt (A 18 163)
    have b29957h := Int32.toInt_lt (A 18 163)
    refine g_if_ne (tgt := 30) (a := (A 18 163).toInt) hk dX12_costOf_23 (by decide) rfl (fun c29958 => ?_) (fun c29958 => ?_)
    · skip
      replace hF := FE.pos hF c29958
      refine g_iload_n hk dX12_costOf_30 rfl ?_
      refine g_iload_n hk dX12_costOf_31 rfl ?_
      have b29959l := Int32.le_toInt y29956
      have b29959h := Int32.toInt_lt y29956
      refine g_imul hk dX12_costOf_32 ?_
      refine g_topi (fun y29960 ey29960 => ?_)
      replace hF := FE.lt hF ey29960
      have b29961l := Int32.le_toInt y29960
      have b29961h := Int32.toInt_lt y29960
      exact g_iret hk hR rfl ⟨y29960, hF, rfl, rfl⟩ dX12_costOf_33
    · skip
      replace hF := FE.neg hF c29958
      refine g_iload_n hk dX12_costOf_26 rfl ?_
      refine g_goto (tgt := 33) hk dX12_costOf_27 (by decide) ?_
      have b29962l := Int32.le_toInt y29956
      have b29962h := Int32.toInt_lt y29956
      exact g_iret hk hR rfl ⟨y29956, hF, rfl, rfl⟩ dX12_costOf_33
  · skip
    replace hF := FE.neg hF c29955
    refine g_iload_n hk dX12_costOf_5 rfl ?_
    refine g_iload_n hk dX12_costOf_6 rfl ?_
    refine g_isub hk dX12_costOf_7 ?_
    refine g_topi (fun y29963 ey29963 => ?_)
    replace hF := FE.lt hF ey29963
    have hy29963 := i32_sub0 ey29963
    refine g_goto (tgt := 14) hk dX12_costOf_8 (by decide) ?_
    refine g_istore_n (lv' := [(3, .int y29963), (0, .ref (r 0)), (1, .int z1), (2, .int z2)]) hk dX12_costOf_14 (by decide) rfl ?_
    refine g_aload_n hk dX12_costOf_15 rfl ?_
    refine gM_r0_36 hk hin12 (List.mem_cons_of_mem _ (List.mem_append_left _ (List.mem_of_getElem? (i := 0) rfl))) dX12_costOf_16 ?_
    refine g_sipush (v := 163) hk dX12_costOf_19 (by decide) ?_
    refine lM_18 (v := (A 18 163)) hk (vp_in_iff.mpr ⟨by decide, by decide⟩) rfl dX12_costOf_22 ?_
    have b29964l := Int32.le_toInt (A 18 163)
    have b29964h := Int32.toInt_lt (A 18 163)
    refine g_if_ne (tgt := 30) (a := (A 18 163).toInt) hk dX12_costOf_23 (by decide) rfl (fun c29965 => ?_) (fun c29965 => ?_)
    · skip
      replace hF := FE.pos hF c29965
      refine g_iload_n hk dX12_costOf_30 rfl ?_
      refine g_iload_n hk dX12_costOf_31 rfl ?_
      have b29966l := Int32.le_toInt y29963
      have b29966h := Int32.toInt_lt y29963
      refine g_imul hk dX12_costOf_32 ?_
      refine g_topi (fun y29967 ey29967 => ?_)
      replace hF := FE.lt hF ey29967
      have b29968l := Int32.le_toInt y29967
      have b29968h := Int32.toInt_lt y29967
      exact g_iret hk hR rfl ⟨y29967, hF, rfl, rfl⟩ dX12_costOf_33
    · skip
      replace hF := FE.neg hF c29965
      refine g_iload_n hk dX12_costOf_26 rfl ?_
      refine g_goto (tgt := 33) hk dX12_costOf_27 (by decide) ?_
      have b29969l := Int32.le_toInt y29963
      have b29969h := Int32.toInt_lt y29963
      exact g_iret hk hR rfl ⟨y29963, hF, rfl, rfl⟩ dX12_costOf_33
