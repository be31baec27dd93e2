def wo_j195_X12_fillsWay : List Cond := [Cond.fieldLink RX12 267 "WarpDeskModel" "wide" "I", Cond.fieldLink RX12 351 "WarpDeskModel" "wayMany" "I", Cond.fieldLink RX12 88 "WarpDeskModel" "wayAt" "[I", Cond.methodLink RX12 283 yX12_atTable, Cond.instanceMethod yX12_atTable, Cond.selects RX12 yX12_atTable yX12_atTable, Cond.initialized RX12]
def wz_j195_X12_fillsWay : List Cond := .code yX12_fillsWay cX12_fillsWay 8 none :: (wo_j195_X12_fillsWay ++ (wsX120 ++ (wz_j174_X12_atTable ++ ([] : List Cond))))
theorem zg_j195_X12_fillsWay : ∀ w ∈ wz_j195_X12_fillsWay, goodWord w = true := zg_cons rfl (zg_app (by decide +kernel) (zg_app zgU_wsX120 (zg_app zg_j174_X12_atTable zg_nil)))
theorem zi_j195_X12_fillsWay : ∀ w ∈ wz_j195_X12_fillsWay, w ∈ lw_tbl := zi_cons zw_1835 (zi_app (zi_cons zw_1415 (zi_cons zw_1425 (zi_cons zw_1424 (zi_cons zw_1788 (zi_cons zw_1790 (zi_cons zw_86 (zi_cons zw_115 zi_nil))))))) (zi_app inX12 (zi_app zi_j174_X12_atTable zi_nil)))
set_option maxHeartbeats 4000000 in
set_option maxRecDepth 100000 in
theorem j195_X12_fillsWay (l : Launch) (D : va_G) (zt : Nat × Nat × Nat × (Nat → Nat) × (Nat → Nat)) (r : Nat → Nat) (g : Nat → ClassId) (I : Nat → Int32) (A : Nat → Nat → Int32) (L : Nat → Nat → Int64) (hIv : IvM I A) : GM l D zt (tyM g) yX12_fillsWay wz_j195_X12_fillsWay ({ frames := 3, cells := 0, slots := 0, locals := 66 } : Room) [.ref (r 0)] (wM r g I A L) (fun v _ w' => ∃ (I' : Nat → Int32) (A' : Nat → Nat → Int32) (L' : Nat → Nat → Int64), Md [23] I I' ∧ Md [23] A A' ∧ IvM I' A' ∧ v = none ∧ w' = wM r g I' A' L') 0 0 := by
  refine GM.of (cc := cX12_fillsWay) (maxL := 8) (ret := none) (own := RX12) (lv := [(0, .ref (r 0))]) (by decide) rfl rfl (Nat.le_of_ble_eq_true rfl) rfl (fun κ sz hk hR hN => ?_)
  have hin12 : ∀ w ∈ u_ws RX12 TX12 55, w ∈ wz_j195_X12_fillsWay := fun w h => (List.mem_cons_of_mem _ (List.mem_append_right _ (List.mem_append_left _ h)))
  refine g_aload_n hk dX12_fillsWay_0 rfl ?_
  refine gM_i18 (v := (I 18)) hk hin12 (List.mem_cons_of_mem _ (List.mem_append_left _ (List.mem_of_getElem? (i := 0) rfl))) dX12_fillsWay_1 rfl ?_
  have f22608 := IvM_f18 hIv
  refine g_iconst (v := 1) hk dX12_fillsWay_4 (by decide) ?_
  refine g_isub hk dX12_fillsWay_5 ?_
  refine g_topi (fun y22609 ey22609 => ?_)
  have hy22609 : y22609.toInt = (I 18).toInt - 1 := i32_sub ey22609 rfl rfl (by omega) (by omega)
  refine g_istore_n (lv' := [(1, .int y22609), (0, .ref (r 0))]) hk dX12_fillsWay_6 (by decide) rfl ?_
  refine g_aload_n hk dX12_fillsWay_7 rfl ?_
  refine gM_i18 (v := (I 18)) hk hin12 (List.mem_cons_of_mem _ (List.mem_append_left _ (List.mem_of_getElem? (i := 0) rfl))) dX12_fillsWay_8 rfl ?_
  refine g_iconst (v := 1) hk dX12_fillsWay_11 (by decide) ?_
  refine g_isub hk dX12_fillsWay_12 ?_
  refine g_topi (fun y22610 ey22610 => ?_)
  have hy22610 : y22610.toInt = (I 18).toInt - 1 := i32_sub ey22610 rfl rfl (by omega) (by omega)
  refine g_istore_n (lv' := [(2, .int y22610), (1, .int y22609), (0, .ref (r 0))]) hk dX12_fillsWay_13 (by decide) rfl ?_
  refine g_aload_n hk dX12_fillsWay_14 rfl ?_
  refine g_iconst (v := 0) hk dX12_fillsWay_15 (by decide) ?_
  refine pM_i23 hk hin12 (List.mem_cons_of_mem _ (List.mem_append_left _ (List.mem_of_getElem? (i := 1) rfl))) dX12_fillsWay_16 ?_
  have lp22678 : ∀ (n22679 : Nat) (x22611 : Int32) (x22612 : Int32) (I22614 : Nat → Int32) (A22614 : Nat → Nat → Int32) (L22614 : Nat → Nat → Int64), (Md [23] (upd I 23 0) I22614) → (Md [23] A A22614) → (IvM I22614 A22614) → ((-1) ≤ x22611.toInt) → (x22611.toInt ≤ 15) → ((-1) ≤ x22612.toInt) → (x22612.toInt ≤ 15) → ((I22614 23).toInt + x22612.toInt + x22611.toInt ≤ 30) → (x22612.toInt + x22611.toInt + 3 < (n22679 : Int)) → (0 < n22679) → GW κ 8 0 0 (wM r g I22614 A22614 L22614) 19 [(2, .int x22611), (1, .int x22612), (0, .ref (r 0))] [] := by
    intro n22679
    induction n22679 with
    | zero =>
      intro x22611 x22612 I22614 A22614 L22614 hI22614 hA22614 hV22614 h22673 h22674 h22675 h22676 h22677 m22680 m22680z
      exact absurd m22680z (Nat.lt_irrefl 0)
    | succ n22679 ih22681 =>
      intro x22611 x22612 I22614 A22614 L22614 hI22614 hA22614 hV22614 h22673 h22674 h22675 h22676 h22677 m22680 m22680z
      have f22682 := IvM_f23 hV22614
      refine g_iload_n hk dX12_fillsWay_19 rfl ?_
      refine g_if_lt (tgt := 145) (a := x22612.toInt) hk dX12_fillsWay_20 (by decide) rfl (fun c22683 => ?_) (fun c22683 => ?_)
      · skip
        exact g_vret hk hR ⟨I22614, A22614, L22614, (show Md [23] I I22614 from (Md.tr (Md.up Md.rf rfl) hI22614 rfl)), (show Md [23] A A22614 from (Md.tr Md.rf hA22614 rfl)), hV22614, rfl, rfl⟩ dX12_fillsWay_145
      · skip
        refine g_iload_n hk dX12_fillsWay_23 rfl ?_
        refine g_if_lt (tgt := 145) (a := x22611.toInt) hk dX12_fillsWay_24 (by decide) rfl (fun c22684 => ?_) (fun c22684 => ?_)
        · skip
          exact g_vret hk hR ⟨I22614, A22614, L22614, (show Md [23] I I22614 from (Md.tr (Md.up Md.rf rfl) hI22614 rfl)), (show Md [23] A A22614 from (Md.tr Md.rf hA22614 rfl)), hV22614, rfl, rfl⟩ dX12_fillsWay_145
        · skip
          refine g_aload_n hk dX12_fillsWay_27 rfl ?_
          refine gM_r0_46 hk hin12 (List.mem_cons_of_mem _ (List.mem_append_left _ (List.mem_of_getElem? (i := 2) rfl))) dX12_fillsWay_28 ?_
          refine g_aload_n hk dX12_fillsWay_31 rfl ?_
          refine gM_i23 (v := (I22614 23)) hk hin12 (List.mem_cons_of_mem _ (List.mem_append_left _ (List.mem_of_getElem? (i := 1) rfl))) dX12_fillsWay_32 rfl ?_
          refine g_bipush (v := 100) hk dX12_fillsWay_35 (by decide) ?_
          refine g_iload_n hk dX12_fillsWay_37 rfl ?_
          refine g_imul hk dX12_fillsWay_38 ?_
          refine g_topi (fun y22685 ey22685 => ?_)
          have hy22685 : y22685.toInt = 100 * x22612.toInt := i32_mul ey22685 rfl rfl (by omega) (by omega)
          refine g_iload_n hk dX12_fillsWay_39 rfl ?_
          refine g_iadd hk dX12_fillsWay_40 ?_
          refine g_topi (fun y22686 ey22686 => ?_)
          have hy22686 : y22686.toInt = y22685.toInt + x22611.toInt := i32_add ey22686 rfl rfl (by omega) (by omega)
          refine sM_23 (j := (I22614 23).toNatClampNeg) hk (vp_in_iff.mpr ⟨by omega, by omega⟩) rfl dX12_fillsWay_41 ?_
          refine g_aload_n hk dX12_fillsWay_42 rfl ?_
          refine g_dup hk dX12_fillsWay_43 rfl ?_
          refine gM_i23 (v := (I22614 23)) hk hin12 (List.mem_cons_of_mem _ (List.mem_append_left _ (List.mem_of_getElem? (i := 1) rfl))) dX12_fillsWay_44 rfl ?_
          refine g_iconst (v := 1) hk dX12_fillsWay_47 (by decide) ?_
          refine g_iadd hk dX12_fillsWay_48 ?_
          refine g_topi (fun y22687 ey22687 => ?_)
          have hy22687 : y22687.toInt = (I22614 23).toInt + 1 := i32_add ey22687 rfl rfl (by omega) (by omega)
          refine pM_i23 hk hin12 (List.mem_cons_of_mem _ (List.mem_append_left _ (List.mem_of_getElem? (i := 1) rfl))) dX12_fillsWay_49 ?_
          refine g_aload_n hk dX12_fillsWay_52 rfl ?_
          refine g_iload_n hk dX12_fillsWay_53 rfl ?_
          refine g_iconst (v := 1) hk dX12_fillsWay_54 (by decide) ?_
          refine g_isub hk dX12_fillsWay_55 ?_
          refine g_topi (fun y22688 ey22688 => ?_)
          have hy22688 : y22688.toInt = x22612.toInt - 1 := i32_sub ey22688 rfl rfl (by omega) (by omega)
          refine g_iload_n hk dX12_fillsWay_56 rfl ?_
          refine g_iconst (v := 1) hk dX12_fillsWay_57 (by decide) ?_
          refine g_isub hk dX12_fillsWay_58 ?_
          refine g_topi (fun y22689 ey22689 => ?_)
          have hy22689 : y22689.toInt = x22611.toInt - 1 := i32_sub ey22689 rfl rfl (by omega) (by omega)
          refine g_callV (n := 2) hk (j174_X12_atTable l D zt r g (upd I22614 23 y22687) (up3 A22614 23 ((I22614 23).toNatClampNeg) y22686) L22614 y22688 y22689 ⟨(IvM_f1 (I := I22614) (A := A22614) hV22614), (IvM_f2 (I := I22614) (A := A22614) hV22614), (IvM_f3 (I := I22614) (A := A22614) hV22614), (IvM_f4 (I := I22614) (A := A22614) hV22614), (IvM_f6 (I := I22614) (A := A22614) hV22614), (IvM_f8 (I := I22614) (A := A22614) hV22614), (IvM_f15 (I := I22614) (A := A22614) hV22614), (IvM_f16 (I := I22614) (A := A22614) hV22614), (IvM_f17 (I := I22614) (A := A22614) hV22614), (IvM_f18 (I := I22614) (A := A22614) hV22614), (IvM_f22 (I := I22614) (A := A22614) hV22614), (show 0 ≤ y22687.toInt ∧ y22687.toInt ≤ 40 from ⟨by omega, by omega⟩), (IvM_f24 (I := I22614) (A := A22614) hV22614), (IvM_a11 (I := I22614) (A := A22614) hV22614), (IvM_a26 (I := I22614) (A := A22614) hV22614), (IvM_s8_0 (I := I22614) (A := A22614) hV22614), (IvM_s8_1 (I := I22614) (A := A22614) hV22614), (IvM_s10_0 (I := I22614) (A := A22614) hV22614), (IvM_s10_1 (I := I22614) (A := A22614) hV22614), (IvM_s17_0 (I := I22614) (A := A22614) hV22614), (IvM_s17_164 (I := I22614) (A := A22614) hV22614), (IvM_lv (I := I22614) (A := A22614) hV22614), (IvM_sd (I := I22614) (A := A22614) hV22614), (IvM_nq (I := I22614) (A := A22614) hV22614), (IvM_hr (I := I22614) (A := A22614) hV22614), (IvM_hh (I := I22614) (A := A22614) hV22614), trivial⟩ (by omega) (by omega) (by omega) (by omega)) (SP.same _) (fun _ h => h) (gi_V (List.mem_cons_of_mem _ (List.mem_append_left _ (List.mem_of_getElem? (i := 3) rfl))) (List.mem_cons_of_mem _ (List.mem_append_left _ (List.mem_of_getElem? (i := 4) rfl))) (List.mem_cons_of_mem _ (List.mem_append_left _ (List.mem_of_getElem? (i := 5) rfl))) (List.mem_cons_of_mem _ (List.mem_append_left _ (List.mem_of_getElem? (i := 6) rfl))) (gi_sub (fun w h => (List.mem_cons_of_mem _ (List.mem_append_right _ (List.mem_append_right _ (List.mem_append_left _ h))))) zg_j174_X12_atTable)) rfl rfl rfl (by decide +kernel) ⟨Nat.le_of_ble_eq_true rfl, Nat.le_of_ble_eq_true rfl⟩ 0 rfl rfl rfl rfl (Nat.le_of_ble_eq_true rfl) ⟨Nat.le_of_ble_eq_true rfl, Nat.le_of_ble_eq_true rfl⟩ dX12_fillsWay_59 (fun v ty' w' hp hk' => ?_)
          obtain ⟨y22690, rfl, rfl⟩ := hp
          show GW κ 8 0 0 (wM r g (upd I22614 23 y22687) (up3 A22614 23 ((I22614 23).toNatClampNeg) y22686) L22614) 62 [(2, .int x22611), (1, .int x22612), (0, .ref (r 0))] [.int y22690]
          refine g_istore_n (lv' := [(3, .int y22690), (2, .int x22611), (1, .int x22612), (0, .ref (r 0))]) hk dX12_fillsWay_62 (by decide) rfl ?_
          refine g_aload_n hk dX12_fillsWay_63 rfl ?_
          refine g_iload_n hk dX12_fillsWay_64 rfl ?_
          refine g_iconst (v := 1) hk dX12_fillsWay_65 (by decide) ?_
          refine g_isub hk dX12_fillsWay_66 ?_
          refine g_topi (fun y22691 ey22691 => ?_)
          have hy22691 : y22691.toInt = x22612.toInt - 1 := i32_sub ey22691 rfl rfl (by omega) (by omega)
          refine g_iload_n hk dX12_fillsWay_67 rfl ?_
          refine g_callV (n := 2) hk (j174_X12_atTable l D zt r g (upd I22614 23 y22687) (up3 A22614 23 ((I22614 23).toNatClampNeg) y22686) L22614 y22691 x22611 ⟨(IvM_f1 (I := I22614) (A := A22614) hV22614), (IvM_f2 (I := I22614) (A := A22614) hV22614), (IvM_f3 (I := I22614) (A := A22614) hV22614), (IvM_f4 (I := I22614) (A := A22614) hV22614), (IvM_f6 (I := I22614) (A := A22614) hV22614), (IvM_f8 (I := I22614) (A := A22614) hV22614), (IvM_f15 (I := I22614) (A := A22614) hV22614), (IvM_f16 (I := I22614) (A := A22614) hV22614), (IvM_f17 (I := I22614) (A := A22614) hV22614), (IvM_f18 (I := I22614) (A := A22614) hV22614), (IvM_f22 (I := I22614) (A := A22614) hV22614), (show 0 ≤ y22687.toInt ∧ y22687.toInt ≤ 40 from ⟨by omega, by omega⟩), (IvM_f24 (I := I22614) (A := A22614) hV22614), (IvM_a11 (I := I22614) (A := A22614) hV22614), (IvM_a26 (I := I22614) (A := A22614) hV22614), (IvM_s8_0 (I := I22614) (A := A22614) hV22614), (IvM_s8_1 (I := I22614) (A := A22614) hV22614), (IvM_s10_0 (I := I22614) (A := A22614) hV22614), (IvM_s10_1 (I := I22614) (A := A22614) hV22614), (IvM_s17_0 (I := I22614) (A := A22614) hV22614), (IvM_s17_164 (I := I22614) (A := A22614) hV22614), (IvM_lv (I := I22614) (A := A22614) hV22614), (IvM_sd (I := I22614) (A := A22614) hV22614), (IvM_nq (I := I22614) (A := A22614) hV22614), (IvM_hr (I := I22614) (A := A22614) hV22614), (IvM_hh (I := I22614) (A := A22614) hV22614), trivial⟩ (by omega) (by omega) (by omega) (by omega)) (SP.same _) (fun _ h => h) (gi_V (List.mem_cons_of_mem _ (List.mem_append_left _ (List.mem_of_getElem? (i := 3) rfl))) (List.mem_cons_of_mem _ (List.mem_append_left _ (List.mem_of_getElem? (i := 4) rfl))) (List.mem_cons_of_mem _ (List.mem_append_left _ (List.mem_of_getElem? (i := 5) rfl))) (List.mem_cons_of_mem _ (List.mem_append_left _ (List.mem_of_getElem? (i := 6) rfl))) (gi_sub (fun w h => (List.mem_cons_of_mem _ (List.mem_append_right _ (List.mem_append_right _ (List.mem_append_left _ h))))) zg_j174_X12_atTable)) rfl rfl rfl (by decide +kernel) ⟨Nat.le_of_ble_eq_true rfl, Nat.le_of_ble_eq_true rfl⟩ 0 rfl rfl rfl rfl (Nat.le_of_ble_eq_true rfl) ⟨Nat.le_of_ble_eq_true rfl, Nat.le_of_ble_eq_true rfl⟩ dX12_fillsWay_68 (fun v ty' w' hp hk' => ?_)
          obtain ⟨y22692, rfl, rfl⟩ := hp
          show GW κ 8 0 0 (wM r g (upd I22614 23 y22687) (up3 A22614 23 ((I22614 23).toNatClampNeg) y22686) L22614) 71 [(3, .int y22690), (2, .int x22611), (1, .int x22612), (0, .ref (r 0))] [.int y22692]
          refine g_istore (lv' := [(4, .int y22692), (3, .int y22690), (2, .int x22611), (1, .int x22612), (0, .ref (r 0))]) hk dX12_fillsWay_71 (by decide) rfl ?_
          refine g_aload_n hk dX12_fillsWay_73 rfl ?_
          refine g_iload_n hk dX12_fillsWay_74 rfl ?_
          refine g_iload_n hk dX12_fillsWay_75 rfl ?_
          refine g_iconst (v := 1) hk dX12_fillsWay_76 (by decide) ?_
          refine g_isub hk dX12_fillsWay_77 ?_
          refine g_topi (fun y22693 ey22693 => ?_)
          have hy22693 : y22693.toInt = x22611.toInt - 1 := i32_sub ey22693 rfl rfl (by omega) (by omega)
          refine g_callV (n := 2) hk (j174_X12_atTable l D zt r g (upd I22614 23 y22687) (up3 A22614 23 ((I22614 23).toNatClampNeg) y22686) L22614 x22612 y22693 ⟨(IvM_f1 (I := I22614) (A := A22614) hV22614), (IvM_f2 (I := I22614) (A := A22614) hV22614), (IvM_f3 (I := I22614) (A := A22614) hV22614), (IvM_f4 (I := I22614) (A := A22614) hV22614), (IvM_f6 (I := I22614) (A := A22614) hV22614), (IvM_f8 (I := I22614) (A := A22614) hV22614), (IvM_f15 (I := I22614) (A := A22614) hV22614), (IvM_f16 (I := I22614) (A := A22614) hV22614), (IvM_f17 (I := I22614) (A := A22614) hV22614), (IvM_f18 (I := I22614) (A := A22614) hV22614), (IvM_f22 (I := I22614) (A := A22614) hV22614), (show 0 ≤ y22687.toInt ∧ y22687.toInt ≤ 40 from ⟨by omega, by omega⟩), (IvM_f24 (I := I22614) (A := A22614) hV22614), (IvM_a11 (I := I22614) (A := A22614) hV22614), (IvM_a26 (I := I22614) (A := A22614) hV22614), (IvM_s8_0 (I := I22614) (A := A22614) hV22614), (IvM_s8_1 (I := I22614) (A := A22614) hV22614), (IvM_s10_0 (I := I22614) (A := A22614) hV22614), (IvM_s10_1 (I := I22614) (A := A22614) hV22614), (IvM_s17_0 (I := I22614) (A := A22614) hV22614), (IvM_s17_164 (I := I22614) (A := A22614) hV22614), (IvM_lv (I := I22614) (A := A22614) hV22614), (IvM_sd (I := I22614) (A := A22614) hV22614), (IvM_nq (I := I22614) (A := A22614) hV22614), (IvM_hr (I := I22614) (A := A22614) hV22614), (IvM_hh (I := I22614) (A := A22614) hV22614), trivial⟩ (by omega) (by omega) (by omega) (by omega)) (SP.same _) (fun _ h => h) (gi_V (List.mem_cons_of_mem _ (List.mem_append_left _ (List.mem_of_getElem? (i := 3) rfl))) (List.mem_cons_of_mem _ (List.mem_append_left _ (List.mem_of_getElem? (i := 4) rfl))) (List.mem_cons_of_mem _ (List.mem_append_left _ (List.mem_of_getElem? (i := 5) rfl))) (List.mem_cons_of_mem _ (List.mem_append_left _ (List.mem_of_getElem? (i := 6) rfl))) (gi_sub (fun w h => (List.mem_cons_of_mem _ (List.mem_append_right _ (List.mem_append_right _ (List.mem_append_left _ h))))) zg_j174_X12_atTable)) rfl rfl rfl (by decide +kernel) ⟨Nat.le_of_ble_eq_true rfl, Nat.le_of_ble_eq_true rfl⟩ 0 rfl rfl rfl rfl (Nat.le_of_ble_eq_true rfl) ⟨Nat.le_of_ble_eq_true rfl, Nat.le_of_ble_eq_true rfl⟩ dX12_fillsWay_78 (fun v ty' w' hp hk' => ?_)
          obtain ⟨y22694, rfl, rfl⟩ := hp
          show GW κ 8 0 0 (wM r g (upd I22614 23 y22687) (up3 A22614 23 ((I22614 23).toNatClampNeg) y22686) L22614) 81 [(4, .int y22692), (3, .int y22690), (2, .int x22611), (1, .int x22612), (0, .ref (r 0))] [.int y22694]
          refine g_istore (lv' := [(5, .int y22694), (4, .int y22692), (3, .int y22690), (2, .int x22611), (1, .int x22612), (0, .ref (r 0))]) hk dX12_fillsWay_81 (by decide) rfl ?_
          refine g_iload_n hk dX12_fillsWay_83 rfl ?_
          refine g_iload hk dX12_fillsWay_84 rfl ?_
          have b22695l := Int32.le_toInt y22690
          have b22695h := Int32.toInt_lt y22690
          have b22696l := Int32.le_toInt y22692
          have b22696h := Int32.toInt_lt y22692
          refine g_icmp_gt (tgt := 99) (a := y22690.toInt) (b := y22692.toInt) hk dX12_fillsWay_86 (by decide) rfl rfl (fun c22697 => ?_) (fun c22697 => ?_)
          · skip
            refine g_iconst (v := 0) hk dX12_fillsWay_99 (by decide) ?_
            refine g_istore (lv' := [(6, .int 0), (5, .int y22694), (4, .int y22692), (3, .int y22690), (2, .int x22611), (1, .int x22612), (0, .ref (r 0))]) hk dX12_fillsWay_100 (by decide) rfl ?_
            refine g_iload hk dX12_fillsWay_102 rfl ?_
            refine g_iload hk dX12_fillsWay_104 rfl ?_
            have b22698l := Int32.le_toInt y22694
            have b22698h := Int32.toInt_lt y22694
            refine g_icmp_gt (tgt := 113) (a := y22692.toInt) (b := y22694.toInt) hk dX12_fillsWay_106 (by decide) rfl rfl (fun c22699 => ?_) (fun c22699 => ?_)
            · skip
              refine g_iconst (v := 0) hk dX12_fillsWay_113 (by decide) ?_
              refine g_istore (lv' := [(7, .int 0), (6, .int 0), (5, .int y22694), (4, .int y22692), (3, .int y22690), (2, .int x22611), (1, .int x22612), (0, .ref (r 0))]) hk dX12_fillsWay_114 (by decide) rfl ?_
              refine g_iload hk dX12_fillsWay_116 rfl ?_
              refine g_if_ne (tgt := 126) (a := 0) hk dX12_fillsWay_118 (by decide) rfl (fun z9 => absurd z9 (show ¬ ((0 : Int) ≠ (0 : Int)) from by decide)) (fun _ => ?_)
              refine g_iload hk dX12_fillsWay_121 rfl ?_
              refine g_if_eq (tgt := 129) (a := 0) hk dX12_fillsWay_123 (by decide) rfl (fun _ => ?_) (fun z9 => absurd (show (0 : Int) = (0 : Int) from by decide) z9)
              refine g_iload hk dX12_fillsWay_129 rfl ?_
              refine g_if_ne (tgt := 139) (a := 0) hk dX12_fillsWay_131 (by decide) rfl (fun z9 => absurd z9 (show ¬ ((0 : Int) ≠ (0 : Int)) from by decide)) (fun _ => ?_)
              refine g_iload hk dX12_fillsWay_134 rfl ?_
              refine g_if_ne (tgt := 142) (a := 0) hk dX12_fillsWay_136 (by decide) rfl (fun z9 => absurd z9 (show ¬ ((0 : Int) ≠ (0 : Int)) from by decide)) (fun _ => ?_)
              obtain ⟨y22700, ey22700⟩ : ∃ y : Int32, y = x22611 + Int32.ofInt (-1) := ⟨_, rfl⟩
              have hy22700 : y22700.toInt = x22611.toInt + (-1) := i32_add ey22700 rfl (by decide) (by omega) (by omega)
              refine g_iinc (v := y22700) (lv' := [(2, .int y22700), (7, .int 0), (6, .int 0), (5, .int y22694), (4, .int y22692), (3, .int y22690), (1, .int x22612), (0, .ref (r 0))]) hk 5 dX12_fillsWay_139 rfl ey22700.symm (by decide) rfl ?_
              refine g_goto (tgt := 19) hk dX12_fillsWay_142 (by decide) ?_
              exact g_lv (List.forall_mem_cons.mpr ⟨List.mem_of_getElem? (i := 0) rfl, (List.forall_mem_cons.mpr ⟨List.mem_of_getElem? (i := 6) rfl, (List.forall_mem_cons.mpr ⟨List.mem_of_getElem? (i := 7) rfl, (fun _ h => absurd h List.not_mem_nil)⟩)⟩)⟩) (ih22681 y22700 x22612 (upd I22614 23 y22687) (up3 A22614 23 ((I22614 23).toNatClampNeg) y22686) L22614 (show Md [23] (upd I 23 0) (upd I22614 23 y22687) from Md.tr hI22614 (show Md [23] I22614 (upd I22614 23 y22687) from (Md.up Md.rf rfl)) rfl) (show Md [23] A (up3 A22614 23 ((I22614 23).toNatClampNeg) y22686) from Md.tr hA22614 (show Md [23] A22614 (up3 A22614 23 ((I22614 23).toNatClampNeg) y22686) from (Md.up3 Md.rf rfl)) rfl) ⟨(IvM_f1 (I := I22614) (A := A22614) hV22614), (IvM_f2 (I := I22614) (A := A22614) hV22614), (IvM_f3 (I := I22614) (A := A22614) hV22614), (IvM_f4 (I := I22614) (A := A22614) hV22614), (IvM_f6 (I := I22614) (A := A22614) hV22614), (IvM_f8 (I := I22614) (A := A22614) hV22614), (IvM_f15 (I := I22614) (A := A22614) hV22614), (IvM_f16 (I := I22614) (A := A22614) hV22614), (IvM_f17 (I := I22614) (A := A22614) hV22614), (IvM_f18 (I := I22614) (A := A22614) hV22614), (IvM_f22 (I := I22614) (A := A22614) hV22614), (show 0 ≤ y22687.toInt ∧ y22687.toInt ≤ 40 from ⟨by omega, by omega⟩), (IvM_f24 (I := I22614) (A := A22614) hV22614), (IvM_a11 (I := I22614) (A := A22614) hV22614), (IvM_a26 (I := I22614) (A := A22614) hV22614), (IvM_s8_0 (I := I22614) (A := A22614) hV22614), (IvM_s8_1 (I := I22614) (A := A22614) hV22614), (IvM_s10_0 (I := I22614) (A := A22614) hV22614), (IvM_s10_1 (I := I22614) (A := A22614) hV22614), (IvM_s17_0 (I := I22614) (A := A22614) hV22614), (IvM_s17_164 (I := I22614) (A := A22614) hV22614), (IvM_lv (I := I22614) (A := A22614) hV22614), (IvM_sd (I := I22614) (A := A22614) hV22614), (IvM_nq (I := I22614) (A := A22614) hV22614), (IvM_hr (I := I22614) (A := A22614) hV22614), (IvM_hh (I := I22614) (A := A22614) hV22614), trivial⟩ (by omega) (by omega) (by omega) (by omega) (by first | (rw [show ((upd I22614 23 y22687) 23) = y22687 from rfl] <;> omega) | omega) (by omega) (by omega))
            · skip
              refine g_iconst (v := 1) hk dX12_fillsWay_109 (by decide) ?_
              refine g_goto (tgt := 114) hk dX12_fillsWay_110 (by decide) ?_
              refine g_istore (lv' := [(7, .int 1), (6, .int 0), (5, .int y22694), (4, .int y22692), (3, .int y22690), (2, .int x22611), (1, .int x22612), (0, .ref (r 0))]) hk dX12_fillsWay_114 (by decide) rfl ?_
              refine g_iload hk dX12_fillsWay_116 rfl ?_
              refine g_if_ne (tgt := 126) (a := 0) hk dX12_fillsWay_118 (by decide) rfl (fun z9 => absurd z9 (show ¬ ((0 : Int) ≠ (0 : Int)) from by decide)) (fun _ => ?_)
              refine g_iload hk dX12_fillsWay_121 rfl ?_
              refine g_if_eq (tgt := 129) (a := 1) hk dX12_fillsWay_123 (by decide) rfl (fun z9 => absurd z9 (show ¬ ((1 : Int) = (0 : Int)) from by decide)) (fun _ => ?_)
              obtain ⟨y22701, ey22701⟩ : ∃ y : Int32, y = x22612 + Int32.ofInt (-1) := ⟨_, rfl⟩
              have hy22701 : y22701.toInt = x22612.toInt + (-1) := i32_add ey22701 rfl (by decide) (by omega) (by omega)
              refine g_iinc (v := y22701) (lv' := [(1, .int y22701), (7, .int 1), (6, .int 0), (5, .int y22694), (4, .int y22692), (3, .int y22690), (2, .int x22611), (0, .ref (r 0))]) hk 6 dX12_fillsWay_126 rfl ey22701.symm (by decide) rfl ?_
              refine g_iload hk dX12_fillsWay_129 rfl ?_
              refine g_if_ne (tgt := 139) (a := 0) hk dX12_fillsWay_131 (by decide) rfl (fun z9 => absurd z9 (show ¬ ((0 : Int) ≠ (0 : Int)) from by decide)) (fun _ => ?_)
              refine g_iload hk dX12_fillsWay_134 rfl ?_
              refine g_if_ne (tgt := 142) (a := 1) hk dX12_fillsWay_136 (by decide) rfl (fun _ => ?_) (fun z9 => absurd (show (1 : Int) ≠ (0 : Int) from by decide) z9)
              refine g_goto (tgt := 19) hk dX12_fillsWay_142 (by decide) ?_
              exact g_lv (List.forall_mem_cons.mpr ⟨List.mem_of_getElem? (i := 6) rfl, (List.forall_mem_cons.mpr ⟨List.mem_of_getElem? (i := 0) rfl, (List.forall_mem_cons.mpr ⟨List.mem_of_getElem? (i := 7) rfl, (fun _ h => absurd h List.not_mem_nil)⟩)⟩)⟩) (ih22681 x22611 y22701 (upd I22614 23 y22687) (up3 A22614 23 ((I22614 23).toNatClampNeg) y22686) L22614 (show Md [23] (upd I 23 0) (upd I22614 23 y22687) from Md.tr hI22614 (show Md [23] I22614 (upd I22614 23 y22687) from (Md.up Md.rf rfl)) rfl) (show Md [23] A (up3 A22614 23 ((I22614 23).toNatClampNeg) y22686) from Md.tr hA22614 (show Md [23] A22614 (up3 A22614 23 ((I22614 23).toNatClampNeg) y22686) from (Md.up3 Md.rf rfl)) rfl) ⟨(IvM_f1 (I := I22614) (A := A22614) hV22614), (IvM_f2 (I := I22614) (A := A22614) hV22614), (IvM_f3 (I := I22614) (A := A22614) hV22614), (IvM_f4 (I := I22614) (A := A22614) hV22614), (IvM_f6 (I := I22614) (A := A22614) hV22614), (IvM_f8 (I := I22614) (A := A22614) hV22614), (IvM_f15 (I := I22614) (A := A22614) hV22614), (IvM_f16 (I := I22614) (A := A22614) hV22614), (IvM_f17 (I := I22614) (A := A22614) hV22614), (IvM_f18 (I := I22614) (A := A22614) hV22614), (IvM_f22 (I := I22614) (A := A22614) hV22614), (show 0 ≤ y22687.toInt ∧ y22687.toInt ≤ 40 from ⟨by omega, by omega⟩), (IvM_f24 (I := I22614) (A := A22614) hV22614), (IvM_a11 (I := I22614) (A := A22614) hV22614), (IvM_a26 (I := I22614) (A := A22614) hV22614), (IvM_s8_0 (I := I22614) (A := A22614) hV22614), (IvM_s8_1 (I := I22614) (A := A22614) hV22614), (IvM_s10_0 (I := I22614) (A := A22614) hV22614), (IvM_s10_1 (I := I22614) (A := A22614) hV22614), (IvM_s17_0 (I := I22614) (A := A22614) hV22614), (IvM_s17_164 (I := I22614) (A := A22614) hV22614), (IvM_lv (I := I22614) (A := A22614) hV22614), (IvM_sd (I := I22614) (A := A22614) hV22614), (IvM_nq (I := I22614) (A := A22614) hV22614), (IvM_hr (I := I22614) (A := A22614) hV22614), (IvM_hh (I := I22614) (A := A22614) hV22614), trivial⟩ (by omega) (by omega) (by omega) (by omega) (by first | (rw [show ((upd I22614 23 y22687) 23) = y22687 from rfl] <;> omega) | omega) (by omega) (by omega))
          · skip
            refine g_iload_n hk dX12_fillsWay_89 rfl ?_
            refine g_iload hk dX12_fillsWay_90 rfl ?_
            have b22702l := Int32.le_toInt y22694
            have b22702h := Int32.toInt_lt y22694
            refine g_icmp_gt (tgt := 99) (a := y22690.toInt) (b := y22694.toInt) hk dX12_fillsWay_92 (by decide) rfl rfl (fun c22703 => ?_) (fun c22703 => ?_)
            · skip
              refine g_iconst (v := 0) hk dX12_fillsWay_99 (by decide) ?_
              refine g_istore (lv' := [(6, .int 0), (5, .int y22694), (4, .int y22692), (3, .int y22690), (2, .int x22611), (1, .int x22612), (0, .ref (r 0))]) hk dX12_fillsWay_100 (by decide) rfl ?_
              refine g_iload hk dX12_fillsWay_102 rfl ?_
              refine g_iload hk dX12_fillsWay_104 rfl ?_
              refine g_icmp_gt (tgt := 113) (a := y22692.toInt) (b := y22694.toInt) hk dX12_fillsWay_106 (by decide) rfl rfl (fun c22704 => ?_) (fun c22704 => ?_)
              · skip
                refine g_iconst (v := 0) hk dX12_fillsWay_113 (by decide) ?_
                refine g_istore (lv' := [(7, .int 0), (6, .int 0), (5, .int y22694), (4, .int y22692), (3, .int y22690), (2, .int x22611), (1, .int x22612), (0, .ref (r 0))]) hk dX12_fillsWay_114 (by decide) rfl ?_
                refine g_iload hk dX12_fillsWay_116 rfl ?_
                refine g_if_ne (tgt := 126) (a := 0) hk dX12_fillsWay_118 (by decide) rfl (fun z9 => absurd z9 (show ¬ ((0 : Int) ≠ (0 : Int)) from by decide)) (fun _ => ?_)
                refine g_iload hk dX12_fillsWay_121 rfl ?_
                refine g_if_eq (tgt := 129) (a := 0) hk dX12_fillsWay_123 (by decide) rfl (fun _ => ?_) (fun z9 => absurd (show (0 : Int) = (0 : Int) from by decide) z9)
                refine g_iload hk dX12_fillsWay_129 rfl ?_
                refine g_if_ne (tgt := 139) (a := 0) hk dX12_fillsWay_131 (by decide) rfl (fun z9 => absurd z9 (show ¬ ((0 : Int) ≠ (0 : Int)) from by decide)) (fun _ => ?_)
                refine g_iload hk dX12_fillsWay_134 rfl ?_
                refine g_if_ne (tgt := 142) (a := 0) hk dX12_fillsWay_136 (by decide) rfl (fun z9 => absurd z9 (show ¬ ((0 : Int) ≠ (0 : Int)) from by decide)) (fun _ => ?_)
                obtain ⟨y22705, ey22705⟩ : ∃ y : Int32, y = x22611 + Int32.ofInt (-1) := ⟨_, rfl⟩
                have hy22705 : y22705.toInt = x22611.toInt + (-1) := i32_add ey22705 rfl (by decide) (by omega) (by omega)
                refine g_iinc (v := y22705) (lv' := [(2, .int y22705), (7, .int 0), (6, .int 0), (5, .int y22694), (4, .int y22692), (3, .int y22690), (1, .int x22612), (0, .ref (r 0))]) hk 5 dX12_fillsWay_139 rfl ey22705.symm (by decide) rfl ?_
                refine g_goto (tgt := 19) hk dX12_fillsWay_142 (by decide) ?_
                exact g_lv (List.forall_mem_cons.mpr ⟨List.mem_of_getElem? (i := 0) rfl, (List.forall_mem_cons.mpr ⟨List.mem_of_getElem? (i := 6) rfl, (List.forall_mem_cons.mpr ⟨List.mem_of_getElem? (i := 7) rfl, (fun _ h => absurd h List.not_mem_nil)⟩)⟩)⟩) (ih22681 y22705 x22612 (upd I22614 23 y22687) (up3 A22614 23 ((I22614 23).toNatClampNeg) y22686) L22614 (show Md [23] (upd I 23 0) (upd I22614 23 y22687) from Md.tr hI22614 (show Md [23] I22614 (upd I22614 23 y22687) from (Md.up Md.rf rfl)) rfl) (show Md [23] A (up3 A22614 23 ((I22614 23).toNatClampNeg) y22686) from Md.tr hA22614 (show Md [23] A22614 (up3 A22614 23 ((I22614 23).toNatClampNeg) y22686) from (Md.up3 Md.rf rfl)) rfl) ⟨(IvM_f1 (I := I22614) (A := A22614) hV22614), (IvM_f2 (I := I22614) (A := A22614) hV22614), (IvM_f3 (I := I22614) (A := A22614) hV22614), (IvM_f4 (I := I22614) (A := A22614) hV22614), (IvM_f6 (I := I22614) (A := A22614) hV22614), (IvM_f8 (I := I22614) (A := A22614) hV22614), (IvM_f15 (I := I22614) (A := A22614) hV22614), (IvM_f16 (I := I22614) (A := A22614) hV22614), (IvM_f17 (I := I22614) (A := A22614) hV22614), (IvM_f18 (I := I22614) (A := A22614) hV22614), (IvM_f22 (I := I22614) (A := A22614) hV22614), (show 0 ≤ y22687.toInt ∧ y22687.toInt ≤ 40 from ⟨by omega, by omega⟩), (IvM_f24 (I := I22614) (A := A22614) hV22614), (IvM_a11 (I := I22614) (A := A22614) hV22614), (IvM_a26 (I := I22614) (A := A22614) hV22614), (IvM_s8_0 (I := I22614) (A := A22614) hV22614), (IvM_s8_1 (I := I22614) (A := A22614) hV22614), (IvM_s10_0 (I := I22614) (A := A22614) hV22614), (IvM_s10_1 (I := I22614) (A := A22614) hV22614), (IvM_s17_0 (I := I22614) (A := A22614) hV22614), (IvM_s17_164 (I := I22614) (A := A22614) hV22614), (IvM_lv (I := I22614) (A := A22614) hV22614), (IvM_sd (I := I22614) (A := A22614) hV22614), (IvM_nq (I := I22614) (A := A22614) hV22614), (IvM_hr (I := I22614) (A := A22614) hV22614), (IvM_hh (I := I22614) (A := A22614) hV22614), trivial⟩ (by omega) (by omega) (by omega) (by omega) (by first | (rw [show ((upd I22614 23 y22687) 23) = y22687 from rfl] <;> omega) | omega) (by omega) (by omega))
              · skip
                refine g_iconst (v := 1) hk dX12_fillsWay_109 (by decide) ?_
                refine g_goto (tgt := 114) hk dX12_fillsWay_110 (by decide) ?_
                refine g_istore (lv' := [(7, .int 1), (6, .int 0), (5, .int y22694), (4, .int y22692), (3, .int y22690), (2, .int x22611), (1, .int x22612), (0, .ref (r 0))]) hk dX12_fillsWay_114 (by decide) rfl ?_
                refine g_iload hk dX12_fillsWay_116 rfl ?_
                refine g_if_ne (tgt := 126) (a := 0) hk dX12_fillsWay_118 (by decide) rfl (fun z9 => absurd z9 (show ¬ ((0 : Int) ≠ (0 : Int)) from by decide)) (fun _ => ?_)
                refine g_iload hk dX12_fillsWay_121 rfl ?_
                refine g_if_eq (tgt := 129) (a := 1) hk dX12_fillsWay_123 (by decide) rfl (fun z9 => absurd z9 (show ¬ ((1 : Int) = (0 : Int)) from by decide)) (fun _ => ?_)
                obtain ⟨y22706, ey22706⟩ : ∃ y : Int32, y = x22612 + Int32.ofInt (-1) := ⟨_, rfl⟩
                have hy22706 : y22706.toInt = x22612.toInt + (-1) := i32_add ey22706 rfl (by decide) (by omega) (by omega)
                refine g_iinc (v := y22706) (lv' := [(1, .int y22706), (7, .int 1), (6, .int 0), (5, .int y22694), (4, .int y22692), (3, .int y22690), (2, .int x22611), (0, .ref (r 0))]) hk 6 dX12_fillsWay_126 rfl ey22706.symm (by decide) rfl ?_
                refine g_iload hk dX12_fillsWay_129 rfl ?_
                refine g_if_ne (tgt := 139) (a := 0) hk dX12_fillsWay_131 (by decide) rfl (fun z9 => absurd z9 (show ¬ ((0 : Int) ≠ (0 : Int)) from by decide)) (fun _ => ?_)
                refine g_iload hk dX12_fillsWay_134 rfl ?_
                refine g_if_ne (tgt := 142) (a := 1) hk dX12_fillsWay_136 (by decide) rfl (fun _ => ?_) (fun z9 => absurd (show (1 : Int) ≠ (0 : Int) from by decide) z9)
                refine g_goto (tgt := 19) hk dX12_fillsWay_142 (by decide) ?_
                exact g_lv (List.forall_mem_cons.mpr ⟨List.mem_of_getElem? (i := 6) rfl, (List.forall_mem_cons.mpr ⟨List.mem_of_getElem? (i := 0) rfl, (List.forall_mem_cons.mpr ⟨List.mem_of_getElem? (i := 7) rfl, (fun _ h => absurd h List.not_mem_nil)⟩)⟩)⟩) (ih22681 x22611 y22706 (upd I22614 23 y22687) (up3 A22614 23 ((I22614 23).toNatClampNeg) y22686) L22614 (show Md [23] (upd I 23 0) (upd I22614 23 y22687) from Md.tr hI22614 (show Md [23] I22614 (upd I22614 23 y22687) from (Md.up Md.rf rfl)) rfl) (show Md [23] A (up3 A22614 23 ((I22614 23).toNatClampNeg) y22686) from Md.tr hA22614 (show Md [23] A22614 (up3 A22614 23 ((I22614 23).toNatClampNeg) y22686) from (Md.up3 Md.rf rfl)) rfl) ⟨(IvM_f1 (I := I22614) (A := A22614) hV22614), (IvM_f2 (I := I22614) (A := A22614) hV22614), (IvM_f3 (I := I22614) (A := A22614) hV22614), (IvM_f4 (I := I22614) (A := A22614) hV22614), (IvM_f6 (I := I22614) (A := A22614) hV22614), (IvM_f8 (I := I22614) (A := A22614) hV22614), (IvM_f15 (I := I22614) (A := A22614) hV22614), (IvM_f16 (I := I22614) (A := A22614) hV22614), (IvM_f17 (I := I22614) (A := A22614) hV22614), (IvM_f18 (I := I22614) (A := A22614) hV22614), (IvM_f22 (I := I22614) (A := A22614) hV22614), (show 0 ≤ y22687.toInt ∧ y22687.toInt ≤ 40 from ⟨by omega, by omega⟩), (IvM_f24 (I := I22614) (A := A22614) hV22614), (IvM_a11 (I := I22614) (A := A22614) hV22614), (IvM_a26 (I := I22614) (A := A22614) hV22614), (IvM_s8_0 (I := I22614) (A := A22614) hV22614), (IvM_s8_1 (I := I22614) (A := A22614) hV22614), (IvM_s10_0 (I := I22614) (A := A22614) hV22614), (IvM_s10_1 (I := I22614) (A := A22614) hV22614), (IvM_s17_0 (I := I22614) (A := A22614) hV22614), (IvM_s17_164 (I := I22614) (A := A22614) hV22614), (IvM_lv (I := I22614) (A := A22614) hV22614), (IvM_sd (I := I22614) (A := A22614) hV22614), (IvM_nq (I := I22614) (A := A22614) hV22614), (IvM_hr (I := I22614) (A := A22614) hV22614), (IvM_hh (I := I22614) (A := A22614) hV22614), trivial⟩ (by omega) (by omega) (by omega) (by omega) (by first | (rw [show ((upd I22614 23 y22687) 23) = y22687 from rfl] <;> omega) | omega) (by omega) (by omega))
            · skip
              refine g_iconst (v := 1) hk dX12_fillsWay_95 (by decide) ?_
              refine g_goto (tgt := 100) hk dX12_fillsWay_96 (by decide) ?_
              refine g_istore (lv' := [(6, .int 1), (5, .int y22694), (4, .int y22692), (3, .int y22690), (2, .int x22611), (1, .int x22612), (0, .ref (r 0))]) hk dX12_fillsWay_100 (by decide) rfl ?_
              refine g_iload hk dX12_fillsWay_102 rfl ?_
              refine g_iload hk dX12_fillsWay_104 rfl ?_
              refine g_icmp_gt (tgt := 113) (a := y22692.toInt) (b := y22694.toInt) hk dX12_fillsWay_106 (by decide) rfl rfl (fun c22707 => ?_) (fun c22707 => ?_)
              · skip
                refine g_iconst (v := 0) hk dX12_fillsWay_113 (by decide) ?_
                refine g_istore (lv' := [(7, .int 0), (6, .int 1), (5, .int y22694), (4, .int y22692), (3, .int y22690), (2, .int x22611), (1, .int x22612), (0, .ref (r 0))]) hk dX12_fillsWay_114 (by decide) rfl ?_
                refine g_iload hk dX12_fillsWay_116 rfl ?_
                refine g_if_ne (tgt := 126) (a := 1) hk dX12_fillsWay_118 (by decide) rfl (fun _ => ?_) (fun z9 => absurd (show (1 : Int) ≠ (0 : Int) from by decide) z9)
                obtain ⟨y22708, ey22708⟩ : ∃ y : Int32, y = x22612 + Int32.ofInt (-1) := ⟨_, rfl⟩
                have hy22708 : y22708.toInt = x22612.toInt + (-1) := i32_add ey22708 rfl (by decide) (by omega) (by omega)
                refine g_iinc (v := y22708) (lv' := [(1, .int y22708), (7, .int 0), (6, .int 1), (5, .int y22694), (4, .int y22692), (3, .int y22690), (2, .int x22611), (0, .ref (r 0))]) hk 6 dX12_fillsWay_126 rfl ey22708.symm (by decide) rfl ?_
                refine g_iload hk dX12_fillsWay_129 rfl ?_
                refine g_if_ne (tgt := 139) (a := 1) hk dX12_fillsWay_131 (by decide) rfl (fun _ => ?_) (fun z9 => absurd (show (1 : Int) ≠ (0 : Int) from by decide) z9)
                obtain ⟨y22709, ey22709⟩ : ∃ y : Int32, y = x22611 + Int32.ofInt (-1) := ⟨_, rfl⟩
                have hy22709 : y22709.toInt = x22611.toInt + (-1) := i32_add ey22709 rfl (by decide) (by omega) (by omega)
                refine g_iinc (v := y22709) (lv' := [(2, .int y22709), (1, .int y22708), (7, .int 0), (6, .int 1), (5, .int y22694), (4, .int y22692), (3, .int y22690), (0, .ref (r 0))]) hk 6 dX12_fillsWay_139 rfl ey22709.symm (by decide) rfl ?_
                refine g_goto (tgt := 19) hk dX12_fillsWay_142 (by decide) ?_
                exact g_lv (List.forall_mem_cons.mpr ⟨List.mem_of_getElem? (i := 0) rfl, (List.forall_mem_cons.mpr ⟨List.mem_of_getElem? (i := 1) rfl, (List.forall_mem_cons.mpr ⟨List.mem_of_getElem? (i := 7) rfl, (fun _ h => absurd h List.not_mem_nil)⟩)⟩)⟩) (ih22681 y22709 y22708 (upd I22614 23 y22687) (up3 A22614 23 ((I22614 23).toNatClampNeg) y22686) L22614 (show Md [23] (upd I 23 0) (upd I22614 23 y22687) from Md.tr hI22614 (show Md [23] I22614 (upd I22614 23 y22687) from (Md.up Md.rf rfl)) rfl) (show Md [23] A (up3 A22614 23 ((I22614 23).toNatClampNeg) y22686) from Md.tr hA22614 (show Md [23] A22614 (up3 A22614 23 ((I22614 23).toNatClampNeg) y22686) from (Md.up3 Md.rf rfl)) rfl) ⟨(IvM_f1 (I := I22614) (A := A22614) hV22614), (IvM_f2 (I := I22614) (A := A22614) hV22614), (IvM_f3 (I := I22614) (A := A22614) hV22614), (IvM_f4 (I := I22614) (A := A22614) hV22614), (IvM_f6 (I := I22614) (A := A22614) hV22614), (IvM_f8 (I := I22614) (A := A22614) hV22614), (IvM_f15 (I := I22614) (A := A22614) hV22614), (IvM_f16 (I := I22614) (A := A22614) hV22614), (IvM_f17 (I := I22614) (A := A22614) hV22614), (IvM_f18 (I := I22614) (A := A22614) hV22614), (IvM_f22 (I := I22614) (A := A22614) hV22614), (show 0 ≤ y22687.toInt ∧ y22687.toInt ≤ 40 from ⟨by omega, by omega⟩), (IvM_f24 (I := I22614) (A := A22614) hV22614), (IvM_a11 (I := I22614) (A := A22614) hV22614), (IvM_a26 (I := I22614) (A := A22614) hV22614), (IvM_s8_0 (I := I22614) (A := A22614) hV22614), (IvM_s8_1 (I := I22614) (A := A22614) hV22614), (IvM_s10_0 (I := I22614) (A := A22614) hV22614), (IvM_s10_1 (I := I22614) (A := A22614) hV22614), (IvM_s17_0 (I := I22614) (A := A22614) hV22614), (IvM_s17_164 (I := I22614) (A := A22614) hV22614), (IvM_lv (I := I22614) (A := A22614) hV22614), (IvM_sd (I := I22614) (A := A22614) hV22614), (IvM_nq (I := I22614) (A := A22614) hV22614), (IvM_hr (I := I22614) (A := A22614) hV22614), (IvM_hh (I := I22614) (A := A22614) hV22614), trivial⟩ (by omega) (by omega) (by omega) (by omega) (by first | (rw [show ((upd I22614 23 y22687) 23) = y22687 from rfl] <;> omega) | omega) (by omega) (by omega))
              · skip
                refine g_iconst (v := 1) hk dX12_fillsWay_109 (by decide) ?_
                refine g_goto (tgt := 114) hk dX12_fillsWay_110 (by decide) ?_
                refine g_istore (lv' := [(7, .int 1), (6, .int 1), (5, .int y22694), (4, .int y22692), (3, .int y22690), (2, .int x22611), (1, .int x22612), (0, .ref (r 0))]) hk dX12_fillsWay_114 (by decide) rfl ?_
                refine g_iload hk dX12_fillsWay_116 rfl ?_
                refine g_if_ne (tgt := 126) (a := 1) hk dX12_fillsWay_118 (by decide) rfl (fun _ => ?_) (fun z9 => absurd (show (1 : Int) ≠ (0 : Int) from by decide) z9)
                obtain ⟨y22710, ey22710⟩ : ∃ y : Int32, y = x22612 + Int32.ofInt (-1) := ⟨_, rfl⟩
                have hy22710 : y22710.toInt = x22612.toInt + (-1) := i32_add ey22710 rfl (by decide) (by omega) (by omega)
                refine g_iinc (v := y22710) (lv' := [(1, .int y22710), (7, .int 1), (6, .int 1), (5, .int y22694), (4, .int y22692), (3, .int y22690), (2, .int x22611), (0, .ref (r 0))]) hk 6 dX12_fillsWay_126 rfl ey22710.symm (by decide) rfl ?_
                refine g_iload hk dX12_fillsWay_129 rfl ?_
                refine g_if_ne (tgt := 139) (a := 1) hk dX12_fillsWay_131 (by decide) rfl (fun _ => ?_) (fun z9 => absurd (show (1 : Int) ≠ (0 : Int) from by decide) z9)
                obtain ⟨y22711, ey22711⟩ : ∃ y : Int32, y = x22611 + Int32.ofInt (-1) := ⟨_, rfl⟩
                have hy22711 : y22711.toInt = x22611.toInt + (-1) := i32_add ey22711 rfl (by decide) (by omega) (by omega)
                refine g_iinc (v := y22711) (lv' := [(2, .int y22711), (1, .int y22710), (7, .int 1), (6, .int 1), (5, .int y22694), (4, .int y22692), (3, .int y22690), (0, .ref (r 0))]) hk 6 dX12_fillsWay_139 rfl ey22711.symm (by decide) rfl ?_
                refine g_goto (tgt := 19) hk dX12_fillsWay_142 (by decide) ?_
                exact g_lv (List.forall_mem_cons.mpr ⟨List.mem_of_getElem? (i := 0) rfl, (List.forall_mem_cons.mpr ⟨List.mem_of_getElem? (i := 1) rfl, (List.forall_mem_cons.mpr ⟨List.mem_of_getElem? (i := 7) rfl, (fun _ h => absurd h List.not_mem_nil)⟩)⟩)⟩) (ih22681 y22711 y22710 (upd I22614 23 y22687) (up3 A22614 23 ((I22614 23).toNatClampNeg) y22686) L22614 (show Md [23] (upd I 23 0) (upd I22614 23 y22687) from Md.tr hI22614 (show Md [23] I22614 (upd I22614 23 y22687) from (Md.up Md.rf rfl)) rfl) (show Md [23] A (up3 A22614 23 ((I22614 23).toNatClampNeg) y22686) from Md.tr hA22614 (show Md [23] A22614 (up3 A22614 23 ((I22614 23).toNatClampNeg) y22686) from (Md.up3 Md.rf rfl)) rfl) ⟨(IvM_f1 (I := I22614) (A := A22614) hV22614), (IvM_f2 (I := I22614) (A := A22614) hV22614), (IvM_f3 (I := I22614) (A := A22614) hV22614), (IvM_f4 (I := I22614) (A := A22614) hV22614), (IvM_f6 (I := I22614) (A := A22614) hV22614), (IvM_f8 (I := I22614) (A := A22614) hV22614), (IvM_f15 (I := I22614) (A := A22614) hV22614), (IvM_f16 (I := I22614) (A := A22614) hV22614), (IvM_f17 (I := I22614) (A := A22614) hV22614), (IvM_f18 (I := I22614) (A := A22614) hV22614), (IvM_f22 (I := I22614) (A := A22614) hV22614), (show 0 ≤ y22687.toInt ∧ y22687.toInt ≤ 40 from ⟨by omega, by omega⟩), (IvM_f24 (I := I22614) (A := A22614) hV22614), (IvM_a11 (I := I22614) (A := A22614) hV22614), (IvM_a26 (I := I22614) (A := A22614) hV22614), (IvM_s8_0 (I := I22614) (A := A22614) hV22614), (IvM_s8_1 (I := I22614) (A := A22614) hV22614), (IvM_s10_0 (I := I22614) (A := A22614) hV22614), (IvM_s10_1 (I := I22614) (A := A22614) hV22614), (IvM_s17_0 (I := I22614) (A := A22614) hV22614), (IvM_s17_164 (I := I22614) (A := A22614) hV22614), (IvM_lv (I := I22614) (A := A22614) hV22614), (IvM_sd (I := I22614) (A := A22614) hV22614), (IvM_nq (I := I22614) (A := A22614) hV22614), (IvM_hr (I := I22614) (A := A22614) hV22614), (IvM_hh (I := I22614) (A := A22614) hV22614), trivial⟩ (by omega) (by omega) (by omega) (by omega) (by first | (rw [show ((upd I22614 23 y22687) 23) = y22687 from rfl] <;> omega) | omega) (by omega) (by omega))
  obtain ⟨n22712, n22712a, n22712b⟩ : ∃ n : Nat, y22609.toInt + y22610.toInt + 3 < (n : Int) ∧ 0 < n := ⟨((y22609.toInt + y22610.toInt + 3 : Int)).toNat + 1, by omega, by omega⟩
  have k22713 : (0 : Int32).toInt = 0 := rfl
  exact lp22678 n22712 y22610 y22609 (upd I 23 0) A L Md.rf Md.rf ⟨(IvM_f1 (I := I) (A := A) hIv), (IvM_f2 (I := I) (A := A) hIv), (IvM_f3 (I := I) (A := A) hIv), (IvM_f4 (I := I) (A := A) hIv), (IvM_f6 (I := I) (A := A) hIv), (IvM_f8 (I := I) (A := A) hIv), (IvM_f15 (I := I) (A := A) hIv), (IvM_f16 (I := I) (A := A) hIv), (IvM_f17 (I := I) (A := A) hIv), (IvM_f18 (I := I) (A := A) hIv), (IvM_f22 (I := I) (A := A) hIv), (show 0 ≤ (0 : Int32).toInt ∧ (0 : Int32).toInt ≤ 40 from ⟨by decide, by decide⟩), (IvM_f24 (I := I) (A := A) hIv), (IvM_a11 (I := I) (A := A) hIv), (IvM_a26 (I := I) (A := A) hIv), (IvM_s8_0 (I := I) (A := A) hIv), (IvM_s8_1 (I := I) (A := A) hIv), (IvM_s10_0 (I := I) (A := A) hIv), (IvM_s10_1 (I := I) (A := A) hIv), (IvM_s17_0 (I := I) (A := A) hIv), (IvM_s17_164 (I := I) (A := A) hIv), (IvM_lv (I := I) (A := A) hIv), (IvM_sd (I := I) (A := A) hIv), (IvM_nq (I := I) (A := A) hIv), (IvM_hr (I := I) (A := A) hIv), (IvM_hh (I := I) (A := A) hIv), trivial⟩ (by omega) (by omega) (by omega) (by omega) (by first | (rw [show ((upd I 23 0) 23) = (0 : Int32) from rfl] <;> omega) | omega) n22712a n22712b
def wo_j194_X12_way : List Cond := [Cond.methodLink RX12 342 yX12_isOf, Cond.instanceMethod yX12_isOf, Cond.selects RX12 yX12_isOf yX12_isOf, Cond.initialized RX12, Cond.methodLink RX12 323 yX12_copies, Cond.instanceMethod yX12_copies, Cond.selects RX12 yX12_copies yX12_copies, Cond.methodLink RX12 345 yX12_distanceOf, Cond.instanceMethod yX12_distanceOf, Cond.selects RX12 yX12_distanceOf yX12_distanceOf, Cond.methodLink RX12 354 yX12_fillsWay, Cond.instanceMethod yX12_fillsWay, Cond.selects RX12 yX12_fillsWay yX12_fillsWay, Cond.fieldLink RX12 351 "WarpDeskModel" "wayMany" "I", Cond.fieldLink RX12 88 "WarpDeskModel" "wayAt" "[I"]
def wz_j194_X12_way : List Cond := .code yX12_way cX12_way 4 (some .int) :: (wo_j194_X12_way ++ (wsX120 ++ (wz_j168_X12_isOf ++ (wz_j151_X12_copies ++ (wz_j169_X12_distanceOf ++ (wz_j195_X12_fillsWay ++ ([] : List Cond)))))))
theorem zg_j194_X12_way : ∀ w ∈ wz_j194_X12_way, goodWord w = true := zg_cons rfl (zg_app (by decide +kernel) (zg_app zgU_wsX120 (zg_app zg_j168_X12_isOf (zg_app zg_j151_X12_copies (zg_app zg_j169_X12_distanceOf (zg_app zg_j195_X12_fillsWay zg_nil))))))
theorem zi_j194_X12_way : ∀ w ∈ wz_j194_X12_way, w ∈ lw_tbl := zi_cons zw_1831 (zi_app (zi_cons zw_1755 (zi_cons zw_1757 (zi_cons zw_78 (zi_cons zw_115 (zi_cons zw_1679 (zi_cons zw_1681 (zi_cons zw_70 (zi_cons zw_1759 (zi_cons zw_1761 (zi_cons zw_79 (zi_cons zw_1832 (zi_cons zw_1834 (zi_cons zw_92 (zi_cons zw_1425 (zi_cons zw_1424 zi_nil))))))))))))))) (zi_app inX12 (zi_app zi_j168_X12_isOf (zi_app zi_j151_X12_copies (zi_app zi_j169_X12_distanceOf (zi_app zi_j195_X12_fillsWay zi_nil))))))
set_option maxHeartbeats 4000000 in
set_option maxRecDepth 100000 in
theorem j194_X12_way (l : Launch) (D : va_G) (zt : Nat × Nat × Nat × (Nat → Nat) × (Nat → Nat)) (r : Nat → Nat) (g : Nat → ClassId) (I : Nat → Int32) (A : Nat → Nat → Int32) (L : Nat → Nat → Int64) (z1 : Int32) (z2 : Int32) (z3 : Int32) (hIv : IvM I A) : GM l D zt (tyM g) yX12_way wz_j194_X12_way ({ frames := 6, cells := 0, slots := 0, locals := 134 } : Room) [.ref (r 0), .int z1, .int z2, .int z3] (wM r g I A L) (fun v _ w' => ∃ (I' : Nat → Int32) (A' : Nat → Nat → Int32) (L' : Nat → Nat → Int64), Md [18, 19, 20, 23] I I' ∧ Md [18, 19, 20, 21, 23] A A' ∧ IvM I' A' ∧ ∃ y0 : Int32, v = some (.int y0) ∧ w' = wM r g I' A' L') 0 0 := by
  refine GM.of (cc := cX12_way) (maxL := 4) (ret := (some .int)) (own := RX12) (lv := [(0, .ref (r 0)), (1, .int z1), (2, .int z2), (3, .int z3)]) (by decide) rfl rfl (Nat.le_of_ble_eq_true rfl) rfl (fun κ sz hk hR hN => ?_)
  have hin12 : ∀ w ∈ u_ws RX12 TX12 55, w ∈ wz_j194_X12_way := fun w h => (List.mem_cons_of_mem _ (List.mem_append_right _ (List.mem_append_left _ h)))
  refine g_aload_n hk dX12_way_0 rfl ?_
  refine g_iload_n hk dX12_way_1 rfl ?_
  refine g_iload_n hk dX12_way_2 rfl ?_
  refine g_callV (n := 2) hk (j168_X12_isOf l D zt r g I A L z1 z2 hIv) (SP.same _) (fun _ h => h) (gi_V (List.mem_cons_of_mem _ (List.mem_append_left _ (List.mem_of_getElem? (i := 0) rfl))) (List.mem_cons_of_mem _ (List.mem_append_left _ (List.mem_of_getElem? (i := 1) rfl))) (List.mem_cons_of_mem _ (List.mem_append_left _ (List.mem_of_getElem? (i := 2) rfl))) (List.mem_cons_of_mem _ (List.mem_append_left _ (List.mem_of_getElem? (i := 3) rfl))) (gi_sub (fun w h => (List.mem_cons_of_mem _ (List.mem_append_right _ (List.mem_append_right _ (List.mem_append_left _ h))))) zg_j168_X12_isOf)) rfl rfl rfl (by decide +kernel) ⟨Nat.le_of_ble_eq_true rfl, Nat.le_of_ble_eq_true rfl⟩ 0 rfl rfl rfl rfl (Nat.le_of_ble_eq_true rfl) ⟨Nat.le_of_ble_eq_true rfl, Nat.le_of_ble_eq_true rfl⟩ dX12_way_3 (fun v ty' w' hp hk' => ?_)
  rcases hp with ⟨rfl, rfl⟩ | ⟨c22585, c22586, c22587, c22588, c22589, c22590, c22591, c22592, c22593, rfl, rfl⟩
  · skip
    show GW κ 4 0 0 (wM r g I A L) 6 [(0, .ref (r 0)), (1, .int z1), (2, .int z2), (3, .int z3)] [.int 0]
    refine g_if_eq (tgt := 14) (a := 0) hk dX12_way_6 (by decide) rfl (fun _ => ?_) (fun z9 => absurd (show (0 : Int) = (0 : Int) from by decide) z9)
    refine g_iconst (v := (-1)) hk dX12_way_14 (by decide) ?_
    exact g_iret hk hR rfl ⟨I, A, L, (show Md [18, 19, 20, 23] I I from Md.rf), (show Md [18, 19, 20, 21, 23] A A from Md.rf), hIv, (-1), rfl, rfl⟩ dX12_way_15
  · skip
    have f22595 : 0 ≤ (A 11 (5 * (I 15) + z1).toNatClampNeg).toInt ∧ (A 11 (5 * (I 15) + z1).toNatClampNeg).toInt ≤ 16 := IvM_a11 hIv _
    show GW κ 4 0 0 (wM r g I A L) 6 [(0, .ref (r 0)), (1, .int z1), (2, .int z2), (3, .int z3)] [.int 1]
    refine g_if_eq (tgt := 14) (a := 1) hk dX12_way_6 (by decide) rfl (fun z9 => absurd z9 (show ¬ ((1 : Int) = (0 : Int)) from by decide)) (fun _ => ?_)
    refine g_iload_n hk dX12_way_9 rfl ?_
    refine g_iconst (v := (-1)) hk dX12_way_10 (by decide) ?_
    have b22596l := Int32.le_toInt z3
    have b22596h := Int32.toInt_lt z3
    refine g_icmp_ge (tgt := 16) (a := z3.toInt) (b := (-1)) hk dX12_way_11 (by decide) rfl rfl (fun c22597 => ?_) (fun c22597 => ?_)
    · skip
      refine g_aload_n hk dX12_way_16 rfl ?_
      refine g_callV (n := 0) hk (j151_X12_copies l D zt r g I A L  hIv) (SP.same _) (fun _ h => h) (gi_V (List.mem_cons_of_mem _ (List.mem_append_left _ (List.mem_of_getElem? (i := 4) rfl))) (List.mem_cons_of_mem _ (List.mem_append_left _ (List.mem_of_getElem? (i := 5) rfl))) (List.mem_cons_of_mem _ (List.mem_append_left _ (List.mem_of_getElem? (i := 6) rfl))) (List.mem_cons_of_mem _ (List.mem_append_left _ (List.mem_of_getElem? (i := 3) rfl))) (gi_sub (fun w h => (List.mem_cons_of_mem _ (List.mem_append_right _ (List.mem_append_right _ (List.mem_append_right _ (List.mem_append_left _ h)))))) zg_j151_X12_copies)) rfl rfl rfl (by decide +kernel) ⟨Nat.le_of_ble_eq_true rfl, Nat.le_of_ble_eq_true rfl⟩ 0 rfl rfl rfl rfl (Nat.le_of_ble_eq_true rfl) ⟨Nat.le_of_ble_eq_true rfl, Nat.le_of_ble_eq_true rfl⟩ dX12_way_17 (fun v ty' w' hp hk' => ?_)
      obtain ⟨I22599, A22599, L22599, hI22599, hA22599, hV22599, r22600, r22601, rfl, rfl⟩ := hp
      have f22602 := IvM_s17_0 hIv
      have f22603 := IvM_s17_164 hIv
      show GW κ 4 0 0 (wM r g I22599 A22599 L22599) 20 [(0, .ref (r 0)), (1, .int z1), (2, .int z2), (3, .int z3)] []
      refine g_aload_n hk dX12_way_20 rfl ?_
      refine g_iload_n hk dX12_way_21 rfl ?_
      refine g_iload_n hk dX12_way_22 rfl ?_
      refine g_callV (n := 2) hk (j169_X12_distanceOf l D zt r g I22599 A22599 L22599 z1 z2 hV22599 (by omega) (by omega) (by omega) (by omega) (by first | (rw [show (A22599 11 (5 * (I22599 15) + z1).toNatClampNeg) = (A 11 (5 * (I 15) + z1).toNatClampNeg) from (by rw [show I22599 15 = (I 15) from (hI22599 15 rfl)]; exact (congrFun (hA22599 11 rfl) _))] <;> omega) | omega) (by first | (rw [show (A22599 11 (5 * (I22599 15) + z1).toNatClampNeg) = (A 11 (5 * (I 15) + z1).toNatClampNeg) from (by rw [show I22599 15 = (I 15) from (hI22599 15 rfl)]; exact (congrFun (hA22599 11 rfl) _))] <;> omega) | omega)) (SP.same _) (fun _ h => h) (gi_V (List.mem_cons_of_mem _ (List.mem_append_left _ (List.mem_of_getElem? (i := 7) rfl))) (List.mem_cons_of_mem _ (List.mem_append_left _ (List.mem_of_getElem? (i := 8) rfl))) (List.mem_cons_of_mem _ (List.mem_append_left _ (List.mem_of_getElem? (i := 9) rfl))) (List.mem_cons_of_mem _ (List.mem_append_left _ (List.mem_of_getElem? (i := 3) rfl))) (gi_sub (fun w h => (List.mem_cons_of_mem _ (List.mem_append_right _ (List.mem_append_right _ (List.mem_append_right _ (List.mem_append_right _ (List.mem_append_left _ h))))))) zg_j169_X12_distanceOf)) rfl rfl rfl (by decide +kernel) ⟨Nat.le_of_ble_eq_true rfl, Nat.le_of_ble_eq_true rfl⟩ 0 rfl rfl rfl rfl (Nat.le_of_ble_eq_true rfl) ⟨Nat.le_of_ble_eq_true rfl, Nat.le_of_ble_eq_true rfl⟩ dX12_way_23 (fun v ty' w' hp hk' => ?_)
      obtain ⟨I22605, A22605, L22605, hI22605, hA22605, hV22605, y22604, r22606, rfl, rfl⟩ := hp
      have f22607 := IvM_f18 hV22605
      show GW κ 4 0 0 (wM r g I22605 A22605 L22605) 26 [(0, .ref (r 0)), (1, .int z1), (2, .int z2), (3, .int z3)] [.int y22604]
      refine g_pop hk dX12_way_26 rfl ?_
      refine g_aload_n hk dX12_way_27 rfl ?_
      refine g_callV (n := 0) hk (j195_X12_fillsWay l D zt r g I22605 A22605 L22605  hV22605) (SP.same _) (fun _ h => h) (gi_V (List.mem_cons_of_mem _ (List.mem_append_left _ (List.mem_of_getElem? (i := 10) rfl))) (List.mem_cons_of_mem _ (List.mem_append_left _ (List.mem_of_getElem? (i := 11) rfl))) (List.mem_cons_of_mem _ (List.mem_append_left _ (List.mem_of_getElem? (i := 12) rfl))) (List.mem_cons_of_mem _ (List.mem_append_left _ (List.mem_of_getElem? (i := 3) rfl))) (gi_sub (fun w h => (List.mem_cons_of_mem _ (List.mem_append_right _ (List.mem_append_right _ (List.mem_append_right _ (List.mem_append_right _ (List.mem_append_right _ (List.mem_append_left _ h)))))))) zg_j195_X12_fillsWay)) rfl rfl rfl (by decide +kernel) ⟨Nat.le_of_ble_eq_true rfl, Nat.le_of_ble_eq_true rfl⟩ 0 rfl rfl rfl rfl (Nat.le_of_ble_eq_true rfl) ⟨Nat.le_of_ble_eq_true rfl, Nat.le_of_ble_eq_true rfl⟩ dX12_way_28 (fun v ty' w' hp hk' => ?_)
      obtain ⟨I22715, A22715, L22715, hI22715, hA22715, hV22715, rfl, rfl⟩ := hp
      show GW κ 4 0 0 (wM r g I22715 A22715 L22715) 31 [(0, .ref (r 0)), (1, .int z1), (2, .int z2), (3, .int z3)] []
      refine g_iload_n hk dX12_way_31 rfl ?_
      refine g_iconst (v := (-1)) hk dX12_way_32 (by decide) ?_
      refine g_icmp_ne (tgt := 43) (a := z3.toInt) (b := (-1)) hk dX12_way_33 (by decide) rfl rfl (fun c22716 => ?_) (fun c22716 => ?_)
      · skip
        refine g_iload_n hk dX12_way_43 rfl ?_
        refine g_aload_n hk dX12_way_44 rfl ?_
        refine gM_i23 (v := (I22715 23)) hk hin12 (List.mem_cons_of_mem _ (List.mem_append_left _ (List.mem_of_getElem? (i := 13) rfl))) dX12_way_45 rfl ?_
        have f22717 := IvM_f23 hV22715
        refine g_icmp_ge (tgt := 67) (a := z3.toInt) (b := (I22715 23).toInt) hk dX12_way_48 (by decide) rfl rfl (fun c22718 => ?_) (fun c22718 => ?_)
        · skip
          refine g_iconst (v := (-1)) hk dX12_way_67 (by decide) ?_
          exact g_iret hk hR rfl ⟨I22715, A22715, L22715, (show Md [18, 19, 20, 23] I I22715 from (Md.tr (Md.tr (Md.tr Md.rf hI22599 rfl) hI22605 rfl) hI22715 rfl)), (show Md [18, 19, 20, 21, 23] A A22715 from (Md.tr (Md.tr (Md.tr Md.rf hA22599 rfl) hA22605 rfl) hA22715 rfl)), hV22715, (-1), rfl, rfl⟩ dX12_way_68
        · skip
          refine g_aload_n hk dX12_way_51 rfl ?_
          refine gM_r0_46 hk hin12 (List.mem_cons_of_mem _ (List.mem_append_left _ (List.mem_of_getElem? (i := 14) rfl))) dX12_way_52 ?_
          refine g_aload_n hk dX12_way_55 rfl ?_
          refine gM_i23 (v := (I22715 23)) hk hin12 (List.mem_cons_of_mem _ (List.mem_append_left _ (List.mem_of_getElem? (i := 13) rfl))) dX12_way_56 rfl ?_
          refine g_iconst (v := 1) hk dX12_way_59 (by decide) ?_
          refine g_isub hk dX12_way_60 ?_
          refine g_topi (fun y22719 ey22719 => ?_)
          have hy22719 : y22719.toInt = (I22715 23).toInt - 1 := i32_sub ey22719 rfl rfl (by omega) (by omega)
          refine g_iload_n hk dX12_way_61 rfl ?_
          refine g_isub hk dX12_way_62 ?_
          refine g_topi (fun y22720 ey22720 => ?_)
          have hy22720 : y22720.toInt = y22719.toInt - z3.toInt := i32_sub ey22720 rfl rfl (by omega) (by omega)
          refine lM_23 (v := (A22715 23 y22720.toNatClampNeg)) hk (vp_in_iff.mpr ⟨by omega, by omega⟩) rfl dX12_way_63 ?_
          refine g_goto (tgt := 68) hk dX12_way_64 (by decide) ?_
          have b22721l := Int32.le_toInt (A22715 23 y22720.toNatClampNeg)
          have b22721h := Int32.toInt_lt (A22715 23 y22720.toNatClampNeg)
          exact g_iret hk hR rfl ⟨I22715, A22715, L22715, (show Md [18, 19, 20, 23] I I22715 from (Md.tr (Md.tr (Md.tr Md.rf hI22599 rfl) hI22605 rfl) hI22715 rfl)), (show Md [18, 19, 20, 21, 23] A A22715 from (Md.tr (Md.tr (Md.tr Md.rf hA22599 rfl) hA22605 rfl) hA22715 rfl)), hV22715, (A22715 23 y22720.toNatClampNeg), rfl, rfl⟩ dX12_way_68
      · skip
        refine g_aload_n hk dX12_way_36 rfl ?_
        refine gM_i23 (v := (I22715 23)) hk hin12 (List.mem_cons_of_mem _ (List.mem_append_left _ (List.mem_of_getElem? (i := 13) rfl))) dX12_way_37 rfl ?_
        have f22722 := IvM_f23 hV22715
        refine g_goto (tgt := 68) hk dX12_way_40 (by decide) ?_
        exact g_iret hk hR rfl ⟨I22715, A22715, L22715, (show Md [18, 19, 20, 23] I I22715 from (Md.tr (Md.tr (Md.tr Md.rf hI22599 rfl) hI22605 rfl) hI22715 rfl)), (show Md [18, 19, 20, 21, 23] A A22715 from (Md.tr (Md.tr (Md.tr Md.rf hA22599 rfl) hA22605 rfl) hA22715 rfl)), hV22715, (I22715 23), rfl, rfl⟩ dX12_way_68
    · skip
      refine g_iconst (v := (-1)) hk dX12_way_14 (by decide) ?_
      exact g_iret hk hR rfl ⟨I, A, L, (show Md [18, 19, 20, 23] I I from Md.rf), (show Md [18, 19, 20, 21, 23] A A from Md.rf), hIv, (-1), rfl, rfl⟩ dX12_way_15
def wo_j196_X12_needs : List Cond := [Cond.methodLink RX12 342 yX12_isOf, Cond.instanceMethod yX12_isOf, Cond.selects RX12 yX12_isOf yX12_isOf, Cond.initialized RX12, Cond.fieldLink RX12 70 "WarpDeskModel" "now" "[I", Cond.methodLink RX12 357 yX12_fillsFar, Cond.instanceMethod yX12_fillsFar, Cond.selects RX12 yX12_fillsFar yX12_fillsFar, Cond.methodLink RX12 360 yX12_bestWindow, Cond.instanceMethod yX12_bestWindow, Cond.selects RX12 yX12_bestWindow yX12_bestWindow]
def wz_j196_X12_needs : List Cond := .code yX12_needs cX12_needs 6 (some .int) :: (wo_j196_X12_needs ++ (wsX120 ++ (wz_j168_X12_isOf ++ (wz_j186_X12_fillsFar ++ (wz_j187_X12_bestWindow ++ ([] : List Cond))))))
theorem zg_j196_X12_needs : ∀ w ∈ wz_j196_X12_needs, goodWord w = true := zg_cons rfl (zg_app (by decide +kernel) (zg_app zgU_wsX120 (zg_app zg_j168_X12_isOf (zg_app zg_j186_X12_fillsFar (zg_app zg_j187_X12_bestWindow zg_nil)))))
theorem zi_j196_X12_needs : ∀ w ∈ wz_j196_X12_needs, w ∈ lw_tbl := zi_cons zw_1855 (zi_app (zi_cons zw_1755 (zi_cons zw_1757 (zi_cons zw_78 (zi_cons zw_115 (zi_cons zw_1413 (zi_cons zw_1844 (zi_cons zw_1846 (zi_cons zw_93 (zi_cons zw_1848 (zi_cons zw_1850 (zi_cons zw_94 zi_nil))))))))))) (zi_app inX12 (zi_app zi_j168_X12_isOf (zi_app zi_j186_X12_fillsFar (zi_app zi_j187_X12_bestWindow zi_nil)))))
set_option maxHeartbeats 4000000 in
set_option maxRecDepth 100000 in
theorem j196_X12_needs (l : Launch) (D : va_G) (zt : Nat × Nat × Nat × (Nat → Nat) × (Nat → Nat)) (r : Nat → Nat) (g : Nat → ClassId) (I : Nat → Int32) (A : Nat → Nat → Int32) (L : Nat → Nat → Int64) (z1 : Int32) (z2 : Int32) (hIv : IvM I A) : GM l D zt (tyM g) yX12_needs wz_j196_X12_needs ({ frames := 7, cells := 0, slots := 0, locals := 156 } : Room) [.ref (r 0), .int z1, .int z2] (wM r g I A L) (fun v _ w' => ∃ (I' : Nat → Int32) (A' : Nat → Nat → Int32) (L' : Nat → Nat → Int64), Md [18, 19, 20] I I' ∧ Md [17, 18, 19, 20, 21, 24] A A' ∧ IvM I' A' ∧ ∃ y0 : Int32, ((-2) ≤ y0.toInt) ∧ (y0.toInt ≤ 15) ∧ v = some (.int y0) ∧ w' = wM r g I' A' L') 0 0 := by
  refine GM.of (cc := cX12_needs) (maxL := 6) (ret := (some .int)) (own := RX12) (lv := [(0, .ref (r 0)), (1, .int z1), (2, .int z2)]) (by decide) rfl rfl (Nat.le_of_ble_eq_true rfl) rfl (fun κ sz hk hR hN => ?_)
  have hin12 : ∀ w ∈ u_ws RX12 TX12 55, w ∈ wz_j196_X12_needs := fun w h => (List.mem_cons_of_mem _ (List.mem_append_right _ (List.mem_append_left _ h)))
  refine g_aload_n hk dX12_needs_0 rfl ?_
  refine g_iload_n hk dX12_needs_1 rfl ?_
  refine g_iload_n hk dX12_needs_2 rfl ?_
  refine g_callV (n := 2) hk (j168_X12_isOf l D zt r g I A L z1 z2 hIv) (SP.same _) (fun _ h => h) (gi_V (List.mem_cons_of_mem _ (List.mem_append_left _ (List.mem_of_getElem? (i := 0) rfl))) (List.mem_cons_of_mem _ (List.mem_append_left _ (List.mem_of_getElem? (i := 1) rfl))) (List.mem_cons_of_mem _ (List.mem_append_left _ (List.mem_of_getElem? (i := 2) rfl))) (List.mem_cons_of_mem _ (List.mem_append_left _ (List.mem_of_getElem? (i := 3) rfl))) (gi_sub (fun w h => (List.mem_cons_of_mem _ (List.mem_append_right _ (List.mem_append_right _ (List.mem_append_left _ h))))) zg_j168_X12_isOf)) rfl rfl rfl (by decide +kernel) ⟨Nat.le_of_ble_eq_true rfl, Nat.le_of_ble_eq_true rfl⟩ 0 rfl rfl rfl rfl (Nat.le_of_ble_eq_true rfl) ⟨Nat.le_of_ble_eq_true rfl, Nat.le_of_ble_eq_true rfl⟩ dX12_needs_3 (fun v ty' w' hp hk' => ?_)
  rcases hp with ⟨rfl, rfl⟩ | ⟨c22724, c22725, c22726, c22727, c22728, c22729, c22730, c22731, c22732, rfl, rfl⟩
  · skip
    show GW κ 6 0 0 (wM r g I A L) 6 [(0, .ref (r 0)), (1, .int z1), (2, .int z2)] [.int 0]
    refine g_if_ne (tgt := 11) (a := 0) hk dX12_needs_6 (by decide) rfl (fun z9 => absurd z9 (show ¬ ((0 : Int) ≠ (0 : Int)) from by decide)) (fun _ => ?_)
    refine g_iconst (v := (-1)) hk dX12_needs_9 (by decide) ?_
    exact g_iret hk hR rfl ⟨I, A, L, (show Md [18, 19, 20] I I from Md.rf), (show Md [17, 18, 19, 20, 21, 24] A A from Md.rf), hIv, (-1), (by decide), (by decide), rfl, rfl⟩ dX12_needs_10
  · skip
    have f22734 : 0 ≤ (A 11 (5 * (I 15) + z1).toNatClampNeg).toInt ∧ (A 11 (5 * (I 15) + z1).toNatClampNeg).toInt ≤ 16 := IvM_a11 hIv _
    show GW κ 6 0 0 (wM r g I A L) 6 [(0, .ref (r 0)), (1, .int z1), (2, .int z2)] [.int 1]
    refine g_if_ne (tgt := 11) (a := 1) hk dX12_needs_6 (by decide) rfl (fun _ => ?_) (fun z9 => absurd (show (1 : Int) ≠ (0 : Int) from by decide) z9)
    refine g_aload_n hk dX12_needs_11 rfl ?_
    refine gM_r0_35 hk hin12 (List.mem_cons_of_mem _ (List.mem_append_left _ (List.mem_of_getElem? (i := 4) rfl))) dX12_needs_12 ?_
    refine g_sipush (v := 161) hk dX12_needs_15 (by decide) ?_
    refine lM_17 (v := (A 17 161)) hk (vp_in_iff.mpr ⟨by decide, by decide⟩) rfl dX12_needs_18 ?_
    refine g_istore_n (lv' := [(3, .int (A 17 161)), (0, .ref (r 0)), (1, .int z1), (2, .int z2)]) hk dX12_needs_19 (by decide) rfl ?_
    refine g_bipush (v := (-2)) hk dX12_needs_20 (by decide) ?_
    refine g_istore (lv' := [(4, .int (-2)), (3, .int (A 17 161)), (0, .ref (r 0)), (1, .int z1), (2, .int z2)]) hk dX12_needs_22 (by decide) rfl ?_
    refine g_bipush (v := 15) hk dX12_needs_24 (by decide) ?_
    refine g_istore (lv' := [(5, .int 15), (4, .int (-2)), (3, .int (A 17 161)), (0, .ref (r 0)), (1, .int z1), (2, .int z2)]) hk dX12_needs_26 (by decide) rfl ?_
    have lp22796 : ∀ (n22797 : Nat) (x22735 : Int32) (x22736 : Int32) (I22741 : Nat → Int32) (A22741 : Nat → Nat → Int32) (L22741 : Nat → Nat → Int64), (Md [18, 19, 20] I I22741) → (Md [17, 18, 19, 20, 21, 24] A A22741) → (IvM I22741 A22741) → ((-1) ≤ x22735.toInt) → (x22735.toInt ≤ 15) → ((-2) ≤ x22736.toInt) → (x22736.toInt ≤ 15) → (x22735.toInt + 1 - 0 < (n22797 : Int)) → (0 < n22797) → GW κ 6 0 0 (wM r g I22741 A22741 L22741) 28 [(5, .int x22735), (4, .int x22736), (3, .int (A 17 161)), (0, .ref (r 0)), (1, .int z1), (2, .int z2)] [] := by
      intro n22797
      induction n22797 with
      | zero =>
        intro x22735 x22736 I22741 A22741 L22741 hI22741 hA22741 hV22741 h22792 h22793 h22794 h22795 m22798 m22798z
        exact absurd m22798z (Nat.lt_irrefl 0)
      | succ n22797 ih22799 =>
        intro x22735 x22736 I22741 A22741 L22741 hI22741 hA22741 hV22741 h22792 h22793 h22794 h22795 m22798 m22798z
        refine g_iload hk dX12_needs_28 rfl ?_
        refine g_if_lt (tgt := 66) (a := x22735.toInt) hk dX12_needs_30 (by decide) rfl (fun c22800 => ?_) (fun c22800 => ?_)
        · skip
          refine g_aload_n hk dX12_needs_66 rfl ?_
          refine gM_r0_35 hk hin12 (List.mem_cons_of_mem _ (List.mem_append_left _ (List.mem_of_getElem? (i := 4) rfl))) dX12_needs_67 ?_
          refine g_sipush (v := 161) hk dX12_needs_70 (by decide) ?_
          refine g_iload_n hk dX12_needs_73 rfl ?_
          refine sM_17 (j := 161) hk (vp_in_iff.mpr ⟨by decide, by decide⟩) (by decide) dX12_needs_74 ?_
          have f22801 := IvM_s17_0 hV22741
          have f22802 := IvM_s17_164 hV22741
          refine g_iload hk dX12_needs_75 rfl ?_
          exact g_iret hk hR rfl ⟨I22741, (up3 A22741 17 161 (A 17 161)), L22741, (show Md [18, 19, 20] I I22741 from (Md.tr Md.rf hI22741 rfl)), (show Md [17, 18, 19, 20, 21, 24] A (up3 A22741 17 161 (A 17 161)) from (Md.up3 (Md.tr Md.rf hA22741 rfl) rfl)), ⟨(IvM_f1 (I := I22741) (A := A22741) hV22741), (IvM_f2 (I := I22741) (A := A22741) hV22741), (IvM_f3 (I := I22741) (A := A22741) hV22741), (IvM_f4 (I := I22741) (A := A22741) hV22741), (IvM_f6 (I := I22741) (A := A22741) hV22741), (IvM_f8 (I := I22741) (A := A22741) hV22741), (IvM_f15 (I := I22741) (A := A22741) hV22741), (IvM_f16 (I := I22741) (A := A22741) hV22741), (IvM_f17 (I := I22741) (A := A22741) hV22741), (IvM_f18 (I := I22741) (A := A22741) hV22741), (IvM_f22 (I := I22741) (A := A22741) hV22741), (IvM_f23 (I := I22741) (A := A22741) hV22741), (IvM_f24 (I := I22741) (A := A22741) hV22741), (IvM_a11 (I := I22741) (A := A22741) hV22741), (IvM_a26 (I := I22741) (A := A22741) hV22741), (IvM_s8_0 (I := I22741) (A := A22741) hV22741), (IvM_s8_1 (I := I22741) (A := A22741) hV22741), (IvM_s10_0 (I := I22741) (A := A22741) hV22741), (IvM_s10_1 (I := I22741) (A := A22741) hV22741), (show 0 ≤ ((up3 A22741 17 161 (A 17 161)) 17 0).toInt ∧ ((up3 A22741 17 161 (A 17 161)) 17 0).toInt ≤ 160 from by rw [show (up3 A22741 17 161 (A 17 161)) 17 0 = (A22741 17 0) from rfl]; exact ⟨by omega, by omega⟩), (show 1 ≤ ((up3 A22741 17 161 (A 17 161)) 17 164).toInt ∧ ((up3 A22741 17 161 (A 17 161)) 17 164).toInt ≤ 2147483647 from by rw [show (up3 A22741 17 161 (A 17 161)) 17 164 = (A22741 17 164) from rfl]; exact ⟨by omega, by omega⟩), (IvM_lv (I := I22741) (A := A22741) hV22741), (IvM_sd (I := I22741) (A := A22741) hV22741), (IvM_nq (I := I22741) (A := A22741) hV22741), (IvM_hr (I := I22741) (A := A22741) hV22741), (IvM_hh (I := I22741) (A := A22741) hV22741), trivial⟩, x22736, (by omega), (by omega), rfl, rfl⟩ dX12_needs_77
        · skip
          refine g_aload_n hk dX12_needs_33 rfl ?_
          refine gM_r0_35 hk hin12 (List.mem_cons_of_mem _ (List.mem_append_left _ (List.mem_of_getElem? (i := 4) rfl))) dX12_needs_34 ?_
          refine g_sipush (v := 161) hk dX12_needs_37 (by decide) ?_
          refine g_iload hk dX12_needs_40 rfl ?_
          refine sM_17 (j := 161) hk (vp_in_iff.mpr ⟨by decide, by decide⟩) (by decide) dX12_needs_42 ?_
          have f22803 := IvM_s17_0 hV22741
          have f22804 := IvM_s17_164 hV22741
          refine g_aload_n hk dX12_needs_43 rfl ?_
          refine g_iload_n hk dX12_needs_44 rfl ?_
          refine g_callV (n := 1) hk (j186_X12_fillsFar l D zt r g I22741 (up3 A22741 17 161 x22735) L22741 z1 ⟨(IvM_f1 (I := I22741) (A := A22741) hV22741), (IvM_f2 (I := I22741) (A := A22741) hV22741), (IvM_f3 (I := I22741) (A := A22741) hV22741), (IvM_f4 (I := I22741) (A := A22741) hV22741), (IvM_f6 (I := I22741) (A := A22741) hV22741), (IvM_f8 (I := I22741) (A := A22741) hV22741), (IvM_f15 (I := I22741) (A := A22741) hV22741), (IvM_f16 (I := I22741) (A := A22741) hV22741), (IvM_f17 (I := I22741) (A := A22741) hV22741), (IvM_f18 (I := I22741) (A := A22741) hV22741), (IvM_f22 (I := I22741) (A := A22741) hV22741), (IvM_f23 (I := I22741) (A := A22741) hV22741), (IvM_f24 (I := I22741) (A := A22741) hV22741), (IvM_a11 (I := I22741) (A := A22741) hV22741), (IvM_a26 (I := I22741) (A := A22741) hV22741), (IvM_s8_0 (I := I22741) (A := A22741) hV22741), (IvM_s8_1 (I := I22741) (A := A22741) hV22741), (IvM_s10_0 (I := I22741) (A := A22741) hV22741), (IvM_s10_1 (I := I22741) (A := A22741) hV22741), (show 0 ≤ ((up3 A22741 17 161 x22735) 17 0).toInt ∧ ((up3 A22741 17 161 x22735) 17 0).toInt ≤ 160 from by rw [show (up3 A22741 17 161 x22735) 17 0 = (A22741 17 0) from rfl]; exact ⟨by omega, by omega⟩), (show 1 ≤ ((up3 A22741 17 161 x22735) 17 164).toInt ∧ ((up3 A22741 17 161 x22735) 17 164).toInt ≤ 2147483647 from by rw [show (up3 A22741 17 161 x22735) 17 164 = (A22741 17 164) from rfl]; exact ⟨by omega, by omega⟩), (IvM_lv (I := I22741) (A := A22741) hV22741), (IvM_sd (I := I22741) (A := A22741) hV22741), (IvM_nq (I := I22741) (A := A22741) hV22741), (IvM_hr (I := I22741) (A := A22741) hV22741), (IvM_hh (I := I22741) (A := A22741) hV22741), trivial⟩ (by omega) (by omega)) (SP.same _) (fun _ h => h) (gi_V (List.mem_cons_of_mem _ (List.mem_append_left _ (List.mem_of_getElem? (i := 5) rfl))) (List.mem_cons_of_mem _ (List.mem_append_left _ (List.mem_of_getElem? (i := 6) rfl))) (List.mem_cons_of_mem _ (List.mem_append_left _ (List.mem_of_getElem? (i := 7) rfl))) (List.mem_cons_of_mem _ (List.mem_append_left _ (List.mem_of_getElem? (i := 3) rfl))) (gi_sub (fun w h => (List.mem_cons_of_mem _ (List.mem_append_right _ (List.mem_append_right _ (List.mem_append_right _ (List.mem_append_left _ h)))))) zg_j186_X12_fillsFar)) rfl rfl rfl (by decide +kernel) ⟨Nat.le_of_ble_eq_true rfl, Nat.le_of_ble_eq_true rfl⟩ 0 rfl rfl rfl rfl (Nat.le_of_ble_eq_true rfl) ⟨Nat.le_of_ble_eq_true rfl, Nat.le_of_ble_eq_true rfl⟩ dX12_needs_45 (fun v ty' w' hp hk' => ?_)
          obtain ⟨I22806, A22806, L22806, hI22806, hA22806, hV22806, r22807, rfl, rfl⟩ := hp
          show GW κ 6 0 0 (wM r g I22806 A22806 L22806) 48 [(5, .int x22735), (4, .int x22736), (3, .int (A 17 161)), (0, .ref (r 0)), (1, .int z1), (2, .int z2)] []
          refine g_aload_n hk dX12_needs_48 rfl ?_
          refine g_callV (n := 0) hk (j187_X12_bestWindow l D zt r g I22806 A22806 L22806  hV22806) (SP.same _) (fun _ h => h) (gi_V (List.mem_cons_of_mem _ (List.mem_append_left _ (List.mem_of_getElem? (i := 8) rfl))) (List.mem_cons_of_mem _ (List.mem_append_left _ (List.mem_of_getElem? (i := 9) rfl))) (List.mem_cons_of_mem _ (List.mem_append_left _ (List.mem_of_getElem? (i := 10) rfl))) (List.mem_cons_of_mem _ (List.mem_append_left _ (List.mem_of_getElem? (i := 3) rfl))) (gi_sub (fun w h => (List.mem_cons_of_mem _ (List.mem_append_right _ (List.mem_append_right _ (List.mem_append_right _ (List.mem_append_right _ (List.mem_append_left _ h))))))) zg_j187_X12_bestWindow)) rfl rfl rfl (by decide +kernel) ⟨Nat.le_of_ble_eq_true rfl, Nat.le_of_ble_eq_true rfl⟩ 0 rfl rfl rfl rfl (Nat.le_of_ble_eq_true rfl) ⟨Nat.le_of_ble_eq_true rfl, Nat.le_of_ble_eq_true rfl⟩ dX12_needs_49 (fun v ty' w' hp hk' => ?_)
          obtain ⟨y22808, c22809, c22810, rfl, rfl⟩ := hp
          show GW κ 6 0 0 (wM r g I22806 A22806 L22806) 52 [(5, .int x22735), (4, .int x22736), (3, .int (A 17 161)), (0, .ref (r 0)), (1, .int z1), (2, .int z2)] [.int y22808]
          refine g_iload_n hk dX12_needs_52 rfl ?_
          refine g_icmp_ne (tgt := 60) (a := y22808.toInt) (b := z2.toInt) hk dX12_needs_53 (by decide) rfl rfl (fun c22811 => ?_) (fun c22811 => ?_)
          · skip
            obtain ⟨y22812, ey22812⟩ : ∃ y : Int32, y = x22735 + Int32.ofInt (-1) := ⟨_, rfl⟩
            have hy22812 : y22812.toInt = x22735.toInt + (-1) := i32_add ey22812 rfl (by decide) (by omega) (by omega)
            refine g_iinc (v := y22812) (lv' := [(5, .int y22812), (4, .int x22736), (3, .int (A 17 161)), (0, .ref (r 0)), (1, .int z1), (2, .int z2)]) hk 0 dX12_needs_60 rfl ey22812.symm (by decide) rfl ?_
            refine g_goto (tgt := 28) hk dX12_needs_63 (by decide) ?_
            exact g_lv (List.forall_mem_cons.mpr ⟨List.mem_of_getElem? (i := 0) rfl, (List.forall_mem_cons.mpr ⟨List.mem_of_getElem? (i := 1) rfl, (List.forall_mem_cons.mpr ⟨List.mem_of_getElem? (i := 2) rfl, (List.forall_mem_cons.mpr ⟨List.mem_of_getElem? (i := 3) rfl, (List.forall_mem_cons.mpr ⟨List.mem_of_getElem? (i := 4) rfl, (List.forall_mem_cons.mpr ⟨List.mem_of_getElem? (i := 5) rfl, (fun _ h => absurd h List.not_mem_nil)⟩)⟩)⟩)⟩)⟩)⟩) (ih22799 y22812 x22736 I22806 A22806 L22806 (show Md [18, 19, 20] I I22806 from Md.tr hI22741 (show Md [18, 19, 20] I22741 I22806 from (Md.tr Md.rf hI22806 rfl)) rfl) (show Md [17, 18, 19, 20, 21, 24] A A22806 from Md.tr hA22741 (show Md [17, 18, 19, 20, 21, 24] A22741 A22806 from (Md.tr (Md.up3 Md.rf rfl) hA22806 rfl)) rfl) hV22806 (by omega) (by omega) (by omega) (by omega) (by omega) (by omega))
          · skip
            refine g_iload hk dX12_needs_56 rfl ?_
            refine g_istore (lv' := [(4, .int x22735), (5, .int x22735), (3, .int (A 17 161)), (0, .ref (r 0)), (1, .int z1), (2, .int z2)]) hk dX12_needs_58 (by decide) rfl ?_
            obtain ⟨y22813, ey22813⟩ : ∃ y : Int32, y = x22735 + Int32.ofInt (-1) := ⟨_, rfl⟩
            have hy22813 : y22813.toInt = x22735.toInt + (-1) := i32_add ey22813 rfl (by decide) (by omega) (by omega)
            refine g_iinc (v := y22813) (lv' := [(5, .int y22813), (4, .int x22735), (3, .int (A 17 161)), (0, .ref (r 0)), (1, .int z1), (2, .int z2)]) hk 1 dX12_needs_60 rfl ey22813.symm (by decide) rfl ?_
            refine g_goto (tgt := 28) hk dX12_needs_63 (by decide) ?_
            exact g_lv (List.forall_mem_cons.mpr ⟨List.mem_of_getElem? (i := 0) rfl, (List.forall_mem_cons.mpr ⟨List.mem_of_getElem? (i := 1) rfl, (List.forall_mem_cons.mpr ⟨List.mem_of_getElem? (i := 2) rfl, (List.forall_mem_cons.mpr ⟨List.mem_of_getElem? (i := 3) rfl, (List.forall_mem_cons.mpr ⟨List.mem_of_getElem? (i := 4) rfl, (List.forall_mem_cons.mpr ⟨List.mem_of_getElem? (i := 5) rfl, (fun _ h => absurd h List.not_mem_nil)⟩)⟩)⟩)⟩)⟩)⟩) (ih22799 y22813 x22735 I22806 A22806 L22806 (show Md [18, 19, 20] I I22806 from Md.tr hI22741 (show Md [18, 19, 20] I22741 I22806 from (Md.tr Md.rf hI22806 rfl)) rfl) (show Md [17, 18, 19, 20, 21, 24] A A22806 from Md.tr hA22741 (show Md [17, 18, 19, 20, 21, 24] A22741 A22806 from (Md.tr (Md.up3 Md.rf rfl) hA22806 rfl)) rfl) hV22806 (by omega) (by omega) (by omega) (by omega) (by omega) (by omega))
    have k22814 : (15 : Int32).toInt = 15 := rfl
    have k22815 : ((-2) : Int32).toInt = (-2) := rfl
    obtain ⟨n22816, n22816a, n22816b⟩ : ∃ n : Nat, (15 : Int32).toInt + 1 - 0 < (n : Int) ∧ 0 < n := ⟨(((15 : Int32).toInt + 1 - 0 : Int)).toNat + 1, by omega, by omega⟩
    exact lp22796 n22816 15 (-2) I A L Md.rf Md.rf hIv (by omega) (by omega) (by omega) (by omega) n22816a n22816b
def wo_j197_X12_alike : List Cond := [Cond.methodLink RX12 251 yX12_isQuery, Cond.instanceMethod yX12_isQuery, Cond.selects RX12 yX12_isQuery yX12_isQuery, Cond.initialized RX12, Cond.methodLink RX12 254 yX12_wideOf, Cond.instanceMethod yX12_wideOf, Cond.selects RX12 yX12_wideOf yX12_wideOf, Cond.methodLink RX12 323 yX12_copies, Cond.instanceMethod yX12_copies, Cond.selects RX12 yX12_copies yX12_copies, Cond.fieldLink RX12 267 "WarpDeskModel" "wide" "I", Cond.methodLink RX12 276 yX12_laysQuery, Cond.instanceMethod yX12_laysQuery, Cond.selects RX12 yX12_laysQuery yX12_laysQuery, Cond.methodLink RX12 273 yX12_changesBoth, Cond.instanceMethod yX12_changesBoth, Cond.selects RX12 yX12_changesBoth yX12_changesBoth, Cond.constant RX12 282 (2000000000), Cond.methodLink RX12 304 yX12_laysTable, Cond.instanceMethod yX12_laysTable, Cond.selects RX12 yX12_laysTable yX12_laysTable]
def wz_j197_X12_alike : List Cond := .code yX12_alike cX12_alike 3 (some .int) :: (wo_j197_X12_alike ++ (wsX120 ++ (wz_j147_X12_isQuery ++ (wz_j148_X12_wideOf ++ (wz_j151_X12_copies ++ (wz_j172_X12_laysQuery ++ (wz_j171_X12_changesBoth ++ (wz_j173_X12_laysTable ++ ([] : List Cond)))))))))
theorem zg_j197_X12_alike : ∀ w ∈ wz_j197_X12_alike, goodWord w = true := zg_cons rfl (zg_app (by decide +kernel) (zg_app zgU_wsX120 (zg_app zg_j147_X12_isQuery (zg_app zg_j148_X12_wideOf (zg_app zg_j151_X12_copies (zg_app zg_j172_X12_laysQuery (zg_app zg_j171_X12_changesBoth (zg_app zg_j173_X12_laysTable zg_nil))))))))
theorem zi_j197_X12_alike : ∀ w ∈ wz_j197_X12_alike, w ∈ lw_tbl := zi_cons zw_1827 (zi_app (zi_cons zw_1663 (zi_cons zw_1665 (zi_cons zw_67 (zi_cons zw_115 (zi_cons zw_1667 (zi_cons zw_1669 (zi_cons zw_68 (zi_cons zw_1679 (zi_cons zw_1681 (zi_cons zw_70 (zi_cons zw_1415 (zi_cons zw_1771 (zi_cons zw_1773 (zi_cons zw_82 (zi_cons zw_1767 (zi_cons zw_1769 (zi_cons zw_81 (zi_cons zw_1775 (zi_cons zw_1776 (zi_cons zw_1778 (zi_cons zw_83 zi_nil))))))))))))))))))))) (zi_app inX12 (zi_app zi_j147_X12_isQuery (zi_app zi_j148_X12_wideOf (zi_app zi_j151_X12_copies (zi_app zi_j172_X12_laysQuery (zi_app zi_j171_X12_changesBoth (zi_app zi_j173_X12_laysTable zi_nil))))))))
set_option maxHeartbeats 4000000 in
set_option maxRecDepth 100000 in
theorem j197_X12_alike (l : Launch) (D : va_G) (zt : Nat × Nat × Nat × (Nat → Nat) × (Nat → Nat)) (r : Nat → Nat) (g : Nat → ClassId) (I : Nat → Int32) (A : Nat → Nat → Int32) (L : Nat → Nat → Int64) (z1 : Int32) (z2 : Int32) (hIv : IvM I A) : GM l D zt (tyM g) yX12_alike wz_j197_X12_alike ({ frames := 5, cells := 0, slots := 0, locals := 112 } : Room) [.ref (r 0), .int z1, .int z2] (wM r g I A L) (fun v _ w' => ∃ (I' : Nat → Int32) (A' : Nat → Nat → Int32) (L' : Nat → Nat → Int64), Md [18, 19, 20] I I' ∧ Md [18, 19, 20, 21] A A' ∧ IvM I' A' ∧ ∃ y0 : Int32, v = some (.int y0) ∧ w' = wM r g I' A' L') 0 0 := by
  refine GM.of (cc := cX12_alike) (maxL := 3) (ret := (some .int)) (own := RX12) (lv := [(0, .ref (r 0)), (1, .int z1), (2, .int z2)]) (by decide) rfl rfl (Nat.le_of_ble_eq_true rfl) rfl (fun κ sz hk hR hN => ?_)
  have hin12 : ∀ w ∈ u_ws RX12 TX12 55, w ∈ wz_j197_X12_alike := fun w h => (List.mem_cons_of_mem _ (List.mem_append_right _ (List.mem_append_left _ h)))
  refine g_aload_n hk dX12_alike_0 rfl ?_
  refine g_iload_n hk dX12_alike_1 rfl ?_
  refine g_callV (n := 1) hk (j147_X12_isQuery l D zt r g I A L z1 hIv) (SP.same _) (fun _ h => h) (gi_V (List.mem_cons_of_mem _ (List.mem_append_left _ (List.mem_of_getElem? (i := 0) rfl))) (List.mem_cons_of_mem _ (List.mem_append_left _ (List.mem_of_getElem? (i := 1) rfl))) (List.mem_cons_of_mem _ (List.mem_append_left _ (List.mem_of_getElem? (i := 2) rfl))) (List.mem_cons_of_mem _ (List.mem_append_left _ (List.mem_of_getElem? (i := 3) rfl))) (gi_sub (fun w h => (List.mem_cons_of_mem _ (List.mem_append_right _ (List.mem_append_right _ (List.mem_append_left _ h))))) zg_j147_X12_isQuery)) rfl rfl rfl (by decide +kernel) ⟨Nat.le_of_ble_eq_true rfl, Nat.le_of_ble_eq_true rfl⟩ 0 rfl rfl rfl rfl (Nat.le_of_ble_eq_true rfl) ⟨Nat.le_of_ble_eq_true rfl, Nat.le_of_ble_eq_true rfl⟩ dX12_alike_2 (fun v ty' w' hp hk' => ?_)
  rcases hp with ⟨rfl, rfl⟩ | ⟨c22818, c22819, c22820, c22821, rfl, rfl⟩
  · skip
    show GW κ 3 0 0 (wM r g I A L) 5 [(0, .ref (r 0)), (1, .int z1), (2, .int z2)] [.int 0]
    refine g_if_eq (tgt := 16) (a := 0) hk dX12_alike_5 (by decide) rfl (fun _ => ?_) (fun z9 => absurd (show (0 : Int) = (0 : Int) from by decide) z9)
    refine g_iconst (v := (-1)) hk dX12_alike_16 (by decide) ?_
    exact g_iret hk hR rfl ⟨I, A, L, (show Md [18, 19, 20] I I from Md.rf), (show Md [18, 19, 20, 21] A A from Md.rf), hIv, (-1), rfl, rfl⟩ dX12_alike_17
  · skip
    have f22823 : 0 ≤ (A 11 (5 * (I 15) + z1).toNatClampNeg).toInt ∧ (A 11 (5 * (I 15) + z1).toNatClampNeg).toInt ≤ 16 := IvM_a11 hIv _
    show GW κ 3 0 0 (wM r g I A L) 5 [(0, .ref (r 0)), (1, .int z1), (2, .int z2)] [.int 1]
    refine g_if_eq (tgt := 16) (a := 1) hk dX12_alike_5 (by decide) rfl (fun z9 => absurd z9 (show ¬ ((1 : Int) = (0 : Int)) from by decide)) (fun _ => ?_)
    refine g_aload_n hk dX12_alike_8 rfl ?_
    refine g_iload_n hk dX12_alike_9 rfl ?_
    refine g_callV (n := 1) hk (j147_X12_isQuery l D zt r g I A L z2 hIv) (SP.same _) (fun _ h => h) (gi_V (List.mem_cons_of_mem _ (List.mem_append_left _ (List.mem_of_getElem? (i := 0) rfl))) (List.mem_cons_of_mem _ (List.mem_append_left _ (List.mem_of_getElem? (i := 1) rfl))) (List.mem_cons_of_mem _ (List.mem_append_left _ (List.mem_of_getElem? (i := 2) rfl))) (List.mem_cons_of_mem _ (List.mem_append_left _ (List.mem_of_getElem? (i := 3) rfl))) (gi_sub (fun w h => (List.mem_cons_of_mem _ (List.mem_append_right _ (List.mem_append_right _ (List.mem_append_left _ h))))) zg_j147_X12_isQuery)) rfl rfl rfl (by decide +kernel) ⟨Nat.le_of_ble_eq_true rfl, Nat.le_of_ble_eq_true rfl⟩ 0 rfl rfl rfl rfl (Nat.le_of_ble_eq_true rfl) ⟨Nat.le_of_ble_eq_true rfl, Nat.le_of_ble_eq_true rfl⟩ dX12_alike_10 (fun v ty' w' hp hk' => ?_)
    rcases hp with ⟨rfl, rfl⟩ | ⟨c22825, c22826, c22827, c22828, rfl, rfl⟩
    · skip
      show GW κ 3 0 0 (wM r g I A L) 13 [(0, .ref (r 0)), (1, .int z1), (2, .int z2)] [.int 0]
      refine g_if_ne (tgt := 18) (a := 0) hk dX12_alike_13 (by decide) rfl (fun z9 => absurd z9 (show ¬ ((0 : Int) ≠ (0 : Int)) from by decide)) (fun _ => ?_)
      refine g_iconst (v := (-1)) hk dX12_alike_16 (by decide) ?_
      exact g_iret hk hR rfl ⟨I, A, L, (show Md [18, 19, 20] I I from Md.rf), (show Md [18, 19, 20, 21] A A from Md.rf), hIv, (-1), rfl, rfl⟩ dX12_alike_17
    · skip
      have f22830 : 0 ≤ (A 11 (5 * (I 15) + z2).toNatClampNeg).toInt ∧ (A 11 (5 * (I 15) + z2).toNatClampNeg).toInt ≤ 16 := IvM_a11 hIv _
      show GW κ 3 0 0 (wM r g I A L) 13 [(0, .ref (r 0)), (1, .int z1), (2, .int z2)] [.int 1]
      refine g_if_ne (tgt := 18) (a := 1) hk dX12_alike_13 (by decide) rfl (fun _ => ?_) (fun z9 => absurd (show (1 : Int) ≠ (0 : Int) from by decide) z9)
      refine g_aload_n hk dX12_alike_18 rfl ?_
      refine g_iload_n hk dX12_alike_19 rfl ?_
      refine g_callV (n := 1) hk (j148_X12_wideOf l D zt r g I A L z1 hIv (by omega) (by omega)) (SP.same _) (fun _ h => h) (gi_V (List.mem_cons_of_mem _ (List.mem_append_left _ (List.mem_of_getElem? (i := 4) rfl))) (List.mem_cons_of_mem _ (List.mem_append_left _ (List.mem_of_getElem? (i := 5) rfl))) (List.mem_cons_of_mem _ (List.mem_append_left _ (List.mem_of_getElem? (i := 6) rfl))) (List.mem_cons_of_mem _ (List.mem_append_left _ (List.mem_of_getElem? (i := 3) rfl))) (gi_sub (fun w h => (List.mem_cons_of_mem _ (List.mem_append_right _ (List.mem_append_right _ (List.mem_append_right _ (List.mem_append_left _ h)))))) zg_j148_X12_wideOf)) rfl rfl rfl (by decide +kernel) ⟨Nat.le_of_ble_eq_true rfl, Nat.le_of_ble_eq_true rfl⟩ 0 rfl rfl rfl rfl (Nat.le_of_ble_eq_true rfl) ⟨Nat.le_of_ble_eq_true rfl, Nat.le_of_ble_eq_true rfl⟩ dX12_alike_20 (fun v ty' w' hp hk' => ?_)
      obtain ⟨rfl, rfl⟩ := hp
      show GW κ 3 0 0 (wM r g I A L) 23 [(0, .ref (r 0)), (1, .int z1), (2, .int z2)] [.int (A 11 (5 * (I 15) + z1).toNatClampNeg)]
      refine g_aload_n hk dX12_alike_23 rfl ?_
      refine g_iload_n hk dX12_alike_24 rfl ?_
      refine g_callV (n := 1) hk (j148_X12_wideOf l D zt r g I A L z2 hIv (by omega) (by omega)) (SP.same _) (fun _ h => h) (gi_V (List.mem_cons_of_mem _ (List.mem_append_left _ (List.mem_of_getElem? (i := 4) rfl))) (List.mem_cons_of_mem _ (List.mem_append_left _ (List.mem_of_getElem? (i := 5) rfl))) (List.mem_cons_of_mem _ (List.mem_append_left _ (List.mem_of_getElem? (i := 6) rfl))) (List.mem_cons_of_mem _ (List.mem_append_left _ (List.mem_of_getElem? (i := 3) rfl))) (gi_sub (fun w h => (List.mem_cons_of_mem _ (List.mem_append_right _ (List.mem_append_right _ (List.mem_append_right _ (List.mem_append_left _ h)))))) zg_j148_X12_wideOf)) rfl rfl rfl (by decide +kernel) ⟨Nat.le_of_ble_eq_true rfl, Nat.le_of_ble_eq_true rfl⟩ 0 rfl rfl rfl rfl (Nat.le_of_ble_eq_true rfl) ⟨Nat.le_of_ble_eq_true rfl, Nat.le_of_ble_eq_true rfl⟩ dX12_alike_25 (fun v ty' w' hp hk' => ?_)
      obtain ⟨rfl, rfl⟩ := hp
      show GW κ 3 0 0 (wM r g I A L) 28 [(0, .ref (r 0)), (1, .int z1), (2, .int z2)] [.int (A 11 (5 * (I 15) + z2).toNatClampNeg), .int (A 11 (5 * (I 15) + z1).toNatClampNeg)]
      refine g_icmp_eq (tgt := 34) (a := (A 11 (5 * (I 15) + z1).toNatClampNeg).toInt) (b := (A 11 (5 * (I 15) + z2).toNatClampNeg).toInt) hk dX12_alike_28 (by decide) rfl rfl (fun c22831 => ?_) (fun c22831 => ?_)
      · skip
        refine g_aload_n hk dX12_alike_34 rfl ?_
        refine g_callV (n := 0) hk (j151_X12_copies l D zt r g I A L  hIv) (SP.same _) (fun _ h => h) (gi_V (List.mem_cons_of_mem _ (List.mem_append_left _ (List.mem_of_getElem? (i := 7) rfl))) (List.mem_cons_of_mem _ (List.mem_append_left _ (List.mem_of_getElem? (i := 8) rfl))) (List.mem_cons_of_mem _ (List.mem_append_left _ (List.mem_of_getElem? (i := 9) rfl))) (List.mem_cons_of_mem _ (List.mem_append_left _ (List.mem_of_getElem? (i := 3) rfl))) (gi_sub (fun w h => (List.mem_cons_of_mem _ (List.mem_append_right _ (List.mem_append_right _ (List.mem_append_right _ (List.mem_append_right _ (List.mem_append_left _ h))))))) zg_j151_X12_copies)) rfl rfl rfl (by decide +kernel) ⟨Nat.le_of_ble_eq_true rfl, Nat.le_of_ble_eq_true rfl⟩ 0 rfl rfl rfl rfl (Nat.le_of_ble_eq_true rfl) ⟨Nat.le_of_ble_eq_true rfl, Nat.le_of_ble_eq_true rfl⟩ dX12_alike_35 (fun v ty' w' hp hk' => ?_)
        obtain ⟨I22833, A22833, L22833, hI22833, hA22833, hV22833, r22834, r22835, rfl, rfl⟩ := hp
        have f22836 := IvM_s17_0 hIv
        have f22837 := IvM_s17_164 hIv
        show GW κ 3 0 0 (wM r g I22833 A22833 L22833) 38 [(0, .ref (r 0)), (1, .int z1), (2, .int z2)] []
        refine g_aload_n hk dX12_alike_38 rfl ?_
        refine g_aload_n hk dX12_alike_39 rfl ?_
        refine g_iload_n hk dX12_alike_40 rfl ?_
        refine g_callV (n := 1) hk (j148_X12_wideOf l D zt r g I22833 A22833 L22833 z1 hV22833 (by omega) (by omega)) (SP.same _) (fun _ h => h) (gi_V (List.mem_cons_of_mem _ (List.mem_append_left _ (List.mem_of_getElem? (i := 4) rfl))) (List.mem_cons_of_mem _ (List.mem_append_left _ (List.mem_of_getElem? (i := 5) rfl))) (List.mem_cons_of_mem _ (List.mem_append_left _ (List.mem_of_getElem? (i := 6) rfl))) (List.mem_cons_of_mem _ (List.mem_append_left _ (List.mem_of_getElem? (i := 3) rfl))) (gi_sub (fun w h => (List.mem_cons_of_mem _ (List.mem_append_right _ (List.mem_append_right _ (List.mem_append_right _ (List.mem_append_left _ h)))))) zg_j148_X12_wideOf)) rfl rfl rfl (by decide +kernel) ⟨Nat.le_of_ble_eq_true rfl, Nat.le_of_ble_eq_true rfl⟩ 0 rfl rfl rfl rfl (Nat.le_of_ble_eq_true rfl) ⟨Nat.le_of_ble_eq_true rfl, Nat.le_of_ble_eq_true rfl⟩ dX12_alike_41 (fun v ty' w' hp hk' => ?_)
        obtain ⟨rfl, rfl⟩ := hp
        show GW κ 3 0 0 (wM r g I22833 A22833 L22833) 44 [(0, .ref (r 0)), (1, .int z1), (2, .int z2)] [.int (A22833 11 (5 * (I22833 15) + z1).toNatClampNeg), .ref (r 0)]
        refine g_norm (v := (A 11 (5 * (I 15) + z1).toNatClampNeg)) (by rw [show I22833 15 = (I 15) from (hI22833 15 rfl)]; exact (congrFun (hA22833 11 rfl) _)) ?_
        refine pM_i18 hk hin12 (List.mem_cons_of_mem _ (List.mem_append_left _ (List.mem_of_getElem? (i := 10) rfl))) dX12_alike_44 ?_
        refine g_aload_n hk dX12_alike_47 rfl ?_
        refine g_iload_n hk dX12_alike_48 rfl ?_
        refine g_callV (n := 1) hk (j172_X12_laysQuery l D zt r g (upd I22833 18 (A 11 (5 * (I 15) + z1).toNatClampNeg)) A22833 L22833 z2 ⟨(IvM_f1 (I := I22833) (A := A22833) hV22833), (IvM_f2 (I := I22833) (A := A22833) hV22833), (IvM_f3 (I := I22833) (A := A22833) hV22833), (IvM_f4 (I := I22833) (A := A22833) hV22833), (IvM_f6 (I := I22833) (A := A22833) hV22833), (IvM_f8 (I := I22833) (A := A22833) hV22833), (IvM_f15 (I := I22833) (A := A22833) hV22833), (IvM_f16 (I := I22833) (A := A22833) hV22833), (IvM_f17 (I := I22833) (A := A22833) hV22833), (show 0 ≤ (A 11 (5 * (I 15) + z1).toNatClampNeg).toInt ∧ (A 11 (5 * (I 15) + z1).toNatClampNeg).toInt ≤ 16 from ⟨by omega, by omega⟩), (IvM_f22 (I := I22833) (A := A22833) hV22833), (IvM_f23 (I := I22833) (A := A22833) hV22833), (IvM_f24 (I := I22833) (A := A22833) hV22833), (IvM_a11 (I := I22833) (A := A22833) hV22833), (IvM_a26 (I := I22833) (A := A22833) hV22833), (IvM_s8_0 (I := I22833) (A := A22833) hV22833), (IvM_s8_1 (I := I22833) (A := A22833) hV22833), (IvM_s10_0 (I := I22833) (A := A22833) hV22833), (IvM_s10_1 (I := I22833) (A := A22833) hV22833), (IvM_s17_0 (I := I22833) (A := A22833) hV22833), (IvM_s17_164 (I := I22833) (A := A22833) hV22833), (IvM_lv (I := I22833) (A := A22833) hV22833), (IvM_sd (I := I22833) (A := A22833) hV22833), (IvM_nq (I := I22833) (A := A22833) hV22833), (IvM_hr (I := I22833) (A := A22833) hV22833), (IvM_hh (I := I22833) (A := A22833) hV22833), trivial⟩ (by omega) (by omega) (by first | (rw [show (A22833 11 (5 * ((upd I22833 18 (A 11 (5 * (I 15) + z1).toNatClampNeg)) 15) + z2).toNatClampNeg) = (A 11 (5 * (I 15) + z2).toNatClampNeg) from (by rw [show (upd I22833 18 (A 11 (5 * (I 15) + z1).toNatClampNeg)) 15 = (I 15) from (hI22833 15 rfl)]; exact (congrFun (hA22833 11 rfl) _))] <;> omega) | omega)) (SP.same _) (fun _ h => h) (gi_V (List.mem_cons_of_mem _ (List.mem_append_left _ (List.mem_of_getElem? (i := 11) rfl))) (List.mem_cons_of_mem _ (List.mem_append_left _ (List.mem_of_getElem? (i := 12) rfl))) (List.mem_cons_of_mem _ (List.mem_append_left _ (List.mem_of_getElem? (i := 13) rfl))) (List.mem_cons_of_mem _ (List.mem_append_left _ (List.mem_of_getElem? (i := 3) rfl))) (gi_sub (fun w h => (List.mem_cons_of_mem _ (List.mem_append_right _ (List.mem_append_right _ (List.mem_append_right _ (List.mem_append_right _ (List.mem_append_right _ (List.mem_append_left _ h)))))))) zg_j172_X12_laysQuery)) rfl rfl rfl (by decide +kernel) ⟨Nat.le_of_ble_eq_true rfl, Nat.le_of_ble_eq_true rfl⟩ 0 rfl rfl rfl rfl (Nat.le_of_ble_eq_true rfl) ⟨Nat.le_of_ble_eq_true rfl, Nat.le_of_ble_eq_true rfl⟩ dX12_alike_49 (fun v ty' w' hp hk' => ?_)
        obtain ⟨I22839, A22839, L22839, hI22839, hA22839, hV22839, rfl, rfl⟩ := hp
        show GW κ 3 0 0 (wM r g I22839 A22839 L22839) 52 [(0, .ref (r 0)), (1, .int z1), (2, .int z2)] []
        refine g_aload_n hk dX12_alike_52 rfl ?_
        refine g_aload_n hk dX12_alike_53 rfl ?_
        refine gM_i18 (v := (A 11 (5 * (I 15) + z1).toNatClampNeg)) hk hin12 (List.mem_cons_of_mem _ (List.mem_append_left _ (List.mem_of_getElem? (i := 10) rfl))) dX12_alike_54 (hI22839 18 rfl) ?_
        refine g_callV (n := 1) hk (j171_X12_changesBoth l D zt r g I22839 A22839 L22839 (A 11 (5 * (I 15) + z1).toNatClampNeg) hV22839 (by omega) (by omega)) (SP.same _) (fun _ h => h) (gi_V (List.mem_cons_of_mem _ (List.mem_append_left _ (List.mem_of_getElem? (i := 14) rfl))) (List.mem_cons_of_mem _ (List.mem_append_left _ (List.mem_of_getElem? (i := 15) rfl))) (List.mem_cons_of_mem _ (List.mem_append_left _ (List.mem_of_getElem? (i := 16) rfl))) (List.mem_cons_of_mem _ (List.mem_append_left _ (List.mem_of_getElem? (i := 3) rfl))) (gi_sub (fun w h => (List.mem_cons_of_mem _ (List.mem_append_right _ (List.mem_append_right _ (List.mem_append_right _ (List.mem_append_right _ (List.mem_append_right _ (List.mem_append_right _ (List.mem_append_left _ h))))))))) zg_j171_X12_changesBoth)) rfl rfl rfl (by decide +kernel) ⟨Nat.le_of_ble_eq_true rfl, Nat.le_of_ble_eq_true rfl⟩ 0 rfl rfl rfl rfl (Nat.le_of_ble_eq_true rfl) ⟨Nat.le_of_ble_eq_true rfl, Nat.le_of_ble_eq_true rfl⟩ dX12_alike_57 (fun v ty' w' hp hk' => ?_)
        obtain ⟨I22841, A22841, L22841, hI22841, hA22841, hV22841, rfl, rfl⟩ := hp
        show GW κ 3 0 0 (wM r g I22841 A22841 L22841) 60 [(0, .ref (r 0)), (1, .int z1), (2, .int z2)] []
        refine g_aload_n hk dX12_alike_60 rfl ?_
        refine g_iload_n hk dX12_alike_61 rfl ?_
        refine g_callV (n := 1) hk (j172_X12_laysQuery l D zt r g I22841 A22841 L22841 z1 hV22841 (by omega) (by omega) (by first | (rw [show (A22841 11 (5 * (I22841 15) + z1).toNatClampNeg) = (A 11 (5 * (I 15) + z1).toNatClampNeg) from (by rw [show I22841 15 = (I 15) from ((hI22841 15 rfl).trans ((hI22839 15 rfl).trans (hI22833 15 rfl)))]; exact ((congrFun (hA22841 11 rfl) _).trans ((congrFun (hA22839 11 rfl) _).trans (congrFun (hA22833 11 rfl) _))))] <;> omega) | omega)) (SP.same _) (fun _ h => h) (gi_V (List.mem_cons_of_mem _ (List.mem_append_left _ (List.mem_of_getElem? (i := 11) rfl))) (List.mem_cons_of_mem _ (List.mem_append_left _ (List.mem_of_getElem? (i := 12) rfl))) (List.mem_cons_of_mem _ (List.mem_append_left _ (List.mem_of_getElem? (i := 13) rfl))) (List.mem_cons_of_mem _ (List.mem_append_left _ (List.mem_of_getElem? (i := 3) rfl))) (gi_sub (fun w h => (List.mem_cons_of_mem _ (List.mem_append_right _ (List.mem_append_right _ (List.mem_append_right _ (List.mem_append_right _ (List.mem_append_right _ (List.mem_append_left _ h)))))))) zg_j172_X12_laysQuery)) rfl rfl rfl (by decide +kernel) ⟨Nat.le_of_ble_eq_true rfl, Nat.le_of_ble_eq_true rfl⟩ 0 rfl rfl rfl rfl (Nat.le_of_ble_eq_true rfl) ⟨Nat.le_of_ble_eq_true rfl, Nat.le_of_ble_eq_true rfl⟩ dX12_alike_62 (fun v ty' w' hp hk' => ?_)
        obtain ⟨I22843, A22843, L22843, hI22843, hA22843, hV22843, rfl, rfl⟩ := hp
        show GW κ 3 0 0 (wM r g I22843 A22843 L22843) 65 [(0, .ref (r 0)), (1, .int z1), (2, .int z2)] []
        refine g_aload_n hk dX12_alike_65 rfl ?_
        refine g_ldcw (v := 2000000000) hk (List.mem_cons_of_mem _ (List.mem_append_left _ (List.mem_of_getElem? (i := 17) rfl))) dX12_alike_66 ?_
        have k22844 : (2000000000 : Int32).toInt = 2000000000 := rfl
        refine g_callV (n := 1) hk (j173_X12_laysTable l D zt r g I22843 A22843 L22843 2000000000 hV22843) (SP.same _) (fun _ h => h) (gi_V (List.mem_cons_of_mem _ (List.mem_append_left _ (List.mem_of_getElem? (i := 18) rfl))) (List.mem_cons_of_mem _ (List.mem_append_left _ (List.mem_of_getElem? (i := 19) rfl))) (List.mem_cons_of_mem _ (List.mem_append_left _ (List.mem_of_getElem? (i := 20) rfl))) (List.mem_cons_of_mem _ (List.mem_append_left _ (List.mem_of_getElem? (i := 3) rfl))) (gi_sub (fun w h => (List.mem_cons_of_mem _ (List.mem_append_right _ (List.mem_append_right _ (List.mem_append_right _ (List.mem_append_right _ (List.mem_append_right _ (List.mem_append_right _ (List.mem_append_right _ (List.mem_append_left _ h)))))))))) zg_j173_X12_laysTable)) rfl rfl rfl (by decide +kernel) ⟨Nat.le_of_ble_eq_true rfl, Nat.le_of_ble_eq_true rfl⟩ 0 rfl rfl rfl rfl (Nat.le_of_ble_eq_true rfl) ⟨Nat.le_of_ble_eq_true rfl, Nat.le_of_ble_eq_true rfl⟩ dX12_alike_69 (fun v ty' w' hp hk' => ?_)
        obtain ⟨I22846, A22846, L22846, hI22846, hA22846, hV22846, y22845, rfl, rfl⟩ := hp
        show GW κ 3 0 0 (wM r g I22846 A22846 L22846) 72 [(0, .ref (r 0)), (1, .int z1), (2, .int z2)] [.int y22845]
        have b22847l := Int32.le_toInt y22845
        have b22847h := Int32.toInt_lt y22845
        exact g_iret hk hR rfl ⟨I22846, A22846, L22846, (show Md [18, 19, 20] I I22846 from (Md.tr (Md.tr (Md.tr (Md.tr (Md.up (Md.tr Md.rf hI22833 rfl) rfl) hI22839 rfl) hI22841 rfl) hI22843 rfl) hI22846 rfl)), (show Md [18, 19, 20, 21] A A22846 from (Md.tr (Md.tr (Md.tr (Md.tr (Md.tr Md.rf hA22833 rfl) hA22839 rfl) hA22841 rfl) hA22843 rfl) hA22846 rfl)), hV22846, y22845, rfl, rfl⟩ dX12_alike_72
      · skip
        refine g_bipush (v := (-2)) hk dX12_alike_31 (by decide) ?_
        exact g_iret hk hR rfl ⟨I, A, L, (show Md [18, 19, 20] I I from Md.rf), (show Md [18, 19, 20, 21] A A from Md.rf), hIv, (-2), rfl, rfl⟩ dX12_alike_33
def wo_j200_X12_laysWindows : List Cond := [Cond.fieldLink RX12 267 "WarpDeskModel" "wide" "I", Cond.methodLink RX12 270 yX12_laysWindow, Cond.instanceMethod yX12_laysWindow, Cond.selects RX12 yX12_laysWindow yX12_laysWindow, Cond.initialized RX12, Cond.methodLink RX12 273 yX12_changesBoth, Cond.instanceMethod yX12_changesBoth, Cond.selects RX12 yX12_changesBoth yX12_changesBoth]
def wz_j200_X12_laysWindows : List Cond := .code yX12_laysWindows cX12_laysWindows 4 none :: (wo_j200_X12_laysWindows ++ (wsX120 ++ (wz_j165_X12_laysWindow ++ (wz_j171_X12_changesBoth ++ ([] : List Cond)))))
theorem zg_j200_X12_laysWindows : ∀ w ∈ wz_j200_X12_laysWindows, goodWord w = true := zg_cons rfl (zg_app (by decide +kernel) (zg_app zgU_wsX120 (zg_app zg_j165_X12_laysWindow (zg_app zg_j171_X12_changesBoth zg_nil))))
theorem zi_j200_X12_laysWindows : ∀ w ∈ wz_j200_X12_laysWindows, w ∈ lw_tbl := zi_cons zw_1926 (zi_app (zi_cons zw_1415 (zi_cons zw_1735 (zi_cons zw_1737 (zi_cons zw_76 (zi_cons zw_115 (zi_cons zw_1767 (zi_cons zw_1769 (zi_cons zw_81 zi_nil)))))))) (zi_app inX12 (zi_app zi_j165_X12_laysWindow (zi_app zi_j171_X12_changesBoth zi_nil))))
set_option maxHeartbeats 4000000 in
set_option maxRecDepth 100000 in
theorem j200_X12_laysWindows (l : Launch) (D : va_G) (zt : Nat × Nat × Nat × (Nat → Nat) × (Nat → Nat)) (r : Nat → Nat) (g : Nat → ClassId) (I : Nat → Int32) (A : Nat → Nat → Int32) (L : Nat → Nat → Int64) (z1 : Int32) (z2 : Int32) (z3 : Int32) (hIv : IvM I A) (hp0 : 0 ≤ z1.toInt) (hp1 : z1.toInt ≤ 159) (hp2 : 0 ≤ z2.toInt) (hp3 : z2.toInt ≤ 159) (hp4 : 1 ≤ z3.toInt) (hp5 : z3.toInt ≤ 16) (hp6 : z1.toInt + z3.toInt ≤ 160) (hp7 : z2.toInt + z3.toInt ≤ 160) : GM l D zt (tyM g) yX12_laysWindows wz_j200_X12_laysWindows ({ frames := 3, cells := 0, slots := 0, locals := 72 } : Room) [.ref (r 0), .int z1, .int z2, .int z3] (wM r g I A L) (fun v _ w' => ∃ (I' : Nat → Int32) (A' : Nat → Nat → Int32) (L' : Nat → Nat → Int64), Md [18] I I' ∧ Md [19, 20] A A' ∧ IvM I' A' ∧ (1 ≤ (I' 18).toInt) ∧ v = none ∧ w' = wM r g I' A' L') 0 0 := by
  refine GM.of (cc := cX12_laysWindows) (maxL := 4) (ret := none) (own := RX12) (lv := [(0, .ref (r 0)), (1, .int z1), (2, .int z2), (3, .int z3)]) (by decide) rfl rfl (Nat.le_of_ble_eq_true rfl) rfl (fun κ sz hk hR hN => ?_)
  have hin12 : ∀ w ∈ u_ws RX12 TX12 55, w ∈ wz_j200_X12_laysWindows := fun w h => (List.mem_cons_of_mem _ (List.mem_append_right _ (List.mem_append_left _ h)))
  refine g_aload_n hk dX12_laysWindows_0 rfl ?_
  refine g_iload_n hk dX12_laysWindows_1 rfl ?_
  refine pM_i18 hk hin12 (List.mem_cons_of_mem _ (List.mem_append_left _ (List.mem_of_getElem? (i := 0) rfl))) dX12_laysWindows_2 ?_
  refine g_aload_n hk dX12_laysWindows_5 rfl ?_
  refine g_iload_n hk dX12_laysWindows_6 rfl ?_
  refine g_iload_n hk dX12_laysWindows_7 rfl ?_
  refine g_callV (n := 2) hk (j165_X12_laysWindow l D zt r g (upd I 18 z3) A L z2 z3 ⟨(IvM_f1 (I := I) (A := A) hIv), (IvM_f2 (I := I) (A := A) hIv), (IvM_f3 (I := I) (A := A) hIv), (IvM_f4 (I := I) (A := A) hIv), (IvM_f6 (I := I) (A := A) hIv), (IvM_f8 (I := I) (A := A) hIv), (IvM_f15 (I := I) (A := A) hIv), (IvM_f16 (I := I) (A := A) hIv), (IvM_f17 (I := I) (A := A) hIv), (show 0 ≤ z3.toInt ∧ z3.toInt ≤ 16 from ⟨by omega, by omega⟩), (IvM_f22 (I := I) (A := A) hIv), (IvM_f23 (I := I) (A := A) hIv), (IvM_f24 (I := I) (A := A) hIv), (IvM_a11 (I := I) (A := A) hIv), (IvM_a26 (I := I) (A := A) hIv), (IvM_s8_0 (I := I) (A := A) hIv), (IvM_s8_1 (I := I) (A := A) hIv), (IvM_s10_0 (I := I) (A := A) hIv), (IvM_s10_1 (I := I) (A := A) hIv), (IvM_s17_0 (I := I) (A := A) hIv), (IvM_s17_164 (I := I) (A := A) hIv), (IvM_lv (I := I) (A := A) hIv), (IvM_sd (I := I) (A := A) hIv), (IvM_nq (I := I) (A := A) hIv), (IvM_hr (I := I) (A := A) hIv), (IvM_hh (I := I) (A := A) hIv), trivial⟩ (by omega) (by omega) (by omega) (by omega) (by omega)) (SP.same _) (fun _ h => h) (gi_V (List.mem_cons_of_mem _ (List.mem_append_left _ (List.mem_of_getElem? (i := 1) rfl))) (List.mem_cons_of_mem _ (List.mem_append_left _ (List.mem_of_getElem? (i := 2) rfl))) (List.mem_cons_of_mem _ (List.mem_append_left _ (List.mem_of_getElem? (i := 3) rfl))) (List.mem_cons_of_mem _ (List.mem_append_left _ (List.mem_of_getElem? (i := 4) rfl))) (gi_sub (fun w h => (List.mem_cons_of_mem _ (List.mem_append_right _ (List.mem_append_right _ (List.mem_append_left _ h))))) zg_j165_X12_laysWindow)) rfl rfl rfl (by decide +kernel) ⟨Nat.le_of_ble_eq_true rfl, Nat.le_of_ble_eq_true rfl⟩ 0 rfl rfl rfl rfl (Nat.le_of_ble_eq_true rfl) ⟨Nat.le_of_ble_eq_true rfl, Nat.le_of_ble_eq_true rfl⟩ dX12_laysWindows_8 (fun v ty' w' hp hk' => ?_)
  obtain ⟨I22906, A22906, L22906, hI22906, hA22906, hV22906, rfl, rfl⟩ := hp
  show GW κ 4 0 0 (wM r g I22906 A22906 L22906) 11 [(0, .ref (r 0)), (1, .int z1), (2, .int z2), (3, .int z3)] []
  refine g_aload_n hk dX12_laysWindows_11 rfl ?_
  refine g_iload_n hk dX12_laysWindows_12 rfl ?_
  refine g_callV (n := 1) hk (j171_X12_changesBoth l D zt r g I22906 A22906 L22906 z3 hV22906 (by omega) (by omega)) (SP.same _) (fun _ h => h) (gi_V (List.mem_cons_of_mem _ (List.mem_append_left _ (List.mem_of_getElem? (i := 5) rfl))) (List.mem_cons_of_mem _ (List.mem_append_left _ (List.mem_of_getElem? (i := 6) rfl))) (List.mem_cons_of_mem _ (List.mem_append_left _ (List.mem_of_getElem? (i := 7) rfl))) (List.mem_cons_of_mem _ (List.mem_append_left _ (List.mem_of_getElem? (i := 4) rfl))) (gi_sub (fun w h => (List.mem_cons_of_mem _ (List.mem_append_right _ (List.mem_append_right _ (List.mem_append_right _ (List.mem_append_left _ h)))))) zg_j171_X12_changesBoth)) rfl rfl rfl (by decide +kernel) ⟨Nat.le_of_ble_eq_true rfl, Nat.le_of_ble_eq_true rfl⟩ 0 rfl rfl rfl rfl (Nat.le_of_ble_eq_true rfl) ⟨Nat.le_of_ble_eq_true rfl, Nat.le_of_ble_eq_true rfl⟩ dX12_laysWindows_13 (fun v ty' w' hp hk' => ?_)
  obtain ⟨I22908, A22908, L22908, hI22908, hA22908, hV22908, rfl, rfl⟩ := hp
  show GW κ 4 0 0 (wM r g I22908 A22908 L22908) 16 [(0, .ref (r 0)), (1, .int z1), (2, .int z2), (3, .int z3)] []
  refine g_aload_n hk dX12_laysWindows_16 rfl ?_
  refine g_iload_n hk dX12_laysWindows_17 rfl ?_
  refine g_iload_n hk dX12_laysWindows_18 rfl ?_
  refine g_callV (n := 2) hk (j165_X12_laysWindow l D zt r g I22908 A22908 L22908 z1 z3 hV22908 (by omega) (by omega) (by omega) (by omega) (by omega)) (SP.same _) (fun _ h => h) (gi_V (List.mem_cons_of_mem _ (List.mem_append_left _ (List.mem_of_getElem? (i := 1) rfl))) (List.mem_cons_of_mem _ (List.mem_append_left _ (List.mem_of_getElem? (i := 2) rfl))) (List.mem_cons_of_mem _ (List.mem_append_left _ (List.mem_of_getElem? (i := 3) rfl))) (List.mem_cons_of_mem _ (List.mem_append_left _ (List.mem_of_getElem? (i := 4) rfl))) (gi_sub (fun w h => (List.mem_cons_of_mem _ (List.mem_append_right _ (List.mem_append_right _ (List.mem_append_left _ h))))) zg_j165_X12_laysWindow)) rfl rfl rfl (by decide +kernel) ⟨Nat.le_of_ble_eq_true rfl, Nat.le_of_ble_eq_true rfl⟩ 0 rfl rfl rfl rfl (Nat.le_of_ble_eq_true rfl) ⟨Nat.le_of_ble_eq_true rfl, Nat.le_of_ble_eq_true rfl⟩ dX12_laysWindows_19 (fun v ty' w' hp hk' => ?_)
  obtain ⟨I22910, A22910, L22910, hI22910, hA22910, hV22910, rfl, rfl⟩ := hp
  show GW κ 4 0 0 (wM r g I22910 A22910 L22910) 22 [(0, .ref (r 0)), (1, .int z1), (2, .int z2), (3, .int z3)] []
  exact g_vret hk hR ⟨I22910, A22910, L22910, (show Md [18] I I22910 from (Md.tr (Md.tr (Md.tr (Md.up Md.rf rfl) hI22906 rfl) hI22908 rfl) hI22910 rfl)), (show Md [19, 20] A A22910 from (Md.tr (Md.tr (Md.tr Md.rf hA22906 rfl) hA22908 rfl) hA22910 rfl)), hV22910, (by rw [show (I22910 18) = z3 from ((hI22910 18 rfl).trans ((hI22908 18 rfl).trans (hI22906 18 rfl)))] <;> omega), rfl, rfl⟩ dX12_laysWindows_22
def wo_j199_X12_nearOf : List Cond := [Cond.fieldLink RX12 381 "WarpDeskModel" "nearFar" "I", Cond.fieldLink RX12 70 "WarpDeskModel" "now" "[I", Cond.methodLink RX12 244 yX12_in, Cond.static yX12_in, Cond.initialized RX12, Cond.methodLink RX12 257 yX12_isWindow, Cond.instanceMethod yX12_isWindow, Cond.selects RX12 yX12_isWindow yX12_isWindow, Cond.methodLink RX12 384 yX12_laysWindows, Cond.instanceMethod yX12_laysWindows, Cond.selects RX12 yX12_laysWindows yX12_laysWindows, Cond.constant RX12 282 (2000000000), Cond.methodLink RX12 304 yX12_laysTable, Cond.instanceMethod yX12_laysTable, Cond.selects RX12 yX12_laysTable yX12_laysTable]
def wz_j199_X12_nearOf : List Cond := .code yX12_nearOf cX12_nearOf 6 (some .int) :: (wo_j199_X12_nearOf ++ (wsX120 ++ (wz_j145_X12_in ++ (wz_j160_X12_isWindow ++ (wz_j200_X12_laysWindows ++ (wz_j173_X12_laysTable ++ ([] : List Cond)))))))
theorem zg_j199_X12_nearOf : ∀ w ∈ wz_j199_X12_nearOf, goodWord w = true := zg_cons rfl (zg_app (by decide +kernel) (zg_app zgU_wsX120 (zg_app zg_j145_X12_in (zg_app zg_j160_X12_isWindow (zg_app zg_j200_X12_laysWindows (zg_app zg_j173_X12_laysTable zg_nil))))))
theorem zi_j199_X12_nearOf : ∀ w ∈ wz_j199_X12_nearOf, w ∈ lw_tbl := zi_cons zw_1922 (zi_app (zi_cons zw_1430 (zi_cons zw_1413 (zi_cons zw_1656 (zi_cons zw_1657 (zi_cons zw_115 (zi_cons zw_1714 (zi_cons zw_1716 (zi_cons zw_72 (zi_cons zw_1923 (zi_cons zw_1925 (zi_cons zw_100 (zi_cons zw_1775 (zi_cons zw_1776 (zi_cons zw_1778 (zi_cons zw_83 zi_nil))))))))))))))) (zi_app inX12 (zi_app zi_j145_X12_in (zi_app zi_j160_X12_isWindow (zi_app zi_j200_X12_laysWindows (zi_app zi_j173_X12_laysTable zi_nil))))))
set_option maxHeartbeats 4000000 in
set_option maxRecDepth 100000 in
theorem j199_X12_nearOf (l : Launch) (D : va_G) (zt : Nat × Nat × Nat × (Nat → Nat) × (Nat → Nat)) (r : Nat → Nat) (g : Nat → ClassId) (I : Nat → Int32) (A : Nat → Nat → Int32) (L : Nat → Nat → Int64) (z1 : Int32) (z2 : Int32) (hIv : IvM I A) (hp0 : 0 ≤ z1.toInt) (hp1 : z1.toInt ≤ 159) (hp2 : 2 ≤ z2.toInt) (hp3 : z2.toInt ≤ 16) (hp4 : z1.toInt + z2.toInt ≤ 160) : GM l D zt (tyM g) yX12_nearOf wz_j199_X12_nearOf ({ frames := 5, cells := 0, slots := 0, locals := 112 } : Room) [.ref (r 0), .int z1, .int z2] (wM r g I A L) (fun v _ w' => ∃ (I' : Nat → Int32) (A' : Nat → Nat → Int32) (L' : Nat → Nat → Int64), Md [18, 19, 20, 25] I I' ∧ Md [19, 20, 21] A A' ∧ IvM I' A' ∧ ∃ y0 : Int32, ((-2) ≤ y0.toInt) ∧ (y0.toInt ≤ 159) ∧ v = some (.int y0) ∧ w' = wM r g I' A' L') 0 0 := by
  refine GM.of (cc := cX12_nearOf) (maxL := 6) (ret := (some .int)) (own := RX12) (lv := [(0, .ref (r 0)), (1, .int z1), (2, .int z2)]) (by decide) rfl rfl (Nat.le_of_ble_eq_true rfl) rfl (fun κ sz hk hR hN => ?_)
  have hin12 : ∀ w ∈ u_ws RX12 TX12 55, w ∈ wz_j199_X12_nearOf := fun w h => (List.mem_cons_of_mem _ (List.mem_append_right _ (List.mem_append_left _ h)))
  refine g_bipush (v := (-2)) hk dX12_nearOf_0 (by decide) ?_
  refine g_istore_n (lv' := [(3, .int (-2)), (0, .ref (r 0)), (1, .int z1), (2, .int z2)]) hk dX12_nearOf_2 (by decide) rfl ?_
  refine g_aload_n hk dX12_nearOf_3 rfl ?_
  refine g_bipush (v := (-2)) hk dX12_nearOf_4 (by decide) ?_
  refine pM_i25 hk hin12 (List.mem_cons_of_mem _ (List.mem_append_left _ (List.mem_of_getElem? (i := 0) rfl))) dX12_nearOf_6 ?_
  refine g_iconst (v := 0) hk dX12_nearOf_9 (by decide) ?_
  refine g_istore (lv' := [(4, .int 0), (3, .int (-2)), (0, .ref (r 0)), (1, .int z1), (2, .int z2)]) hk dX12_nearOf_10 (by decide) rfl ?_
  have lp23064 : ∀ (n23065 : Nat) (x22879 : Int32) (x22880 : Int32) (I22884 : Nat → Int32) (A22884 : Nat → Nat → Int32) (L22884 : Nat → Nat → Int64), (Md [18, 19, 20, 25] (upd I 25 (-2)) I22884) → (Md [19, 20, 21] A A22884) → (IvM I22884 A22884) → (0 ≤ x22879.toInt) → (x22879.toInt ≤ 160) → ((-2) ≤ x22880.toInt) → (x22880.toInt ≤ 159) → (161 - x22879.toInt < (n23065 : Int)) → (0 < n23065) → GW κ 6 0 0 (wM r g I22884 A22884 L22884) 12 [(4, .int x22879), (3, .int x22880), (0, .ref (r 0)), (1, .int z1), (2, .int z2)] [] := by
    intro n23065
    induction n23065 with
    | zero =>
      intro x22879 x22880 I22884 A22884 L22884 hI22884 hA22884 hV22884 h23060 h23061 h23062 h23063 m23066 m23066z
      exact absurd m23066z (Nat.lt_irrefl 0)
    | succ n23065 ih23067 =>
      intro x22879 x22880 I22884 A22884 L22884 hI22884 hA22884 hV22884 h23060 h23061 h23062 h23063 m23066 m23066z
      refine g_iload hk dX12_nearOf_12 rfl ?_
      refine g_aload_n hk dX12_nearOf_14 rfl ?_
      refine gM_r0_35 hk hin12 (List.mem_cons_of_mem _ (List.mem_append_left _ (List.mem_of_getElem? (i := 1) rfl))) dX12_nearOf_15 ?_
      refine g_iconst (v := 0) hk dX12_nearOf_18 (by decide) ?_
      refine lM_17 (v := (A 17 0)) hk (vp_in_iff.mpr ⟨by decide, by decide⟩) (congrFun (hA22884 17 rfl) _) dX12_nearOf_19 ?_
      have f23068 := IvM_s17_0 hIv
      refine g_icmp_ge (tgt := 100) (a := x22879.toInt) (b := (A 17 0).toInt) hk dX12_nearOf_20 (by decide) rfl rfl (fun c23069 => ?_) (fun c23069 => ?_)
      · skip
        refine g_iload_n hk dX12_nearOf_100 rfl ?_
        exact g_iret hk hR rfl ⟨I22884, A22884, L22884, (show Md [18, 19, 20, 25] I I22884 from (Md.tr (Md.up Md.rf rfl) hI22884 rfl)), (show Md [19, 20, 21] A A22884 from (Md.tr Md.rf hA22884 rfl)), hV22884, x22880, (by omega), (by omega), rfl, rfl⟩ dX12_nearOf_101
      · skip
        refine g_iload hk dX12_nearOf_23 rfl ?_
        refine g_iload_n hk dX12_nearOf_25 rfl ?_
        refine g_isub hk dX12_nearOf_26 ?_
        refine g_topi (fun y23070 ey23070 => ?_)
        have hy23070 : y23070.toInt = x22879.toInt - z1.toInt := i32_sub ey23070 rfl rfl (by omega) (by omega)
        refine g_iconst (v := 1) hk dX12_nearOf_27 (by decide) ?_
        refine g_iload_n hk dX12_nearOf_28 rfl ?_
        refine g_isub hk dX12_nearOf_29 ?_
        refine g_topi (fun y23071 ey23071 => ?_)
        have hy23071 : y23071.toInt = 1 - z2.toInt := i32_sub ey23071 rfl rfl (by omega) (by omega)
        refine g_iload_n hk dX12_nearOf_30 rfl ?_
        refine g_iconst (v := 1) hk dX12_nearOf_31 (by decide) ?_
        refine g_isub hk dX12_nearOf_32 ?_
        refine g_topi (fun y23072 ey23072 => ?_)
        have hy23072 : y23072.toInt = z2.toInt - 1 := i32_sub ey23072 rfl rfl (by omega) (by omega)
        refine g_callS (n := 3) hk (j145_X12_in l D zt r g I22884 A22884 L22884 y23070 y23071 y23072 hV22884) (SP.same _) (fun _ h => h) (gi_S (List.mem_cons_of_mem _ (List.mem_append_left _ (List.mem_of_getElem? (i := 2) rfl))) (List.mem_cons_of_mem _ (List.mem_append_left _ (List.mem_of_getElem? (i := 3) rfl))) (List.mem_cons_of_mem _ (List.mem_append_left _ (List.mem_of_getElem? (i := 4) rfl))) (gi_sub (fun w h => (List.mem_cons_of_mem _ (List.mem_append_right _ (List.mem_append_right _ (List.mem_append_left _ h))))) zg_j145_X12_in)) rfl rfl rfl (by decide +kernel) ⟨Nat.le_of_ble_eq_true rfl, Nat.le_of_ble_eq_true rfl⟩ rfl rfl (Nat.le_of_ble_eq_true rfl) ⟨Nat.le_of_ble_eq_true rfl, Nat.le_of_ble_eq_true rfl⟩ dX12_nearOf_33 (fun v ty' w' hp hk' => ?_)
        rcases hp with ⟨c23073, rfl, rfl⟩ | ⟨c23075, c23076, rfl, rfl⟩
        · skip
          show GW κ 6 0 0 (wM r g I22884 A22884 L22884) 36 [(4, .int x22879), (3, .int x22880), (0, .ref (r 0)), (1, .int z1), (2, .int z2)] [.int 0]
          refine g_if_ne (tgt := 94) (a := 0) hk dX12_nearOf_36 (by decide) rfl (fun z9 => absurd z9 (show ¬ ((0 : Int) ≠ (0 : Int)) from by decide)) (fun _ => ?_)
          refine g_aload_n hk dX12_nearOf_39 rfl ?_
          refine g_iload hk dX12_nearOf_40 rfl ?_
          refine g_iload_n hk dX12_nearOf_42 rfl ?_
          refine g_callV (n := 2) hk (j160_X12_isWindow l D zt r g I22884 A22884 L22884 x22879 z2 hV22884) (SP.same _) (fun _ h => h) (gi_V (List.mem_cons_of_mem _ (List.mem_append_left _ (List.mem_of_getElem? (i := 5) rfl))) (List.mem_cons_of_mem _ (List.mem_append_left _ (List.mem_of_getElem? (i := 6) rfl))) (List.mem_cons_of_mem _ (List.mem_append_left _ (List.mem_of_getElem? (i := 7) rfl))) (List.mem_cons_of_mem _ (List.mem_append_left _ (List.mem_of_getElem? (i := 4) rfl))) (gi_sub (fun w h => (List.mem_cons_of_mem _ (List.mem_append_right _ (List.mem_append_right _ (List.mem_append_right _ (List.mem_append_left _ h)))))) zg_j160_X12_isWindow)) rfl rfl rfl (by decide +kernel) ⟨Nat.le_of_ble_eq_true rfl, Nat.le_of_ble_eq_true rfl⟩ 0 rfl rfl rfl rfl (Nat.le_of_ble_eq_true rfl) ⟨Nat.le_of_ble_eq_true rfl, Nat.le_of_ble_eq_true rfl⟩ dX12_nearOf_43 (fun v ty' w' hp hk' => ?_)
          rcases hp with ⟨rfl, rfl⟩ | ⟨c23079, c23080, c23081, c23082, c23083, c23084, c23085, rfl, rfl⟩
          · skip
            show GW κ 6 0 0 (wM r g I22884 A22884 L22884) 46 [(4, .int x22879), (3, .int x22880), (0, .ref (r 0)), (1, .int z1), (2, .int z2)] [.int 0]
            refine g_if_ne (tgt := 52) (a := 0) hk dX12_nearOf_46 (by decide) rfl (fun z9 => absurd z9 (show ¬ ((0 : Int) ≠ (0 : Int)) from by decide)) (fun _ => ?_)
            refine g_goto (tgt := 94) hk dX12_nearOf_49 (by decide) ?_
            obtain ⟨y23087, ey23087⟩ : ∃ y : Int32, y = x22879 + Int32.ofInt 1 := ⟨_, rfl⟩
            have hy23087 : y23087.toInt = x22879.toInt + 1 := i32_add ey23087 rfl (by decide) (by omega) (by omega)
            refine g_iinc (v := y23087) (lv' := [(4, .int y23087), (3, .int x22880), (0, .ref (r 0)), (1, .int z1), (2, .int z2)]) hk 0 dX12_nearOf_94 rfl ey23087.symm (by decide) rfl ?_
            refine g_goto (tgt := 12) hk dX12_nearOf_97 (by decide) ?_
            exact g_lv (List.forall_mem_cons.mpr ⟨List.mem_of_getElem? (i := 0) rfl, (List.forall_mem_cons.mpr ⟨List.mem_of_getElem? (i := 1) rfl, (List.forall_mem_cons.mpr ⟨List.mem_of_getElem? (i := 2) rfl, (List.forall_mem_cons.mpr ⟨List.mem_of_getElem? (i := 3) rfl, (List.forall_mem_cons.mpr ⟨List.mem_of_getElem? (i := 4) rfl, (fun _ h => absurd h List.not_mem_nil)⟩)⟩)⟩)⟩)⟩) (ih23067 y23087 x22880 I22884 A22884 L22884 (show Md [18, 19, 20, 25] (upd I 25 (-2)) I22884 from Md.tr hI22884 (show Md [18, 19, 20, 25] I22884 I22884 from Md.rf) rfl) (show Md [19, 20, 21] A A22884 from Md.tr hA22884 (show Md [19, 20, 21] A22884 A22884 from Md.rf) rfl) hV22884 (by omega) (by omega) (by omega) (by omega) (by omega) (by omega))
          · skip
            show GW κ 6 0 0 (wM r g I22884 A22884 L22884) 46 [(4, .int x22879), (3, .int x22880), (0, .ref (r 0)), (1, .int z1), (2, .int z2)] [.int 1]
            refine g_if_ne (tgt := 52) (a := 1) hk dX12_nearOf_46 (by decide) rfl (fun _ => ?_) (fun z9 => absurd (show (1 : Int) ≠ (0 : Int) from by decide) z9)
            refine g_aload_n hk dX12_nearOf_52 rfl ?_
            refine g_iload_n hk dX12_nearOf_53 rfl ?_
            refine g_iload hk dX12_nearOf_54 rfl ?_
            refine g_iload_n hk dX12_nearOf_56 rfl ?_
            refine g_callV (n := 3) hk (j200_X12_laysWindows l D zt r g I22884 A22884 L22884 z1 x22879 z2 hV22884 (by omega) (by omega) (by omega) (by omega) (by omega) (by omega) (by omega) (by omega)) (SP.same _) (fun _ h => h) (gi_V (List.mem_cons_of_mem _ (List.mem_append_left _ (List.mem_of_getElem? (i := 8) rfl))) (List.mem_cons_of_mem _ (List.mem_append_left _ (List.mem_of_getElem? (i := 9) rfl))) (List.mem_cons_of_mem _ (List.mem_append_left _ (List.mem_of_getElem? (i := 10) rfl))) (List.mem_cons_of_mem _ (List.mem_append_left _ (List.mem_of_getElem? (i := 4) rfl))) (gi_sub (fun w h => (List.mem_cons_of_mem _ (List.mem_append_right _ (List.mem_append_right _ (List.mem_append_right _ (List.mem_append_right _ (List.mem_append_left _ h))))))) zg_j200_X12_laysWindows)) rfl rfl rfl (by decide +kernel) ⟨Nat.le_of_ble_eq_true rfl, Nat.le_of_ble_eq_true rfl⟩ 0 rfl rfl rfl rfl (Nat.le_of_ble_eq_true rfl) ⟨Nat.le_of_ble_eq_true rfl, Nat.le_of_ble_eq_true rfl⟩ dX12_nearOf_57 (fun v ty' w' hp hk' => ?_)
            obtain ⟨I23089, A23089, L23089, hI23089, hA23089, hV23089, r23090, rfl, rfl⟩ := hp
            have f23091 := IvM_f18 hV23089
            show GW κ 6 0 0 (wM r g I23089 A23089 L23089) 60 [(4, .int x22879), (3, .int x22880), (0, .ref (r 0)), (1, .int z1), (2, .int z2)] []
            refine g_aload_n hk dX12_nearOf_60 rfl ?_
            refine g_ldcw (v := 2000000000) hk (List.mem_cons_of_mem _ (List.mem_append_left _ (List.mem_of_getElem? (i := 11) rfl))) dX12_nearOf_61 ?_
            have k23092 : (2000000000 : Int32).toInt = 2000000000 := rfl
            refine g_callV (n := 1) hk (j173_X12_laysTable l D zt r g I23089 A23089 L23089 2000000000 hV23089) (SP.same _) (fun _ h => h) (gi_V (List.mem_cons_of_mem _ (List.mem_append_left _ (List.mem_of_getElem? (i := 12) rfl))) (List.mem_cons_of_mem _ (List.mem_append_left _ (List.mem_of_getElem? (i := 13) rfl))) (List.mem_cons_of_mem _ (List.mem_append_left _ (List.mem_of_getElem? (i := 14) rfl))) (List.mem_cons_of_mem _ (List.mem_append_left _ (List.mem_of_getElem? (i := 4) rfl))) (gi_sub (fun w h => (List.mem_cons_of_mem _ (List.mem_append_right _ (List.mem_append_right _ (List.mem_append_right _ (List.mem_append_right _ (List.mem_append_right _ (List.mem_append_left _ h)))))))) zg_j173_X12_laysTable)) rfl rfl rfl (by decide +kernel) ⟨Nat.le_of_ble_eq_true rfl, Nat.le_of_ble_eq_true rfl⟩ 0 rfl rfl rfl rfl (Nat.le_of_ble_eq_true rfl) ⟨Nat.le_of_ble_eq_true rfl, Nat.le_of_ble_eq_true rfl⟩ dX12_nearOf_64 (fun v ty' w' hp hk' => ?_)
            obtain ⟨I23094, A23094, L23094, hI23094, hA23094, hV23094, y23093, rfl, rfl⟩ := hp
            show GW κ 6 0 0 (wM r g I23094 A23094 L23094) 67 [(4, .int x22879), (3, .int x22880), (0, .ref (r 0)), (1, .int z1), (2, .int z2)] [.int y23093]
            refine g_istore (lv' := [(5, .int y23093), (4, .int x22879), (3, .int x22880), (0, .ref (r 0)), (1, .int z1), (2, .int z2)]) hk dX12_nearOf_67 (by decide) rfl ?_
            refine g_iload_n hk dX12_nearOf_69 rfl ?_
            refine g_if_lt (tgt := 85) (a := x22880.toInt) hk dX12_nearOf_70 (by decide) rfl (fun c23095 => ?_) (fun c23095 => ?_)
            · skip
              refine g_iload hk dX12_nearOf_85 rfl ?_
              refine g_istore_n (lv' := [(3, .int x22879), (5, .int y23093), (4, .int x22879), (0, .ref (r 0)), (1, .int z1), (2, .int z2)]) hk dX12_nearOf_87 (by decide) rfl ?_
              refine g_aload_n hk dX12_nearOf_88 rfl ?_
              refine g_iload hk dX12_nearOf_89 rfl ?_
              refine pM_i25 hk hin12 (List.mem_cons_of_mem _ (List.mem_append_left _ (List.mem_of_getElem? (i := 0) rfl))) dX12_nearOf_91 ?_
              obtain ⟨y23096, ey23096⟩ : ∃ y : Int32, y = x22879 + Int32.ofInt 1 := ⟨_, rfl⟩
              have hy23096 : y23096.toInt = x22879.toInt + 1 := i32_add ey23096 rfl (by decide) (by omega) (by omega)
              refine g_iinc (v := y23096) (lv' := [(4, .int y23096), (3, .int x22879), (5, .int y23093), (0, .ref (r 0)), (1, .int z1), (2, .int z2)]) hk 2 dX12_nearOf_94 rfl ey23096.symm (by decide) rfl ?_
              refine g_goto (tgt := 12) hk dX12_nearOf_97 (by decide) ?_
              exact g_lv (List.forall_mem_cons.mpr ⟨List.mem_of_getElem? (i := 0) rfl, (List.forall_mem_cons.mpr ⟨List.mem_of_getElem? (i := 1) rfl, (List.forall_mem_cons.mpr ⟨List.mem_of_getElem? (i := 3) rfl, (List.forall_mem_cons.mpr ⟨List.mem_of_getElem? (i := 4) rfl, (List.forall_mem_cons.mpr ⟨List.mem_of_getElem? (i := 5) rfl, (fun _ h => absurd h List.not_mem_nil)⟩)⟩)⟩)⟩)⟩) (ih23067 y23096 x22879 (upd I23094 25 y23093) A23094 L23094 (show Md [18, 19, 20, 25] (upd I 25 (-2)) (upd I23094 25 y23093) from Md.tr hI22884 (show Md [18, 19, 20, 25] I22884 (upd I23094 25 y23093) from (Md.up (Md.tr (Md.tr Md.rf hI23089 rfl) hI23094 rfl) rfl)) rfl) (show Md [19, 20, 21] A A23094 from Md.tr hA22884 (show Md [19, 20, 21] A22884 A23094 from (Md.tr (Md.tr Md.rf hA23089 rfl) hA23094 rfl)) rfl) ⟨(IvM_f1 (I := I23094) (A := A23094) hV23094), (IvM_f2 (I := I23094) (A := A23094) hV23094), (IvM_f3 (I := I23094) (A := A23094) hV23094), (IvM_f4 (I := I23094) (A := A23094) hV23094), (IvM_f6 (I := I23094) (A := A23094) hV23094), (IvM_f8 (I := I23094) (A := A23094) hV23094), (IvM_f15 (I := I23094) (A := A23094) hV23094), (IvM_f16 (I := I23094) (A := A23094) hV23094), (IvM_f17 (I := I23094) (A := A23094) hV23094), (IvM_f18 (I := I23094) (A := A23094) hV23094), (IvM_f22 (I := I23094) (A := A23094) hV23094), (IvM_f23 (I := I23094) (A := A23094) hV23094), (IvM_f24 (I := I23094) (A := A23094) hV23094), (IvM_a11 (I := I23094) (A := A23094) hV23094), (IvM_a26 (I := I23094) (A := A23094) hV23094), (IvM_s8_0 (I := I23094) (A := A23094) hV23094), (IvM_s8_1 (I := I23094) (A := A23094) hV23094), (IvM_s10_0 (I := I23094) (A := A23094) hV23094), (IvM_s10_1 (I := I23094) (A := A23094) hV23094), (IvM_s17_0 (I := I23094) (A := A23094) hV23094), (IvM_s17_164 (I := I23094) (A := A23094) hV23094), (IvM_lv (I := I23094) (A := A23094) hV23094), (IvM_sd (I := I23094) (A := A23094) hV23094), (IvM_nq (I := I23094) (A := A23094) hV23094), (IvM_hr (I := I23094) (A := A23094) hV23094), (IvM_hh (I := I23094) (A := A23094) hV23094), trivial⟩ (by omega) (by omega) (by omega) (by omega) (by omega) (by omega))
            · skip
              refine g_iload hk dX12_nearOf_73 rfl ?_
              refine g_aload_n hk dX12_nearOf_75 rfl ?_
              refine gM_i25 (v := (I22884 25)) hk hin12 (List.mem_cons_of_mem _ (List.mem_append_left _ (List.mem_of_getElem? (i := 0) rfl))) dX12_nearOf_76 ((hI23094 25 rfl).trans (hI23089 25 rfl)) ?_
              have b23097l := Int32.le_toInt y23093
              have b23097h := Int32.toInt_lt y23093
              have b23098l := Int32.le_toInt (I22884 25)
              have b23098h := Int32.toInt_lt (I22884 25)
              refine g_icmp_lt (tgt := 85) (a := y23093.toInt) (b := (I22884 25).toInt) hk dX12_nearOf_79 (by decide) rfl rfl (fun c23099 => ?_) (fun c23099 => ?_)
              · skip
                refine g_iload hk dX12_nearOf_85 rfl ?_
                refine g_istore_n (lv' := [(3, .int x22879), (5, .int y23093), (4, .int x22879), (0, .ref (r 0)), (1, .int z1), (2, .int z2)]) hk dX12_nearOf_87 (by decide) rfl ?_
                refine g_aload_n hk dX12_nearOf_88 rfl ?_
                refine g_iload hk dX12_nearOf_89 rfl ?_
                refine pM_i25 hk hin12 (List.mem_cons_of_mem _ (List.mem_append_left _ (List.mem_of_getElem? (i := 0) rfl))) dX12_nearOf_91 ?_
                obtain ⟨y23100, ey23100⟩ : ∃ y : Int32, y = x22879 + Int32.ofInt 1 := ⟨_, rfl⟩
                have hy23100 : y23100.toInt = x22879.toInt + 1 := i32_add ey23100 rfl (by decide) (by omega) (by omega)
                refine g_iinc (v := y23100) (lv' := [(4, .int y23100), (3, .int x22879), (5, .int y23093), (0, .ref (r 0)), (1, .int z1), (2, .int z2)]) hk 2 dX12_nearOf_94 rfl ey23100.symm (by decide) rfl ?_
                refine g_goto (tgt := 12) hk dX12_nearOf_97 (by decide) ?_
                exact g_lv (List.forall_mem_cons.mpr ⟨List.mem_of_getElem? (i := 0) rfl, (List.forall_mem_cons.mpr ⟨List.mem_of_getElem? (i := 1) rfl, (List.forall_mem_cons.mpr ⟨List.mem_of_getElem? (i := 3) rfl, (List.forall_mem_cons.mpr ⟨List.mem_of_getElem? (i := 4) rfl, (List.forall_mem_cons.mpr ⟨List.mem_of_getElem? (i := 5) rfl, (fun _ h => absurd h List.not_mem_nil)⟩)⟩)⟩)⟩)⟩) (ih23067 y23100 x22879 (upd I23094 25 y23093) A23094 L23094 (show Md [18, 19, 20, 25] (upd I 25 (-2)) (upd I23094 25 y23093) from Md.tr hI22884 (show Md [18, 19, 20, 25] I22884 (upd I23094 25 y23093) from (Md.up (Md.tr (Md.tr Md.rf hI23089 rfl) hI23094 rfl) rfl)) rfl) (show Md [19, 20, 21] A A23094 from Md.tr hA22884 (show Md [19, 20, 21] A22884 A23094 from (Md.tr (Md.tr Md.rf hA23089 rfl) hA23094 rfl)) rfl) ⟨(IvM_f1 (I := I23094) (A := A23094) hV23094), (IvM_f2 (I := I23094) (A := A23094) hV23094), (IvM_f3 (I := I23094) (A := A23094) hV23094), (IvM_f4 (I := I23094) (A := A23094) hV23094), (IvM_f6 (I := I23094) (A := A23094) hV23094), (IvM_f8 (I := I23094) (A := A23094) hV23094), (IvM_f15 (I := I23094) (A := A23094) hV23094), (IvM_f16 (I := I23094) (A := A23094) hV23094), (IvM_f17 (I := I23094) (A := A23094) hV23094), (IvM_f18 (I := I23094) (A := A23094) hV23094), (IvM_f22 (I := I23094) (A := A23094) hV23094), (IvM_f23 (I := I23094) (A := A23094) hV23094), (IvM_f24 (I := I23094) (A := A23094) hV23094), (IvM_a11 (I := I23094) (A := A23094) hV23094), (IvM_a26 (I := I23094) (A := A23094) hV23094), (IvM_s8_0 (I := I23094) (A := A23094) hV23094), (IvM_s8_1 (I := I23094) (A := A23094) hV23094), (IvM_s10_0 (I := I23094) (A := A23094) hV23094), (IvM_s10_1 (I := I23094) (A := A23094) hV23094), (IvM_s17_0 (I := I23094) (A := A23094) hV23094), (IvM_s17_164 (I := I23094) (A := A23094) hV23094), (IvM_lv (I := I23094) (A := A23094) hV23094), (IvM_sd (I := I23094) (A := A23094) hV23094), (IvM_nq (I := I23094) (A := A23094) hV23094), (IvM_hr (I := I23094) (A := A23094) hV23094), (IvM_hh (I := I23094) (A := A23094) hV23094), trivial⟩ (by omega) (by omega) (by omega) (by omega) (by omega) (by omega))
              · skip
                refine g_goto (tgt := 94) hk dX12_nearOf_82 (by decide) ?_
                obtain ⟨y23101, ey23101⟩ : ∃ y : Int32, y = x22879 + Int32.ofInt 1 := ⟨_, rfl⟩
                have hy23101 : y23101.toInt = x22879.toInt + 1 := i32_add ey23101 rfl (by decide) (by omega) (by omega)
                refine g_iinc (v := y23101) (lv' := [(4, .int y23101), (5, .int y23093), (3, .int x22880), (0, .ref (r 0)), (1, .int z1), (2, .int z2)]) hk 1 dX12_nearOf_94 rfl ey23101.symm (by decide) rfl ?_
                refine g_goto (tgt := 12) hk dX12_nearOf_97 (by decide) ?_
                exact g_lv (List.forall_mem_cons.mpr ⟨List.mem_of_getElem? (i := 0) rfl, (List.forall_mem_cons.mpr ⟨List.mem_of_getElem? (i := 2) rfl, (List.forall_mem_cons.mpr ⟨List.mem_of_getElem? (i := 3) rfl, (List.forall_mem_cons.mpr ⟨List.mem_of_getElem? (i := 4) rfl, (List.forall_mem_cons.mpr ⟨List.mem_of_getElem? (i := 5) rfl, (fun _ h => absurd h List.not_mem_nil)⟩)⟩)⟩)⟩)⟩) (ih23067 y23101 x22880 I23094 A23094 L23094 (show Md [18, 19, 20, 25] (upd I 25 (-2)) I23094 from Md.tr hI22884 (show Md [18, 19, 20, 25] I22884 I23094 from (Md.tr (Md.tr Md.rf hI23089 rfl) hI23094 rfl)) rfl) (show Md [19, 20, 21] A A23094 from Md.tr hA22884 (show Md [19, 20, 21] A22884 A23094 from (Md.tr (Md.tr Md.rf hA23089 rfl) hA23094 rfl)) rfl) hV23094 (by omega) (by omega) (by omega) (by omega) (by omega) (by omega))
        · skip
          show GW κ 6 0 0 (wM r g I22884 A22884 L22884) 36 [(4, .int x22879), (3, .int x22880), (0, .ref (r 0)), (1, .int z1), (2, .int z2)] [.int 1]
          refine g_if_ne (tgt := 94) (a := 1) hk dX12_nearOf_36 (by decide) rfl (fun _ => ?_) (fun z9 => absurd (show (1 : Int) ≠ (0 : Int) from by decide) z9)
          obtain ⟨y23102, ey23102⟩ : ∃ y : Int32, y = x22879 + Int32.ofInt 1 := ⟨_, rfl⟩
          have hy23102 : y23102.toInt = x22879.toInt + 1 := i32_add ey23102 rfl (by decide) (by omega) (by omega)
          refine g_iinc (v := y23102) (lv' := [(4, .int y23102), (3, .int x22880), (0, .ref (r 0)), (1, .int z1), (2, .int z2)]) hk 0 dX12_nearOf_94 rfl ey23102.symm (by decide) rfl ?_
          refine g_goto (tgt := 12) hk dX12_nearOf_97 (by decide) ?_
          exact g_lv (List.forall_mem_cons.mpr ⟨List.mem_of_getElem? (i := 0) rfl, (List.forall_mem_cons.mpr ⟨List.mem_of_getElem? (i := 1) rfl, (List.forall_mem_cons.mpr ⟨List.mem_of_getElem? (i := 2) rfl, (List.forall_mem_cons.mpr ⟨List.mem_of_getElem? (i := 3) rfl, (List.forall_mem_cons.mpr ⟨List.mem_of_getElem? (i := 4) rfl, (fun _ h => absurd h List.not_mem_nil)⟩)⟩)⟩)⟩)⟩) (ih23067 y23102 x22880 I22884 A22884 L22884 (show Md [18, 19, 20, 25] (upd I 25 (-2)) I22884 from Md.tr hI22884 (show Md [18, 19, 20, 25] I22884 I22884 from Md.rf) rfl) (show Md [19, 20, 21] A A22884 from Md.tr hA22884 (show Md [19, 20, 21] A22884 A22884 from Md.rf) rfl) hV22884 (by omega) (by omega) (by omega) (by omega) (by omega) (by omega))
  have k23103 : (0 : Int32).toInt = 0 := rfl
  have k23104 : ((-2) : Int32).toInt = (-2) := rfl
  obtain ⟨n23105, n23105a, n23105b⟩ : ∃ n : Nat, 161 - (0 : Int32).toInt < (n : Int) ∧ 0 < n := ⟨((161 - (0 : Int32).toInt : Int)).toNat + 1, by omega, by omega⟩
  exact lp23064 n23105 0 (-2) (upd I 25 (-2)) A L Md.rf Md.rf ⟨(IvM_f1 (I := I) (A := A) hIv), (IvM_f2 (I := I) (A := A) hIv), (IvM_f3 (I := I) (A := A) hIv), (IvM_f4 (I := I) (A := A) hIv), (IvM_f6 (I := I) (A := A) hIv), (IvM_f8 (I := I) (A := A) hIv), (IvM_f15 (I := I) (A := A) hIv), (IvM_f16 (I := I) (A := A) hIv), (IvM_f17 (I := I) (A := A) hIv), (IvM_f18 (I := I) (A := A) hIv), (IvM_f22 (I := I) (A := A) hIv), (IvM_f23 (I := I) (A := A) hIv), (IvM_f24 (I := I) (A := A) hIv), (IvM_a11 (I := I) (A := A) hIv), (IvM_a26 (I := I) (A := A) hIv), (IvM_s8_0 (I := I) (A := A) hIv), (IvM_s8_1 (I := I) (A := A) hIv), (IvM_s10_0 (I := I) (A := A) hIv), (IvM_s10_1 (I := I) (A := A) hIv), (IvM_s17_0 (I := I) (A := A) hIv), (IvM_s17_164 (I := I) (A := A) hIv), (IvM_lv (I := I) (A := A) hIv), (IvM_sd (I := I) (A := A) hIv), (IvM_nq (I := I) (A := A) hIv), (IvM_hr (I := I) (A := A) hIv), (IvM_hh (I := I) (A := A) hIv), trivial⟩ (by omega) (by omega) (by omega) (by omega) n23105a n23105b
def wo_j198_X12_near : List Cond := [Cond.methodLink RX12 244 yX12_in, Cond.static yX12_in, Cond.initialized RX12, Cond.methodLink RX12 257 yX12_isWindow, Cond.instanceMethod yX12_isWindow, Cond.selects RX12 yX12_isWindow yX12_isWindow, Cond.methodLink RX12 323 yX12_copies, Cond.instanceMethod yX12_copies, Cond.selects RX12 yX12_copies yX12_copies, Cond.methodLink RX12 388 yX12_nearOf, Cond.instanceMethod yX12_nearOf, Cond.selects RX12 yX12_nearOf yX12_nearOf, Cond.fieldLink RX12 381 "WarpDeskModel" "nearFar" "I"]
def wz_j198_X12_near : List Cond := .code yX12_near cX12_near 5 (some .int) :: (wo_j198_X12_near ++ (wsX120 ++ (wz_j145_X12_in ++ (wz_j160_X12_isWindow ++ (wz_j151_X12_copies ++ (wz_j199_X12_nearOf ++ ([] : List Cond)))))))
theorem zg_j198_X12_near : ∀ w ∈ wz_j198_X12_near, goodWord w = true := zg_cons rfl (zg_app (by decide +kernel) (zg_app zgU_wsX120 (zg_app zg_j145_X12_in (zg_app zg_j160_X12_isWindow (zg_app zg_j151_X12_copies (zg_app zg_j199_X12_nearOf zg_nil))))))
theorem zi_j198_X12_near : ∀ w ∈ wz_j198_X12_near, w ∈ lw_tbl := zi_cons zw_1918 (zi_app (zi_cons zw_1656 (zi_cons zw_1657 (zi_cons zw_115 (zi_cons zw_1714 (zi_cons zw_1716 (zi_cons zw_72 (zi_cons zw_1679 (zi_cons zw_1681 (zi_cons zw_70 (zi_cons zw_1919 (zi_cons zw_1921 (zi_cons zw_99 (zi_cons zw_1430 zi_nil))))))))))))) (zi_app inX12 (zi_app zi_j145_X12_in (zi_app zi_j160_X12_isWindow (zi_app zi_j151_X12_copies (zi_app zi_j199_X12_nearOf zi_nil))))))
set_option maxHeartbeats 4000000 in
set_option maxRecDepth 100000 in
theorem j198_X12_near (l : Launch) (D : va_G) (zt : Nat × Nat × Nat × (Nat → Nat) × (Nat → Nat)) (r : Nat → Nat) (g : Nat → ClassId) (I : Nat → Int32) (A : Nat → Nat → Int32) (L : Nat → Nat → Int64) (z1 : Int32) (z2 : Int32) (z3 : Int32) (hIv : IvM I A) : GM l D zt (tyM g) yX12_near wz_j198_X12_near ({ frames := 6, cells := 0, slots := 0, locals := 137 } : Room) [.ref (r 0), .int z1, .int z2, .int z3] (wM r g I A L) (fun v _ w' => ∃ (I' : Nat → Int32) (A' : Nat → Nat → Int32) (L' : Nat → Nat → Int64), Md [18, 19, 20, 25] I I' ∧ Md [18, 19, 20, 21] A A' ∧ IvM I' A' ∧ ∃ y0 : Int32, v = some (.int y0) ∧ w' = wM r g I' A' L') 0 0 := by
  refine GM.of (cc := cX12_near) (maxL := 5) (ret := (some .int)) (own := RX12) (lv := [(0, .ref (r 0)), (1, .int z1), (2, .int z2), (3, .int z3)]) (by decide) rfl rfl (Nat.le_of_ble_eq_true rfl) rfl (fun κ sz hk hR hN => ?_)
  have hin12 : ∀ w ∈ u_ws RX12 TX12 55, w ∈ wz_j198_X12_near := fun w h => (List.mem_cons_of_mem _ (List.mem_append_right _ (List.mem_append_left _ h)))
  refine g_iload_n hk dX12_near_0 rfl ?_
  refine g_iconst (v := 2) hk dX12_near_1 (by decide) ?_
  refine g_bipush (v := 16) hk dX12_near_2 (by decide) ?_
  have k22848 : (2 : Int32).toInt = 2 := rfl
  have k22849 : (16 : Int32).toInt = 16 := rfl
  refine g_callS (n := 3) hk (j145_X12_in l D zt r g I A L z2 2 16 hIv) (SP.same _) (fun _ h => h) (gi_S (List.mem_cons_of_mem _ (List.mem_append_left _ (List.mem_of_getElem? (i := 0) rfl))) (List.mem_cons_of_mem _ (List.mem_append_left _ (List.mem_of_getElem? (i := 1) rfl))) (List.mem_cons_of_mem _ (List.mem_append_left _ (List.mem_of_getElem? (i := 2) rfl))) (gi_sub (fun w h => (List.mem_cons_of_mem _ (List.mem_append_right _ (List.mem_append_right _ (List.mem_append_left _ h))))) zg_j145_X12_in)) rfl rfl rfl (by decide +kernel) ⟨Nat.le_of_ble_eq_true rfl, Nat.le_of_ble_eq_true rfl⟩ rfl rfl (Nat.le_of_ble_eq_true rfl) ⟨Nat.le_of_ble_eq_true rfl, Nat.le_of_ble_eq_true rfl⟩ dX12_near_4 (fun v ty' w' hp hk' => ?_)
  rcases hp with ⟨c22850, rfl, rfl⟩ | ⟨c22852, c22853, rfl, rfl⟩
  · skip
    have b22855l := Int32.le_toInt z2
    have b22855h := Int32.toInt_lt z2
    show GW κ 5 0 0 (wM r g I A L) 7 [(0, .ref (r 0)), (1, .int z1), (2, .int z2), (3, .int z3)] [.int 0]
    refine g_if_eq (tgt := 28) (a := 0) hk dX12_near_7 (by decide) rfl (fun _ => ?_) (fun z9 => absurd (show (0 : Int) = (0 : Int) from by decide) z9)
    refine g_iconst (v := (-1)) hk dX12_near_28 (by decide) ?_
    exact g_iret hk hR rfl ⟨I, A, L, (show Md [18, 19, 20, 25] I I from Md.rf), (show Md [18, 19, 20, 21] A A from Md.rf), hIv, (-1), rfl, rfl⟩ dX12_near_29
  · skip
    show GW κ 5 0 0 (wM r g I A L) 7 [(0, .ref (r 0)), (1, .int z1), (2, .int z2), (3, .int z3)] [.int 1]
    refine g_if_eq (tgt := 28) (a := 1) hk dX12_near_7 (by decide) rfl (fun z9 => absurd z9 (show ¬ ((1 : Int) = (0 : Int)) from by decide)) (fun _ => ?_)
    refine g_aload_n hk dX12_near_10 rfl ?_
    refine g_iload_n hk dX12_near_11 rfl ?_
    refine g_iload_n hk dX12_near_12 rfl ?_
    refine g_callV (n := 2) hk (j160_X12_isWindow l D zt r g I A L z1 z2 hIv) (SP.same _) (fun _ h => h) (gi_V (List.mem_cons_of_mem _ (List.mem_append_left _ (List.mem_of_getElem? (i := 3) rfl))) (List.mem_cons_of_mem _ (List.mem_append_left _ (List.mem_of_getElem? (i := 4) rfl))) (List.mem_cons_of_mem _ (List.mem_append_left _ (List.mem_of_getElem? (i := 5) rfl))) (List.mem_cons_of_mem _ (List.mem_append_left _ (List.mem_of_getElem? (i := 2) rfl))) (gi_sub (fun w h => (List.mem_cons_of_mem _ (List.mem_append_right _ (List.mem_append_right _ (List.mem_append_right _ (List.mem_append_left _ h)))))) zg_j160_X12_isWindow)) rfl rfl rfl (by decide +kernel) ⟨Nat.le_of_ble_eq_true rfl, Nat.le_of_ble_eq_true rfl⟩ 0 rfl rfl rfl rfl (Nat.le_of_ble_eq_true rfl) ⟨Nat.le_of_ble_eq_true rfl, Nat.le_of_ble_eq_true rfl⟩ dX12_near_13 (fun v ty' w' hp hk' => ?_)
    rcases hp with ⟨rfl, rfl⟩ | ⟨c22857, c22858, c22859, c22860, c22861, c22862, c22863, rfl, rfl⟩
    · skip
      show GW κ 5 0 0 (wM r g I A L) 16 [(0, .ref (r 0)), (1, .int z1), (2, .int z2), (3, .int z3)] [.int 0]
      refine g_if_eq (tgt := 28) (a := 0) hk dX12_near_16 (by decide) rfl (fun _ => ?_) (fun z9 => absurd (show (0 : Int) = (0 : Int) from by decide) z9)
      refine g_iconst (v := (-1)) hk dX12_near_28 (by decide) ?_
      exact g_iret hk hR rfl ⟨I, A, L, (show Md [18, 19, 20, 25] I I from Md.rf), (show Md [18, 19, 20, 21] A A from Md.rf), hIv, (-1), rfl, rfl⟩ dX12_near_29
    · skip
      show GW κ 5 0 0 (wM r g I A L) 16 [(0, .ref (r 0)), (1, .int z1), (2, .int z2), (3, .int z3)] [.int 1]
      refine g_if_eq (tgt := 28) (a := 1) hk dX12_near_16 (by decide) rfl (fun z9 => absurd z9 (show ¬ ((1 : Int) = (0 : Int)) from by decide)) (fun _ => ?_)
      refine g_iload_n hk dX12_near_19 rfl ?_
      refine g_iconst (v := 0) hk dX12_near_20 (by decide) ?_
      refine g_iconst (v := 1) hk dX12_near_21 (by decide) ?_
      have k22865 : (0 : Int32).toInt = 0 := rfl
      have k22866 : (1 : Int32).toInt = 1 := rfl
      refine g_callS (n := 3) hk (j145_X12_in l D zt r g I A L z3 0 1 hIv) (SP.same _) (fun _ h => h) (gi_S (List.mem_cons_of_mem _ (List.mem_append_left _ (List.mem_of_getElem? (i := 0) rfl))) (List.mem_cons_of_mem _ (List.mem_append_left _ (List.mem_of_getElem? (i := 1) rfl))) (List.mem_cons_of_mem _ (List.mem_append_left _ (List.mem_of_getElem? (i := 2) rfl))) (gi_sub (fun w h => (List.mem_cons_of_mem _ (List.mem_append_right _ (List.mem_append_right _ (List.mem_append_left _ h))))) zg_j145_X12_in)) rfl rfl rfl (by decide +kernel) ⟨Nat.le_of_ble_eq_true rfl, Nat.le_of_ble_eq_true rfl⟩ rfl rfl (Nat.le_of_ble_eq_true rfl) ⟨Nat.le_of_ble_eq_true rfl, Nat.le_of_ble_eq_true rfl⟩ dX12_near_22 (fun v ty' w' hp hk' => ?_)
      rcases hp with ⟨c22867, rfl, rfl⟩ | ⟨c22869, c22870, rfl, rfl⟩
      · skip
        have b22872l := Int32.le_toInt z3
        have b22872h := Int32.toInt_lt z3
        show GW κ 5 0 0 (wM r g I A L) 25 [(0, .ref (r 0)), (1, .int z1), (2, .int z2), (3, .int z3)] [.int 0]
        refine g_if_ne (tgt := 30) (a := 0) hk dX12_near_25 (by decide) rfl (fun z9 => absurd z9 (show ¬ ((0 : Int) ≠ (0 : Int)) from by decide)) (fun _ => ?_)
        refine g_iconst (v := (-1)) hk dX12_near_28 (by decide) ?_
        exact g_iret hk hR rfl ⟨I, A, L, (show Md [18, 19, 20, 25] I I from Md.rf), (show Md [18, 19, 20, 21] A A from Md.rf), hIv, (-1), rfl, rfl⟩ dX12_near_29
      · skip
        show GW κ 5 0 0 (wM r g I A L) 25 [(0, .ref (r 0)), (1, .int z1), (2, .int z2), (3, .int z3)] [.int 1]
        refine g_if_ne (tgt := 30) (a := 1) hk dX12_near_25 (by decide) rfl (fun _ => ?_) (fun z9 => absurd (show (1 : Int) ≠ (0 : Int) from by decide) z9)
        refine g_aload_n hk dX12_near_30 rfl ?_
        refine g_callV (n := 0) hk (j151_X12_copies l D zt r g I A L  hIv) (SP.same _) (fun _ h => h) (gi_V (List.mem_cons_of_mem _ (List.mem_append_left _ (List.mem_of_getElem? (i := 6) rfl))) (List.mem_cons_of_mem _ (List.mem_append_left _ (List.mem_of_getElem? (i := 7) rfl))) (List.mem_cons_of_mem _ (List.mem_append_left _ (List.mem_of_getElem? (i := 8) rfl))) (List.mem_cons_of_mem _ (List.mem_append_left _ (List.mem_of_getElem? (i := 2) rfl))) (gi_sub (fun w h => (List.mem_cons_of_mem _ (List.mem_append_right _ (List.mem_append_right _ (List.mem_append_right _ (List.mem_append_right _ (List.mem_append_left _ h))))))) zg_j151_X12_copies)) rfl rfl rfl (by decide +kernel) ⟨Nat.le_of_ble_eq_true rfl, Nat.le_of_ble_eq_true rfl⟩ 0 rfl rfl rfl rfl (Nat.le_of_ble_eq_true rfl) ⟨Nat.le_of_ble_eq_true rfl, Nat.le_of_ble_eq_true rfl⟩ dX12_near_31 (fun v ty' w' hp hk' => ?_)
        obtain ⟨I22874, A22874, L22874, hI22874, hA22874, hV22874, r22875, r22876, rfl, rfl⟩ := hp
        have f22877 := IvM_s17_0 hIv
        have f22878 := IvM_s17_164 hIv
        show GW κ 5 0 0 (wM r g I22874 A22874 L22874) 34 [(0, .ref (r 0)), (1, .int z1), (2, .int z2), (3, .int z3)] []
        refine g_aload_n hk dX12_near_34 rfl ?_
        refine g_iload_n hk dX12_near_35 rfl ?_
        refine g_iload_n hk dX12_near_36 rfl ?_
        refine g_callV (n := 2) hk (j199_X12_nearOf l D zt r g I22874 A22874 L22874 z1 z2 hV22874 (by omega) (by omega) (by omega) (by omega) (by omega)) (SP.same _) (fun _ h => h) (gi_V (List.mem_cons_of_mem _ (List.mem_append_left _ (List.mem_of_getElem? (i := 9) rfl))) (List.mem_cons_of_mem _ (List.mem_append_left _ (List.mem_of_getElem? (i := 10) rfl))) (List.mem_cons_of_mem _ (List.mem_append_left _ (List.mem_of_getElem? (i := 11) rfl))) (List.mem_cons_of_mem _ (List.mem_append_left _ (List.mem_of_getElem? (i := 2) rfl))) (gi_sub (fun w h => (List.mem_cons_of_mem _ (List.mem_append_right _ (List.mem_append_right _ (List.mem_append_right _ (List.mem_append_right _ (List.mem_append_right _ (List.mem_append_left _ h)))))))) zg_j199_X12_nearOf)) rfl rfl rfl (by decide +kernel) ⟨Nat.le_of_ble_eq_true rfl, Nat.le_of_ble_eq_true rfl⟩ 0 rfl rfl rfl rfl (Nat.le_of_ble_eq_true rfl) ⟨Nat.le_of_ble_eq_true rfl, Nat.le_of_ble_eq_true rfl⟩ dX12_near_37 (fun v ty' w' hp hk' => ?_)
        obtain ⟨I23109, A23109, L23109, hI23109, hA23109, hV23109, y23106, c23107, c23108, rfl, rfl⟩ := hp
        show GW κ 5 0 0 (wM r g I23109 A23109 L23109) 40 [(0, .ref (r 0)), (1, .int z1), (2, .int z2), (3, .int z3)] [.int y23106]
        refine g_istore (lv' := [(4, .int y23106), (0, .ref (r 0)), (1, .int z1), (2, .int z2), (3, .int z3)]) hk dX12_near_40 (by decide) rfl ?_
        refine g_iload_n hk dX12_near_42 rfl ?_
        refine g_if_ne (tgt := 51) (a := z3.toInt) hk dX12_near_43 (by decide) rfl (fun c23110 => ?_) (fun c23110 => ?_)
        · skip
          refine g_aload_n hk dX12_near_51 rfl ?_
          refine gM_i25 (v := (I23109 25)) hk hin12 (List.mem_cons_of_mem _ (List.mem_append_left _ (List.mem_of_getElem? (i := 12) rfl))) dX12_near_52 rfl ?_
          have b23111l := Int32.le_toInt (I23109 25)
          have b23111h := Int32.toInt_lt (I23109 25)
          exact g_iret hk hR rfl ⟨I23109, A23109, L23109, (show Md [18, 19, 20, 25] I I23109 from (Md.tr (Md.tr Md.rf hI22874 rfl) hI23109 rfl)), (show Md [18, 19, 20, 21] A A23109 from (Md.tr (Md.tr Md.rf hA22874 rfl) hA23109 rfl)), hV23109, (I23109 25), rfl, rfl⟩ dX12_near_55
        · skip
          refine g_iload hk dX12_near_46 rfl ?_
          refine g_goto (tgt := 55) hk dX12_near_48 (by decide) ?_
          exact g_iret hk hR rfl ⟨I23109, A23109, L23109, (show Md [18, 19, 20, 25] I I23109 from (Md.tr (Md.tr Md.rf hI22874 rfl) hI23109 rfl)), (show Md [18, 19, 20, 21] A A23109 from (Md.tr (Md.tr Md.rf hA22874 rfl) hA23109 rfl)), hV23109, y23106, rfl, rfl⟩ dX12_near_55
def wo_j201_X12_pair : List Cond := [Cond.methodLink RX12 244 yX12_in, Cond.static yX12_in, Cond.initialized RX12, Cond.methodLink RX12 323 yX12_copies, Cond.instanceMethod yX12_copies, Cond.selects RX12 yX12_copies yX12_copies, Cond.fieldLink RX12 70 "WarpDeskModel" "now" "[I", Cond.methodLink RX12 257 yX12_isWindow, Cond.instanceMethod yX12_isWindow, Cond.selects RX12 yX12_isWindow yX12_isWindow, Cond.methodLink RX12 384 yX12_laysWindows, Cond.instanceMethod yX12_laysWindows, Cond.selects RX12 yX12_laysWindows yX12_laysWindows, Cond.constant RX12 282 (2000000000), Cond.methodLink RX12 304 yX12_laysTable, Cond.instanceMethod yX12_laysTable, Cond.selects RX12 yX12_laysTable yX12_laysTable]
def wz_j201_X12_pair : List Cond := .code yX12_pair cX12_pair 9 (some .int) :: (wo_j201_X12_pair ++ (wsX120 ++ (wz_j145_X12_in ++ (wz_j151_X12_copies ++ (wz_j160_X12_isWindow ++ (wz_j200_X12_laysWindows ++ (wz_j173_X12_laysTable ++ ([] : List Cond))))))))
theorem zg_j201_X12_pair : ∀ w ∈ wz_j201_X12_pair, goodWord w = true := zg_cons rfl (zg_app (by decide +kernel) (zg_app zgU_wsX120 (zg_app zg_j145_X12_in (zg_app zg_j151_X12_copies (zg_app zg_j160_X12_isWindow (zg_app zg_j200_X12_laysWindows (zg_app zg_j173_X12_laysTable zg_nil)))))))
theorem zi_j201_X12_pair : ∀ w ∈ wz_j201_X12_pair, w ∈ lw_tbl := zi_cons zw_1930 (zi_app (zi_cons zw_1656 (zi_cons zw_1657 (zi_cons zw_115 (zi_cons zw_1679 (zi_cons zw_1681 (zi_cons zw_70 (zi_cons zw_1413 (zi_cons zw_1714 (zi_cons zw_1716 (zi_cons zw_72 (zi_cons zw_1923 (zi_cons zw_1925 (zi_cons zw_100 (zi_cons zw_1775 (zi_cons zw_1776 (zi_cons zw_1778 (zi_cons zw_83 zi_nil))))))))))))))))) (zi_app inX12 (zi_app zi_j145_X12_in (zi_app zi_j151_X12_copies (zi_app zi_j160_X12_isWindow (zi_app zi_j200_X12_laysWindows (zi_app zi_j173_X12_laysTable zi_nil)))))))
set_option maxHeartbeats 4000000 in
set_option maxRecDepth 100000 in
theorem j201_X12_pair (l : Launch) (D : va_G) (zt : Nat × Nat × Nat × (Nat → Nat) × (Nat → Nat)) (r : Nat → Nat) (g : Nat → ClassId) (I : Nat → Int32) (A : Nat → Nat → Int32) (L : Nat → Nat → Int64) (z1 : Int32) (z2 : Int32) (hIv : IvM I A) : GM l D zt (tyM g) yX12_pair wz_j201_X12_pair ({ frames := 5, cells := 0, slots := 0, locals := 112 } : Room) [.ref (r 0), .int z1, .int z2] (wM r g I A L) (fun v _ w' => ∃ (I' : Nat → Int32) (A' : Nat → Nat → Int32) (L' : Nat → Nat → Int64), Md [18, 19, 20] I I' ∧ Md [18, 19, 20, 21] A A' ∧ IvM I' A' ∧ ∃ y0 : Int32, v = some (.int y0) ∧ w' = wM r g I' A' L') 0 0 := by
  refine GM.of (cc := cX12_pair) (maxL := 9) (ret := (some .int)) (own := RX12) (lv := [(0, .ref (r 0)), (1, .int z1), (2, .int z2)]) (by decide) rfl rfl (Nat.le_of_ble_eq_true rfl) rfl (fun κ sz hk hR hN => ?_)
  have hin12 : ∀ w ∈ u_ws RX12 TX12 55, w ∈ wz_j201_X12_pair := fun w h => (List.mem_cons_of_mem _ (List.mem_append_right _ (List.mem_append_left _ h)))
  refine g_iload_n hk dX12_pair_0 rfl ?_
  refine g_iconst (v := 2) hk dX12_pair_1 (by decide) ?_
  refine g_bipush (v := 16) hk dX12_pair_2 (by decide) ?_
  have k23112 : (2 : Int32).toInt = 2 := rfl
  have k23113 : (16 : Int32).toInt = 16 := rfl
  refine g_callS (n := 3) hk (j145_X12_in l D zt r g I A L z1 2 16 hIv) (SP.same _) (fun _ h => h) (gi_S (List.mem_cons_of_mem _ (List.mem_append_left _ (List.mem_of_getElem? (i := 0) rfl))) (List.mem_cons_of_mem _ (List.mem_append_left _ (List.mem_of_getElem? (i := 1) rfl))) (List.mem_cons_of_mem _ (List.mem_append_left _ (List.mem_of_getElem? (i := 2) rfl))) (gi_sub (fun w h => (List.mem_cons_of_mem _ (List.mem_append_right _ (List.mem_append_right _ (List.mem_append_left _ h))))) zg_j145_X12_in)) rfl rfl rfl (by decide +kernel) ⟨Nat.le_of_ble_eq_true rfl, Nat.le_of_ble_eq_true rfl⟩ rfl rfl (Nat.le_of_ble_eq_true rfl) ⟨Nat.le_of_ble_eq_true rfl, Nat.le_of_ble_eq_true rfl⟩ dX12_pair_4 (fun v ty' w' hp hk' => ?_)
  rcases hp with ⟨c23114, rfl, rfl⟩ | ⟨c23116, c23117, rfl, rfl⟩
  · skip
    have b23119l := Int32.le_toInt z1
    have b23119h := Int32.toInt_lt z1
    show GW κ 9 0 0 (wM r g I A L) 7 [(0, .ref (r 0)), (1, .int z1), (2, .int z2)] [.int 0]
    refine g_if_eq (tgt := 19) (a := 0) hk dX12_pair_7 (by decide) rfl (fun _ => ?_) (fun z9 => absurd (show (0 : Int) = (0 : Int) from by decide) z9)
    refine g_iconst (v := (-1)) hk dX12_pair_19 (by decide) ?_
    exact g_iret hk hR rfl ⟨I, A, L, (show Md [18, 19, 20] I I from Md.rf), (show Md [18, 19, 20, 21] A A from Md.rf), hIv, (-1), rfl, rfl⟩ dX12_pair_20
  · skip
    show GW κ 9 0 0 (wM r g I A L) 7 [(0, .ref (r 0)), (1, .int z1), (2, .int z2)] [.int 1]
    refine g_if_eq (tgt := 19) (a := 1) hk dX12_pair_7 (by decide) rfl (fun z9 => absurd z9 (show ¬ ((1 : Int) = (0 : Int)) from by decide)) (fun _ => ?_)
    refine g_iload_n hk dX12_pair_10 rfl ?_
    refine g_iconst (v := 0) hk dX12_pair_11 (by decide) ?_
    refine g_iconst (v := 2) hk dX12_pair_12 (by decide) ?_
    have k23120 : (0 : Int32).toInt = 0 := rfl
    refine g_callS (n := 3) hk (j145_X12_in l D zt r g I A L z2 0 2 hIv) (SP.same _) (fun _ h => h) (gi_S (List.mem_cons_of_mem _ (List.mem_append_left _ (List.mem_of_getElem? (i := 0) rfl))) (List.mem_cons_of_mem _ (List.mem_append_left _ (List.mem_of_getElem? (i := 1) rfl))) (List.mem_cons_of_mem _ (List.mem_append_left _ (List.mem_of_getElem? (i := 2) rfl))) (gi_sub (fun w h => (List.mem_cons_of_mem _ (List.mem_append_right _ (List.mem_append_right _ (List.mem_append_left _ h))))) zg_j145_X12_in)) rfl rfl rfl (by decide +kernel) ⟨Nat.le_of_ble_eq_true rfl, Nat.le_of_ble_eq_true rfl⟩ rfl rfl (Nat.le_of_ble_eq_true rfl) ⟨Nat.le_of_ble_eq_true rfl, Nat.le_of_ble_eq_true rfl⟩ dX12_pair_13 (fun v ty' w' hp hk' => ?_)
    rcases hp with ⟨c23121, rfl, rfl⟩ | ⟨c23123, c23124, rfl, rfl⟩
    · skip
      have b23126l := Int32.le_toInt z2
      have b23126h := Int32.toInt_lt z2
      show GW κ 9 0 0 (wM r g I A L) 16 [(0, .ref (r 0)), (1, .int z1), (2, .int z2)] [.int 0]
      refine g_if_ne (tgt := 21) (a := 0) hk dX12_pair_16 (by decide) rfl (fun z9 => absurd z9 (show ¬ ((0 : Int) ≠ (0 : Int)) from by decide)) (fun _ => ?_)
      refine g_iconst (v := (-1)) hk dX12_pair_19 (by decide) ?_
      exact g_iret hk hR rfl ⟨I, A, L, (show Md [18, 19, 20] I I from Md.rf), (show Md [18, 19, 20, 21] A A from Md.rf), hIv, (-1), rfl, rfl⟩ dX12_pair_20
    · skip
      show GW κ 9 0 0 (wM r g I A L) 16 [(0, .ref (r 0)), (1, .int z1), (2, .int z2)] [.int 1]
      refine g_if_ne (tgt := 21) (a := 1) hk dX12_pair_16 (by decide) rfl (fun _ => ?_) (fun z9 => absurd (show (1 : Int) ≠ (0 : Int) from by decide) z9)
      refine g_aload_n hk dX12_pair_21 rfl ?_
      refine g_callV (n := 0) hk (j151_X12_copies l D zt r g I A L  hIv) (SP.same _) (fun _ h => h) (gi_V (List.mem_cons_of_mem _ (List.mem_append_left _ (List.mem_of_getElem? (i := 3) rfl))) (List.mem_cons_of_mem _ (List.mem_append_left _ (List.mem_of_getElem? (i := 4) rfl))) (List.mem_cons_of_mem _ (List.mem_append_left _ (List.mem_of_getElem? (i := 5) rfl))) (List.mem_cons_of_mem _ (List.mem_append_left _ (List.mem_of_getElem? (i := 2) rfl))) (gi_sub (fun w h => (List.mem_cons_of_mem _ (List.mem_append_right _ (List.mem_append_right _ (List.mem_append_right _ (List.mem_append_left _ h)))))) zg_j151_X12_copies)) rfl rfl rfl (by decide +kernel) ⟨Nat.le_of_ble_eq_true rfl, Nat.le_of_ble_eq_true rfl⟩ 0 rfl rfl rfl rfl (Nat.le_of_ble_eq_true rfl) ⟨Nat.le_of_ble_eq_true rfl, Nat.le_of_ble_eq_true rfl⟩ dX12_pair_22 (fun v ty' w' hp hk' => ?_)
      obtain ⟨I23128, A23128, L23128, hI23128, hA23128, hV23128, r23129, r23130, rfl, rfl⟩ := hp
      have f23131 := IvM_s17_0 hIv
      have f23132 := IvM_s17_164 hIv
      show GW κ 9 0 0 (wM r g I23128 A23128 L23128) 25 [(0, .ref (r 0)), (1, .int z1), (2, .int z2)] []
      refine g_bipush (v := (-2)) hk dX12_pair_25 (by decide) ?_
      refine g_istore_n (lv' := [(3, .int (-2)), (0, .ref (r 0)), (1, .int z1), (2, .int z2)]) hk dX12_pair_27 (by decide) rfl ?_
      refine g_bipush (v := (-2)) hk dX12_pair_28 (by decide) ?_
      refine g_istore (lv' := [(4, .int (-2)), (3, .int (-2)), (0, .ref (r 0)), (1, .int z1), (2, .int z2)]) hk dX12_pair_30 (by decide) rfl ?_
      refine g_bipush (v := (-2)) hk dX12_pair_32 (by decide) ?_
      refine g_istore (lv' := [(5, .int (-2)), (4, .int (-2)), (3, .int (-2)), (0, .ref (r 0)), (1, .int z1), (2, .int z2)]) hk dX12_pair_34 (by decide) rfl ?_
      refine g_iconst (v := 0) hk dX12_pair_36 (by decide) ?_
      refine g_istore (lv' := [(6, .int 0), (5, .int (-2)), (4, .int (-2)), (3, .int (-2)), (0, .ref (r 0)), (1, .int z1), (2, .int z2)]) hk dX12_pair_37 (by decide) rfl ?_
      have lp23844 : ∀ (n23845 : Nat) (x23133 : Int32) (x23134 : Int32) (x23135 : Int32) (x23136 : Int32) (I23140 : Nat → Int32) (A23140 : Nat → Nat → Int32) (L23140 : Nat → Nat → Int64), (Md [18, 19, 20] I23128 I23140) → (Md [19, 20, 21] A23128 A23140) → (IvM I23140 A23140) → (0 ≤ x23133.toInt) → (x23133.toInt ≤ 160) → ((-2) ≤ x23135.toInt) → (x23135.toInt ≤ 159) → ((-2) ≤ x23136.toInt) → (x23136.toInt ≤ 159) → (161 - x23133.toInt < (n23845 : Int)) → (0 < n23845) → GW κ 9 0 0 (wM r g I23140 A23140 L23140) 39 [(6, .int x23133), (5, .int x23134), (4, .int x23135), (3, .int x23136), (0, .ref (r 0)), (1, .int z1), (2, .int z2)] [] := by
        intro n23845
        induction n23845 with
        | zero =>
          intro x23133 x23134 x23135 x23136 I23140 A23140 L23140 hI23140 hA23140 hV23140 h23838 h23839 h23840 h23841 h23842 h23843 m23846 m23846z
          exact absurd m23846z (Nat.lt_irrefl 0)
        | succ n23845 ih23847 =>
          intro x23133 x23134 x23135 x23136 I23140 A23140 L23140 hI23140 hA23140 hV23140 h23838 h23839 h23840 h23841 h23842 h23843 m23846 m23846z
          refine g_iload hk dX12_pair_39 rfl ?_
          refine g_aload_n hk dX12_pair_41 rfl ?_
          refine gM_r0_35 hk hin12 (List.mem_cons_of_mem _ (List.mem_append_left _ (List.mem_of_getElem? (i := 6) rfl))) dX12_pair_42 ?_
          refine g_iconst (v := 0) hk dX12_pair_45 (by decide) ?_
          refine lM_17 (v := (A 17 0)) hk (vp_in_iff.mpr ⟨by decide, by decide⟩) ((congrFun (hA23140 17 rfl) _).trans (congrFun (hA23128 17 rfl) _)) dX12_pair_46 ?_
          refine g_icmp_ge (tgt := 148) (a := x23133.toInt) (b := (A 17 0).toInt) hk dX12_pair_47 (by decide) rfl rfl (fun c23848 => ?_) (fun c23848 => ?_)
          · skip
            refine g_iload_n hk dX12_pair_148 rfl ?_
            refine g_if_ne (tgt := 156) (a := z2.toInt) hk dX12_pair_149 (by decide) rfl (fun c23849 => ?_) (fun c23849 => ?_)
            · skip
              refine g_iload_n hk dX12_pair_156 rfl ?_
              refine g_iconst (v := 1) hk dX12_pair_157 (by decide) ?_
              refine g_icmp_ne (tgt := 166) (a := z2.toInt) (b := 1) hk dX12_pair_158 (by decide) rfl rfl (fun c23850 => ?_) (fun c23850 => ?_)
              · skip
                refine g_iload hk dX12_pair_166 rfl ?_
                have b23851l := Int32.le_toInt x23134
                have b23851h := Int32.toInt_lt x23134
                exact g_iret hk hR rfl ⟨I23140, A23140, L23140, (show Md [18, 19, 20] I I23140 from (Md.tr (Md.tr Md.rf hI23128 rfl) hI23140 rfl)), (show Md [18, 19, 20, 21] A A23140 from (Md.tr (Md.tr Md.rf hA23128 rfl) hA23140 rfl)), hV23140, x23134, rfl, rfl⟩ dX12_pair_168
              · skip
                refine g_iload hk dX12_pair_161 rfl ?_
                refine g_goto (tgt := 168) hk dX12_pair_163 (by decide) ?_
                exact g_iret hk hR rfl ⟨I23140, A23140, L23140, (show Md [18, 19, 20] I I23140 from (Md.tr (Md.tr Md.rf hI23128 rfl) hI23140 rfl)), (show Md [18, 19, 20, 21] A A23140 from (Md.tr (Md.tr Md.rf hA23128 rfl) hA23140 rfl)), hV23140, x23135, rfl, rfl⟩ dX12_pair_168
            · skip
              refine g_iload_n hk dX12_pair_152 rfl ?_
              refine g_goto (tgt := 168) hk dX12_pair_153 (by decide) ?_
              exact g_iret hk hR rfl ⟨I23140, A23140, L23140, (show Md [18, 19, 20] I I23140 from (Md.tr (Md.tr Md.rf hI23128 rfl) hI23140 rfl)), (show Md [18, 19, 20, 21] A A23140 from (Md.tr (Md.tr Md.rf hA23128 rfl) hA23140 rfl)), hV23140, x23136, rfl, rfl⟩ dX12_pair_168
          · skip
            refine g_aload_n hk dX12_pair_50 rfl ?_
            refine g_iload hk dX12_pair_51 rfl ?_
            refine g_iload_n hk dX12_pair_53 rfl ?_
            refine g_callV (n := 2) hk (j160_X12_isWindow l D zt r g I23140 A23140 L23140 x23133 z1 hV23140) (SP.same _) (fun _ h => h) (gi_V (List.mem_cons_of_mem _ (List.mem_append_left _ (List.mem_of_getElem? (i := 7) rfl))) (List.mem_cons_of_mem _ (List.mem_append_left _ (List.mem_of_getElem? (i := 8) rfl))) (List.mem_cons_of_mem _ (List.mem_append_left _ (List.mem_of_getElem? (i := 9) rfl))) (List.mem_cons_of_mem _ (List.mem_append_left _ (List.mem_of_getElem? (i := 2) rfl))) (gi_sub (fun w h => (List.mem_cons_of_mem _ (List.mem_append_right _ (List.mem_append_right _ (List.mem_append_right _ (List.mem_append_right _ (List.mem_append_left _ h))))))) zg_j160_X12_isWindow)) rfl rfl rfl (by decide +kernel) ⟨Nat.le_of_ble_eq_true rfl, Nat.le_of_ble_eq_true rfl⟩ 0 rfl rfl rfl rfl (Nat.le_of_ble_eq_true rfl) ⟨Nat.le_of_ble_eq_true rfl, Nat.le_of_ble_eq_true rfl⟩ dX12_pair_54 (fun v ty' w' hp hk' => ?_)
            rcases hp with ⟨rfl, rfl⟩ | ⟨c23853, c23854, c23855, c23856, c23857, c23858, c23859, rfl, rfl⟩
            · skip
              show GW κ 9 0 0 (wM r g I23140 A23140 L23140) 57 [(6, .int x23133), (5, .int x23134), (4, .int x23135), (3, .int x23136), (0, .ref (r 0)), (1, .int z1), (2, .int z2)] [.int 0]
              refine g_if_ne (tgt := 63) (a := 0) hk dX12_pair_57 (by decide) rfl (fun z9 => absurd z9 (show ¬ ((0 : Int) ≠ (0 : Int)) from by decide)) (fun _ => ?_)
              refine g_goto (tgt := 142) hk dX12_pair_60 (by decide) ?_
              obtain ⟨y23861, ey23861⟩ : ∃ y : Int32, y = x23133 + Int32.ofInt 1 := ⟨_, rfl⟩
              have hy23861 : y23861.toInt = x23133.toInt + 1 := i32_add ey23861 rfl (by decide) (by omega) (by omega)
              refine g_iinc (v := y23861) (lv' := [(6, .int y23861), (5, .int x23134), (4, .int x23135), (3, .int x23136), (0, .ref (r 0)), (1, .int z1), (2, .int z2)]) hk 0 dX12_pair_142 rfl ey23861.symm (by decide) rfl ?_
              refine g_goto (tgt := 39) hk dX12_pair_145 (by decide) ?_
              have b23862l := Int32.le_toInt x23134
              have b23862h := Int32.toInt_lt x23134
              exact g_lv (List.forall_mem_cons.mpr ⟨List.mem_of_getElem? (i := 0) rfl, (List.forall_mem_cons.mpr ⟨List.mem_of_getElem? (i := 1) rfl, (List.forall_mem_cons.mpr ⟨List.mem_of_getElem? (i := 2) rfl, (List.forall_mem_cons.mpr ⟨List.mem_of_getElem? (i := 3) rfl, (List.forall_mem_cons.mpr ⟨List.mem_of_getElem? (i := 4) rfl, (List.forall_mem_cons.mpr ⟨List.mem_of_getElem? (i := 5) rfl, (List.forall_mem_cons.mpr ⟨List.mem_of_getElem? (i := 6) rfl, (fun _ h => absurd h List.not_mem_nil)⟩)⟩)⟩)⟩)⟩)⟩)⟩) (ih23847 y23861 x23134 x23135 x23136 I23140 A23140 L23140 (show Md [18, 19, 20] I23128 I23140 from Md.tr hI23140 (show Md [18, 19, 20] I23140 I23140 from Md.rf) rfl) (show Md [19, 20, 21] A23128 A23140 from Md.tr hA23140 (show Md [19, 20, 21] A23140 A23140 from Md.rf) rfl) hV23140 (by omega) (by omega) (by omega) (by omega) (by omega) (by omega) (by omega) (by omega))
            · skip
              show GW κ 9 0 0 (wM r g I23140 A23140 L23140) 57 [(6, .int x23133), (5, .int x23134), (4, .int x23135), (3, .int x23136), (0, .ref (r 0)), (1, .int z1), (2, .int z2)] [.int 1]
              refine g_if_ne (tgt := 63) (a := 1) hk dX12_pair_57 (by decide) rfl (fun _ => ?_) (fun z9 => absurd (show (1 : Int) ≠ (0 : Int) from by decide) z9)
              refine g_iload hk dX12_pair_63 rfl ?_
              refine g_iload_n hk dX12_pair_65 rfl ?_
              refine g_iadd hk dX12_pair_66 ?_
              refine g_topi (fun y23863 ey23863 => ?_)
              have hy23863 : y23863.toInt = x23133.toInt + z1.toInt := i32_add ey23863 rfl rfl (by omega) (by omega)
              refine g_istore (lv' := [(7, .int y23863), (6, .int x23133), (5, .int x23134), (4, .int x23135), (3, .int x23136), (0, .ref (r 0)), (1, .int z1), (2, .int z2)]) hk dX12_pair_67 (by decide) rfl ?_
              have lp23933 : ∀ (n23934 : Nat) (x23864 : Int32) (x23866 : Int32) (x23867 : Int32) (x23868 : Int32) (I23872 : Nat → Int32) (A23872 : Nat → Nat → Int32) (L23872 : Nat → Nat → Int64), (Md [18, 19, 20] I23140 I23872) → (Md [19, 20, 21] A23140 A23872) → (IvM I23872 A23872) → (2 ≤ x23864.toInt) → (x23864.toInt ≤ 175) → ((-2) ≤ x23867.toInt) → (x23867.toInt ≤ 159) → ((-2) ≤ x23868.toInt) → (x23868.toInt ≤ 159) → (161 - x23864.toInt < (n23934 : Int)) → (0 < n23934) → GW κ 9 0 0 (wM r g I23872 A23872 L23872) 69 [(7, .int x23864), (6, .int x23133), (5, .int x23866), (4, .int x23867), (3, .int x23868), (0, .ref (r 0)), (1, .int z1), (2, .int z2)] [] := by
                intro n23934
                induction n23934 with
                | zero =>
                  intro x23864 x23866 x23867 x23868 I23872 A23872 L23872 hI23872 hA23872 hV23872 h23927 h23928 h23929 h23930 h23931 h23932 m23935 m23935z
                  exact absurd m23935z (Nat.lt_irrefl 0)
                | succ n23934 ih23936 =>
                  intro x23864 x23866 x23867 x23868 I23872 A23872 L23872 hI23872 hA23872 hV23872 h23927 h23928 h23929 h23930 h23931 h23932 m23935 m23935z
                  refine g_iload hk dX12_pair_69 rfl ?_
                  refine g_aload_n hk dX12_pair_71 rfl ?_
                  refine gM_r0_35 hk hin12 (List.mem_cons_of_mem _ (List.mem_append_left _ (List.mem_of_getElem? (i := 6) rfl))) dX12_pair_72 ?_
                  refine g_iconst (v := 0) hk dX12_pair_75 (by decide) ?_
                  refine lM_17 (v := (A 17 0)) hk (vp_in_iff.mpr ⟨by decide, by decide⟩) ((congrFun (hA23872 17 rfl) _).trans ((congrFun (hA23140 17 rfl) _).trans (congrFun (hA23128 17 rfl) _))) dX12_pair_76 ?_
                  refine g_icmp_ge (tgt := 142) (a := x23864.toInt) (b := (A 17 0).toInt) hk dX12_pair_77 (by decide) rfl rfl (fun c23937 => ?_) (fun c23937 => ?_)
                  · skip
                    obtain ⟨y23938, ey23938⟩ : ∃ y : Int32, y = x23133 + Int32.ofInt 1 := ⟨_, rfl⟩
                    have hy23938 : y23938.toInt = x23133.toInt + 1 := i32_add ey23938 rfl (by decide) (by omega) (by omega)
                    refine g_iinc (v := y23938) (lv' := [(6, .int y23938), (7, .int x23864), (5, .int x23866), (4, .int x23867), (3, .int x23868), (0, .ref (r 0)), (1, .int z1), (2, .int z2)]) hk 1 dX12_pair_142 rfl ey23938.symm (by decide) rfl ?_
                    refine g_goto (tgt := 39) hk dX12_pair_145 (by decide) ?_
                    have b23939l := Int32.le_toInt x23866
                    have b23939h := Int32.toInt_lt x23866
                    exact g_lv (List.forall_mem_cons.mpr ⟨List.mem_of_getElem? (i := 0) rfl, (List.forall_mem_cons.mpr ⟨List.mem_of_getElem? (i := 2) rfl, (List.forall_mem_cons.mpr ⟨List.mem_of_getElem? (i := 3) rfl, (List.forall_mem_cons.mpr ⟨List.mem_of_getElem? (i := 4) rfl, (List.forall_mem_cons.mpr ⟨List.mem_of_getElem? (i := 5) rfl, (List.forall_mem_cons.mpr ⟨List.mem_of_getElem? (i := 6) rfl, (List.forall_mem_cons.mpr ⟨List.mem_of_getElem? (i := 7) rfl, (fun _ h => absurd h List.not_mem_nil)⟩)⟩)⟩)⟩)⟩)⟩)⟩) (ih23847 y23938 x23866 x23867 x23868 I23872 A23872 L23872 (show Md [18, 19, 20] I23128 I23872 from Md.tr hI23140 (show Md [18, 19, 20] I23140 I23872 from (Md.tr Md.rf hI23872 rfl)) rfl) (show Md [19, 20, 21] A23128 A23872 from Md.tr hA23140 (show Md [19, 20, 21] A23140 A23872 from (Md.tr Md.rf hA23872 rfl)) rfl) hV23872 (by omega) (by omega) (by omega) (by omega) (by omega) (by omega) (by omega) (by omega))
                  · skip
                    refine g_aload_n hk dX12_pair_80 rfl ?_
                    refine g_iload hk dX12_pair_81 rfl ?_
                    refine g_iload_n hk dX12_pair_83 rfl ?_
                    refine g_callV (n := 2) hk (j160_X12_isWindow l D zt r g I23872 A23872 L23872 x23864 z1 hV23872) (SP.same _) (fun _ h => h) (gi_V (List.mem_cons_of_mem _ (List.mem_append_left _ (List.mem_of_getElem? (i := 7) rfl))) (List.mem_cons_of_mem _ (List.mem_append_left _ (List.mem_of_getElem? (i := 8) rfl))) (List.mem_cons_of_mem _ (List.mem_append_left _ (List.mem_of_getElem? (i := 9) rfl))) (List.mem_cons_of_mem _ (List.mem_append_left _ (List.mem_of_getElem? (i := 2) rfl))) (gi_sub (fun w h => (List.mem_cons_of_mem _ (List.mem_append_right _ (List.mem_append_right _ (List.mem_append_right _ (List.mem_append_right _ (List.mem_append_left _ h))))))) zg_j160_X12_isWindow)) rfl rfl rfl (by decide +kernel) ⟨Nat.le_of_ble_eq_true rfl, Nat.le_of_ble_eq_true rfl⟩ 0 rfl rfl rfl rfl (Nat.le_of_ble_eq_true rfl) ⟨Nat.le_of_ble_eq_true rfl, Nat.le_of_ble_eq_true rfl⟩ dX12_pair_84 (fun v ty' w' hp hk' => ?_)
                    rcases hp with ⟨rfl, rfl⟩ | ⟨c23941, c23942, c23943, c23944, c23945, c23946, c23947, rfl, rfl⟩
                    · skip
                      show GW κ 9 0 0 (wM r g I23872 A23872 L23872) 87 [(7, .int x23864), (6, .int x23133), (5, .int x23866), (4, .int x23867), (3, .int x23868), (0, .ref (r 0)), (1, .int z1), (2, .int z2)] [.int 0]
                      refine g_if_ne (tgt := 93) (a := 0) hk dX12_pair_87 (by decide) rfl (fun z9 => absurd z9 (show ¬ ((0 : Int) ≠ (0 : Int)) from by decide)) (fun _ => ?_)
                      refine g_goto (tgt := 136) hk dX12_pair_90 (by decide) ?_
                      obtain ⟨y23949, ey23949⟩ : ∃ y : Int32, y = x23864 + Int32.ofInt 1 := ⟨_, rfl⟩
                      have hy23949 : y23949.toInt = x23864.toInt + 1 := i32_add ey23949 rfl (by decide) (by omega) (by omega)
                      refine g_iinc (v := y23949) (lv' := [(7, .int y23949), (6, .int x23133), (5, .int x23866), (4, .int x23867), (3, .int x23868), (0, .ref (r 0)), (1, .int z1), (2, .int z2)]) hk 0 dX12_pair_136 rfl ey23949.symm (by decide) rfl ?_
                      refine g_goto (tgt := 69) hk dX12_pair_139 (by decide) ?_
                      have b23950l := Int32.le_toInt x23866
                      have b23950h := Int32.toInt_lt x23866
                      exact g_lv (List.forall_mem_cons.mpr ⟨List.mem_of_getElem? (i := 0) rfl, (List.forall_mem_cons.mpr ⟨List.mem_of_getElem? (i := 1) rfl, (List.forall_mem_cons.mpr ⟨List.mem_of_getElem? (i := 2) rfl, (List.forall_mem_cons.mpr ⟨List.mem_of_getElem? (i := 3) rfl, (List.forall_mem_cons.mpr ⟨List.mem_of_getElem? (i := 4) rfl, (List.forall_mem_cons.mpr ⟨List.mem_of_getElem? (i := 5) rfl, (List.forall_mem_cons.mpr ⟨List.mem_of_getElem? (i := 6) rfl, (List.forall_mem_cons.mpr ⟨List.mem_of_getElem? (i := 7) rfl, (fun _ h => absurd h List.not_mem_nil)⟩)⟩)⟩)⟩)⟩)⟩)⟩)⟩) (ih23936 y23949 x23866 x23867 x23868 I23872 A23872 L23872 (show Md [18, 19, 20] I23140 I23872 from Md.tr hI23872 (show Md [18, 19, 20] I23872 I23872 from Md.rf) rfl) (show Md [19, 20, 21] A23140 A23872 from Md.tr hA23872 (show Md [19, 20, 21] A23872 A23872 from Md.rf) rfl) hV23872 (by omega) (by omega) (by omega) (by omega) (by omega) (by omega) (by omega) (by omega))
                    · skip
                      show GW κ 9 0 0 (wM r g I23872 A23872 L23872) 87 [(7, .int x23864), (6, .int x23133), (5, .int x23866), (4, .int x23867), (3, .int x23868), (0, .ref (r 0)), (1, .int z1), (2, .int z2)] [.int 1]
                      refine g_if_ne (tgt := 93) (a := 1) hk dX12_pair_87 (by decide) rfl (fun _ => ?_) (fun z9 => absurd (show (1 : Int) ≠ (0 : Int) from by decide) z9)
                      refine g_aload_n hk dX12_pair_93 rfl ?_
                      refine g_iload hk dX12_pair_94 rfl ?_
                      refine g_iload hk dX12_pair_96 rfl ?_
                      refine g_iload_n hk dX12_pair_98 rfl ?_
                      refine g_callV (n := 3) hk (j200_X12_laysWindows l D zt r g I23872 A23872 L23872 x23133 x23864 z1 hV23872 (by omega) (by omega) (by omega) (by omega) (by omega) (by omega) (by omega) (by omega)) (SP.same _) (fun _ h => h) (gi_V (List.mem_cons_of_mem _ (List.mem_append_left _ (List.mem_of_getElem? (i := 10) rfl))) (List.mem_cons_of_mem _ (List.mem_append_left _ (List.mem_of_getElem? (i := 11) rfl))) (List.mem_cons_of_mem _ (List.mem_append_left _ (List.mem_of_getElem? (i := 12) rfl))) (List.mem_cons_of_mem _ (List.mem_append_left _ (List.mem_of_getElem? (i := 2) rfl))) (gi_sub (fun w h => (List.mem_cons_of_mem _ (List.mem_append_right _ (List.mem_append_right _ (List.mem_append_right _ (List.mem_append_right _ (List.mem_append_right _ (List.mem_append_left _ h)))))))) zg_j200_X12_laysWindows)) rfl rfl rfl (by decide +kernel) ⟨Nat.le_of_ble_eq_true rfl, Nat.le_of_ble_eq_true rfl⟩ 0 rfl rfl rfl rfl (Nat.le_of_ble_eq_true rfl) ⟨Nat.le_of_ble_eq_true rfl, Nat.le_of_ble_eq_true rfl⟩ dX12_pair_99 (fun v ty' w' hp hk' => ?_)
                      obtain ⟨I23952, A23952, L23952, hI23952, hA23952, hV23952, r23953, rfl, rfl⟩ := hp
                      have f23954 := IvM_f18 hV23952
                      show GW κ 9 0 0 (wM r g I23952 A23952 L23952) 102 [(7, .int x23864), (6, .int x23133), (5, .int x23866), (4, .int x23867), (3, .int x23868), (0, .ref (r 0)), (1, .int z1), (2, .int z2)] []
                      refine g_aload_n hk dX12_pair_102 rfl ?_
                      refine g_ldcw (v := 2000000000) hk (List.mem_cons_of_mem _ (List.mem_append_left _ (List.mem_of_getElem? (i := 13) rfl))) dX12_pair_103 ?_
                      have k23955 : (2000000000 : Int32).toInt = 2000000000 := rfl
                      refine g_callV (n := 1) hk (j173_X12_laysTable l D zt r g I23952 A23952 L23952 2000000000 hV23952) (SP.same _) (fun _ h => h) (gi_V (List.mem_cons_of_mem _ (List.mem_append_left _ (List.mem_of_getElem? (i := 14) rfl))) (List.mem_cons_of_mem _ (List.mem_append_left _ (List.mem_of_getElem? (i := 15) rfl))) (List.mem_cons_of_mem _ (List.mem_append_left _ (List.mem_of_getElem? (i := 16) rfl))) (List.mem_cons_of_mem _ (List.mem_append_left _ (List.mem_of_getElem? (i := 2) rfl))) (gi_sub (fun w h => (List.mem_cons_of_mem _ (List.mem_append_right _ (List.mem_append_right _ (List.mem_append_right _ (List.mem_append_right _ (List.mem_append_right _ (List.mem_append_right _ (List.mem_append_left _ h))))))))) zg_j173_X12_laysTable)) rfl rfl rfl (by decide +kernel) ⟨Nat.le_of_ble_eq_true rfl, Nat.le_of_ble_eq_true rfl⟩ 0 rfl rfl rfl rfl (Nat.le_of_ble_eq_true rfl) ⟨Nat.le_of_ble_eq_true rfl, Nat.le_of_ble_eq_true rfl⟩ dX12_pair_106 (fun v ty' w' hp hk' => ?_)
                      obtain ⟨I23957, A23957, L23957, hI23957, hA23957, hV23957, y23956, rfl, rfl⟩ := hp
                      show GW κ 9 0 0 (wM r g I23957 A23957 L23957) 109 [(7, .int x23864), (6, .int x23133), (5, .int x23866), (4, .int x23867), (3, .int x23868), (0, .ref (r 0)), (1, .int z1), (2, .int z2)] [.int y23956]
                      refine g_istore (lv' := [(8, .int y23956), (7, .int x23864), (6, .int x23133), (5, .int x23866), (4, .int x23867), (3, .int x23868), (0, .ref (r 0)), (1, .int z1), (2, .int z2)]) hk dX12_pair_109 (by decide) rfl ?_
                      refine g_iload_n hk dX12_pair_111 rfl ?_
                      refine g_if_lt (tgt := 125) (a := x23868.toInt) hk dX12_pair_112 (by decide) rfl (fun c23958 => ?_) (fun c23958 => ?_)
                      · skip
                        refine g_iload hk dX12_pair_125 rfl ?_
                        refine g_istore_n (lv' := [(3, .int x23133), (8, .int y23956), (7, .int x23864), (6, .int x23133), (5, .int x23866), (4, .int x23867), (0, .ref (r 0)), (1, .int z1), (2, .int z2)]) hk dX12_pair_127 (by decide) rfl ?_
                        refine g_iload hk dX12_pair_128 rfl ?_
                        refine g_istore (lv' := [(4, .int x23864), (3, .int x23133), (8, .int y23956), (7, .int x23864), (6, .int x23133), (5, .int x23866), (0, .ref (r 0)), (1, .int z1), (2, .int z2)]) hk dX12_pair_130 (by decide) rfl ?_
                        refine g_iload hk dX12_pair_132 rfl ?_
                        refine g_istore (lv' := [(5, .int y23956), (4, .int x23864), (3, .int x23133), (8, .int y23956), (7, .int x23864), (6, .int x23133), (0, .ref (r 0)), (1, .int z1), (2, .int z2)]) hk dX12_pair_134 (by decide) rfl ?_
                        obtain ⟨y23959, ey23959⟩ : ∃ y : Int32, y = x23864 + Int32.ofInt 1 := ⟨_, rfl⟩
                        have hy23959 : y23959.toInt = x23864.toInt + 1 := i32_add ey23959 rfl (by decide) (by omega) (by omega)
                        refine g_iinc (v := y23959) (lv' := [(7, .int y23959), (5, .int y23956), (4, .int x23864), (3, .int x23133), (8, .int y23956), (6, .int x23133), (0, .ref (r 0)), (1, .int z1), (2, .int z2)]) hk 4 dX12_pair_136 rfl ey23959.symm (by decide) rfl ?_
                        refine g_goto (tgt := 69) hk dX12_pair_139 (by decide) ?_
                        have b23960l := Int32.le_toInt y23956
                        have b23960h := Int32.toInt_lt y23956
                        exact g_lv (List.forall_mem_cons.mpr ⟨List.mem_of_getElem? (i := 0) rfl, (List.forall_mem_cons.mpr ⟨List.mem_of_getElem? (i := 5) rfl, (List.forall_mem_cons.mpr ⟨List.mem_of_getElem? (i := 1) rfl, (List.forall_mem_cons.mpr ⟨List.mem_of_getElem? (i := 2) rfl, (List.forall_mem_cons.mpr ⟨List.mem_of_getElem? (i := 3) rfl, (List.forall_mem_cons.mpr ⟨List.mem_of_getElem? (i := 6) rfl, (List.forall_mem_cons.mpr ⟨List.mem_of_getElem? (i := 7) rfl, (List.forall_mem_cons.mpr ⟨List.mem_of_getElem? (i := 8) rfl, (fun _ h => absurd h List.not_mem_nil)⟩)⟩)⟩)⟩)⟩)⟩)⟩)⟩) (ih23936 y23959 y23956 x23864 x23133 I23957 A23957 L23957 (show Md [18, 19, 20] I23140 I23957 from Md.tr hI23872 (show Md [18, 19, 20] I23872 I23957 from (Md.tr (Md.tr Md.rf hI23952 rfl) hI23957 rfl)) rfl) (show Md [19, 20, 21] A23140 A23957 from Md.tr hA23872 (show Md [19, 20, 21] A23872 A23957 from (Md.tr (Md.tr Md.rf hA23952 rfl) hA23957 rfl)) rfl) hV23957 (by omega) (by omega) (by omega) (by omega) (by omega) (by omega) (by omega) (by omega))
                      · skip
                        refine g_iload hk dX12_pair_115 rfl ?_
                        refine g_iload hk dX12_pair_117 rfl ?_
                        have b23961l := Int32.le_toInt y23956
                        have b23961h := Int32.toInt_lt y23956
                        have b23962l := Int32.le_toInt x23866
                        have b23962h := Int32.toInt_lt x23866
                        refine g_icmp_lt (tgt := 125) (a := y23956.toInt) (b := x23866.toInt) hk dX12_pair_119 (by decide) rfl rfl (fun c23963 => ?_) (fun c23963 => ?_)
                        · skip
                          refine g_iload hk dX12_pair_125 rfl ?_
                          refine g_istore_n (lv' := [(3, .int x23133), (8, .int y23956), (7, .int x23864), (6, .int x23133), (5, .int x23866), (4, .int x23867), (0, .ref (r 0)), (1, .int z1), (2, .int z2)]) hk dX12_pair_127 (by decide) rfl ?_
                          refine g_iload hk dX12_pair_128 rfl ?_
                          refine g_istore (lv' := [(4, .int x23864), (3, .int x23133), (8, .int y23956), (7, .int x23864), (6, .int x23133), (5, .int x23866), (0, .ref (r 0)), (1, .int z1), (2, .int z2)]) hk dX12_pair_130 (by decide) rfl ?_
                          refine g_iload hk dX12_pair_132 rfl ?_
                          refine g_istore (lv' := [(5, .int y23956), (4, .int x23864), (3, .int x23133), (8, .int y23956), (7, .int x23864), (6, .int x23133), (0, .ref (r 0)), (1, .int z1), (2, .int z2)]) hk dX12_pair_134 (by decide) rfl ?_
                          obtain ⟨y23964, ey23964⟩ : ∃ y : Int32, y = x23864 + Int32.ofInt 1 := ⟨_, rfl⟩
                          have hy23964 : y23964.toInt = x23864.toInt + 1 := i32_add ey23964 rfl (by decide) (by omega) (by omega)
                          refine g_iinc (v := y23964) (lv' := [(7, .int y23964), (5, .int y23956), (4, .int x23864), (3, .int x23133), (8, .int y23956), (6, .int x23133), (0, .ref (r 0)), (1, .int z1), (2, .int z2)]) hk 4 dX12_pair_136 rfl ey23964.symm (by decide) rfl ?_
                          refine g_goto (tgt := 69) hk dX12_pair_139 (by decide) ?_
                          exact g_lv (List.forall_mem_cons.mpr ⟨List.mem_of_getElem? (i := 0) rfl, (List.forall_mem_cons.mpr ⟨List.mem_of_getElem? (i := 5) rfl, (List.forall_mem_cons.mpr ⟨List.mem_of_getElem? (i := 1) rfl, (List.forall_mem_cons.mpr ⟨List.mem_of_getElem? (i := 2) rfl, (List.forall_mem_cons.mpr ⟨List.mem_of_getElem? (i := 3) rfl, (List.forall_mem_cons.mpr ⟨List.mem_of_getElem? (i := 6) rfl, (List.forall_mem_cons.mpr ⟨List.mem_of_getElem? (i := 7) rfl, (List.forall_mem_cons.mpr ⟨List.mem_of_getElem? (i := 8) rfl, (fun _ h => absurd h List.not_mem_nil)⟩)⟩)⟩)⟩)⟩)⟩)⟩)⟩) (ih23936 y23964 y23956 x23864 x23133 I23957 A23957 L23957 (show Md [18, 19, 20] I23140 I23957 from Md.tr hI23872 (show Md [18, 19, 20] I23872 I23957 from (Md.tr (Md.tr Md.rf hI23952 rfl) hI23957 rfl)) rfl) (show Md [19, 20, 21] A23140 A23957 from Md.tr hA23872 (show Md [19, 20, 21] A23872 A23957 from (Md.tr (Md.tr Md.rf hA23952 rfl) hA23957 rfl)) rfl) hV23957 (by omega) (by omega) (by omega) (by omega) (by omega) (by omega) (by omega) (by omega))
                        · skip
                          refine g_goto (tgt := 136) hk dX12_pair_122 (by decide) ?_
                          obtain ⟨y23965, ey23965⟩ : ∃ y : Int32, y = x23864 + Int32.ofInt 1 := ⟨_, rfl⟩
                          have hy23965 : y23965.toInt = x23864.toInt + 1 := i32_add ey23965 rfl (by decide) (by omega) (by omega)
                          refine g_iinc (v := y23965) (lv' := [(7, .int y23965), (8, .int y23956), (6, .int x23133), (5, .int x23866), (4, .int x23867), (3, .int x23868), (0, .ref (r 0)), (1, .int z1), (2, .int z2)]) hk 1 dX12_pair_136 rfl ey23965.symm (by decide) rfl ?_
                          refine g_goto (tgt := 69) hk dX12_pair_139 (by decide) ?_
                          exact g_lv (List.forall_mem_cons.mpr ⟨List.mem_of_getElem? (i := 0) rfl, (List.forall_mem_cons.mpr ⟨List.mem_of_getElem? (i := 2) rfl, (List.forall_mem_cons.mpr ⟨List.mem_of_getElem? (i := 3) rfl, (List.forall_mem_cons.mpr ⟨List.mem_of_getElem? (i := 4) rfl, (List.forall_mem_cons.mpr ⟨List.mem_of_getElem? (i := 5) rfl, (List.forall_mem_cons.mpr ⟨List.mem_of_getElem? (i := 6) rfl, (List.forall_mem_cons.mpr ⟨List.mem_of_getElem? (i := 7) rfl, (List.forall_mem_cons.mpr ⟨List.mem_of_getElem? (i := 8) rfl, (fun _ h => absurd h List.not_mem_nil)⟩)⟩)⟩)⟩)⟩)⟩)⟩)⟩) (ih23936 y23965 x23866 x23867 x23868 I23957 A23957 L23957 (show Md [18, 19, 20] I23140 I23957 from Md.tr hI23872 (show Md [18, 19, 20] I23872 I23957 from (Md.tr (Md.tr Md.rf hI23952 rfl) hI23957 rfl)) rfl) (show Md [19, 20, 21] A23140 A23957 from Md.tr hA23872 (show Md [19, 20, 21] A23872 A23957 from (Md.tr (Md.tr Md.rf hA23952 rfl) hA23957 rfl)) rfl) hV23957 (by omega) (by omega) (by omega) (by omega) (by omega) (by omega) (by omega) (by omega))
              have b23966l := Int32.le_toInt x23134
              have b23966h := Int32.toInt_lt x23134
              obtain ⟨n23967, n23967a, n23967b⟩ : ∃ n : Nat, 161 - y23863.toInt < (n : Int) ∧ 0 < n := ⟨((161 - y23863.toInt : Int)).toNat + 1, by omega, by omega⟩
              exact lp23933 n23967 y23863 x23134 x23135 x23136 I23140 A23140 L23140 Md.rf Md.rf hV23140 (by omega) (by omega) (by omega) (by omega) (by omega) (by omega) n23967a n23967b
      have k23968 : ((-2) : Int32).toInt = (-2) := rfl
      obtain ⟨n23969, n23969a, n23969b⟩ : ∃ n : Nat, 161 - (0 : Int32).toInt < (n : Int) ∧ 0 < n := ⟨((161 - (0 : Int32).toInt : Int)).toNat + 1, by omega, by omega⟩
      exact lp23844 n23969 0 (-2) (-2) (-2) I23128 A23128 L23128 Md.rf Md.rf hV23128 (by omega) (by omega) (by omega) (by omega) (by omega) (by omega) n23969a n23969b
def wo_j202_X12_odd : List Cond := [Cond.methodLink RX12 244 yX12_in, Cond.static yX12_in, Cond.initialized RX12, Cond.methodLink RX12 323 yX12_copies, Cond.instanceMethod yX12_copies, Cond.selects RX12 yX12_copies yX12_copies, Cond.fieldLink RX12 70 "WarpDeskModel" "now" "[I", Cond.methodLink RX12 257 yX12_isWindow, Cond.instanceMethod yX12_isWindow, Cond.selects RX12 yX12_isWindow yX12_isWindow, Cond.methodLink RX12 388 yX12_nearOf, Cond.instanceMethod yX12_nearOf, Cond.selects RX12 yX12_nearOf yX12_nearOf, Cond.fieldLink RX12 381 "WarpDeskModel" "nearFar" "I"]
def wz_j202_X12_odd : List Cond := .code yX12_odd cX12_odd 6 (some .int) :: (wo_j202_X12_odd ++ (wsX120 ++ (wz_j145_X12_in ++ (wz_j151_X12_copies ++ (wz_j160_X12_isWindow ++ (wz_j199_X12_nearOf ++ ([] : List Cond)))))))
theorem zg_j202_X12_odd : ∀ w ∈ wz_j202_X12_odd, goodWord w = true := zg_cons rfl (zg_app (by decide +kernel) (zg_app zgU_wsX120 (zg_app zg_j145_X12_in (zg_app zg_j151_X12_copies (zg_app zg_j160_X12_isWindow (zg_app zg_j199_X12_nearOf zg_nil))))))
theorem zi_j202_X12_odd : ∀ w ∈ wz_j202_X12_odd, w ∈ lw_tbl := zi_cons zw_1934 (zi_app (zi_cons zw_1656 (zi_cons zw_1657 (zi_cons zw_115 (zi_cons zw_1679 (zi_cons zw_1681 (zi_cons zw_70 (zi_cons zw_1413 (zi_cons zw_1714 (zi_cons zw_1716 (zi_cons zw_72 (zi_cons zw_1919 (zi_cons zw_1921 (zi_cons zw_99 (zi_cons zw_1430 zi_nil)))))))))))))) (zi_app inX12 (zi_app zi_j145_X12_in (zi_app zi_j151_X12_copies (zi_app zi_j160_X12_isWindow (zi_app zi_j199_X12_nearOf zi_nil))))))
set_option maxHeartbeats 4000000 in
set_option maxRecDepth 100000 in
theorem j202_X12_odd (l : Launch) (D : va_G) (zt : Nat × Nat × Nat × (Nat → Nat) × (Nat → Nat)) (r : Nat → Nat) (g : Nat → ClassId) (I : Nat → Int32) (A : Nat → Nat → Int32) (L : Nat → Nat → Int64) (z1 : Int32) (z2 : Int32) (hIv : IvM I A) : GM l D zt (tyM g) yX12_odd wz_j202_X12_odd ({ frames := 6, cells := 0, slots := 0, locals := 137 } : Room) [.ref (r 0), .int z1, .int z2] (wM r g I A L) (fun v _ w' => ∃ (I' : Nat → Int32) (A' : Nat → Nat → Int32) (L' : Nat → Nat → Int64), Md [18, 19, 20, 25] I I' ∧ Md [18, 19, 20, 21] A A' ∧ IvM I' A' ∧ ∃ y0 : Int32, ((-2) ≤ y0.toInt) ∧ v = some (.int y0) ∧ w' = wM r g I' A' L') 0 0 := by
  refine GM.of (cc := cX12_odd) (maxL := 6) (ret := (some .int)) (own := RX12) (lv := [(0, .ref (r 0)), (1, .int z1), (2, .int z2)]) (by decide) rfl rfl (Nat.le_of_ble_eq_true rfl) rfl (fun κ sz hk hR hN => ?_)
  have hin12 : ∀ w ∈ u_ws RX12 TX12 55, w ∈ wz_j202_X12_odd := fun w h => (List.mem_cons_of_mem _ (List.mem_append_right _ (List.mem_append_left _ h)))
  refine g_iload_n hk dX12_odd_0 rfl ?_
  refine g_iconst (v := 2) hk dX12_odd_1 (by decide) ?_
  refine g_bipush (v := 16) hk dX12_odd_2 (by decide) ?_
  have k23970 : (2 : Int32).toInt = 2 := rfl
  have k23971 : (16 : Int32).toInt = 16 := rfl
  refine g_callS (n := 3) hk (j145_X12_in l D zt r g I A L z1 2 16 hIv) (SP.same _) (fun _ h => h) (gi_S (List.mem_cons_of_mem _ (List.mem_append_left _ (List.mem_of_getElem? (i := 0) rfl))) (List.mem_cons_of_mem _ (List.mem_append_left _ (List.mem_of_getElem? (i := 1) rfl))) (List.mem_cons_of_mem _ (List.mem_append_left _ (List.mem_of_getElem? (i := 2) rfl))) (gi_sub (fun w h => (List.mem_cons_of_mem _ (List.mem_append_right _ (List.mem_append_right _ (List.mem_append_left _ h))))) zg_j145_X12_in)) rfl rfl rfl (by decide +kernel) ⟨Nat.le_of_ble_eq_true rfl, Nat.le_of_ble_eq_true rfl⟩ rfl rfl (Nat.le_of_ble_eq_true rfl) ⟨Nat.le_of_ble_eq_true rfl, Nat.le_of_ble_eq_true rfl⟩ dX12_odd_4 (fun v ty' w' hp hk' => ?_)
  rcases hp with ⟨c23972, rfl, rfl⟩ | ⟨c23974, c23975, rfl, rfl⟩
  · skip
    have b23977l := Int32.le_toInt z1
    have b23977h := Int32.toInt_lt z1
    show GW κ 6 0 0 (wM r g I A L) 7 [(0, .ref (r 0)), (1, .int z1), (2, .int z2)] [.int 0]
    refine g_if_eq (tgt := 19) (a := 0) hk dX12_odd_7 (by decide) rfl (fun _ => ?_) (fun z9 => absurd (show (0 : Int) = (0 : Int) from by decide) z9)
    refine g_iconst (v := (-1)) hk dX12_odd_19 (by decide) ?_
    exact g_iret hk hR rfl ⟨I, A, L, (show Md [18, 19, 20, 25] I I from Md.rf), (show Md [18, 19, 20, 21] A A from Md.rf), hIv, (-1), (by decide), rfl, rfl⟩ dX12_odd_20
  · skip
    show GW κ 6 0 0 (wM r g I A L) 7 [(0, .ref (r 0)), (1, .int z1), (2, .int z2)] [.int 1]
    refine g_if_eq (tgt := 19) (a := 1) hk dX12_odd_7 (by decide) rfl (fun z9 => absurd z9 (show ¬ ((1 : Int) = (0 : Int)) from by decide)) (fun _ => ?_)
    refine g_iload_n hk dX12_odd_10 rfl ?_
    refine g_iconst (v := 0) hk dX12_odd_11 (by decide) ?_
    refine g_iconst (v := 1) hk dX12_odd_12 (by decide) ?_
    have k23978 : (0 : Int32).toInt = 0 := rfl
    have k23979 : (1 : Int32).toInt = 1 := rfl
    refine g_callS (n := 3) hk (j145_X12_in l D zt r g I A L z2 0 1 hIv) (SP.same _) (fun _ h => h) (gi_S (List.mem_cons_of_mem _ (List.mem_append_left _ (List.mem_of_getElem? (i := 0) rfl))) (List.mem_cons_of_mem _ (List.mem_append_left _ (List.mem_of_getElem? (i := 1) rfl))) (List.mem_cons_of_mem _ (List.mem_append_left _ (List.mem_of_getElem? (i := 2) rfl))) (gi_sub (fun w h => (List.mem_cons_of_mem _ (List.mem_append_right _ (List.mem_append_right _ (List.mem_append_left _ h))))) zg_j145_X12_in)) rfl rfl rfl (by decide +kernel) ⟨Nat.le_of_ble_eq_true rfl, Nat.le_of_ble_eq_true rfl⟩ rfl rfl (Nat.le_of_ble_eq_true rfl) ⟨Nat.le_of_ble_eq_true rfl, Nat.le_of_ble_eq_true rfl⟩ dX12_odd_13 (fun v ty' w' hp hk' => ?_)
    rcases hp with ⟨c23980, rfl, rfl⟩ | ⟨c23982, c23983, rfl, rfl⟩
    · skip
      have b23985l := Int32.le_toInt z2
      have b23985h := Int32.toInt_lt z2
      show GW κ 6 0 0 (wM r g I A L) 16 [(0, .ref (r 0)), (1, .int z1), (2, .int z2)] [.int 0]
      refine g_if_ne (tgt := 21) (a := 0) hk dX12_odd_16 (by decide) rfl (fun z9 => absurd z9 (show ¬ ((0 : Int) ≠ (0 : Int)) from by decide)) (fun _ => ?_)
      refine g_iconst (v := (-1)) hk dX12_odd_19 (by decide) ?_
      exact g_iret hk hR rfl ⟨I, A, L, (show Md [18, 19, 20, 25] I I from Md.rf), (show Md [18, 19, 20, 21] A A from Md.rf), hIv, (-1), (by decide), rfl, rfl⟩ dX12_odd_20
    · skip
      show GW κ 6 0 0 (wM r g I A L) 16 [(0, .ref (r 0)), (1, .int z1), (2, .int z2)] [.int 1]
      refine g_if_ne (tgt := 21) (a := 1) hk dX12_odd_16 (by decide) rfl (fun _ => ?_) (fun z9 => absurd (show (1 : Int) ≠ (0 : Int) from by decide) z9)
      refine g_aload_n hk dX12_odd_21 rfl ?_
      refine g_callV (n := 0) hk (j151_X12_copies l D zt r g I A L  hIv) (SP.same _) (fun _ h => h) (gi_V (List.mem_cons_of_mem _ (List.mem_append_left _ (List.mem_of_getElem? (i := 3) rfl))) (List.mem_cons_of_mem _ (List.mem_append_left _ (List.mem_of_getElem? (i := 4) rfl))) (List.mem_cons_of_mem _ (List.mem_append_left _ (List.mem_of_getElem? (i := 5) rfl))) (List.mem_cons_of_mem _ (List.mem_append_left _ (List.mem_of_getElem? (i := 2) rfl))) (gi_sub (fun w h => (List.mem_cons_of_mem _ (List.mem_append_right _ (List.mem_append_right _ (List.mem_append_right _ (List.mem_append_left _ h)))))) zg_j151_X12_copies)) rfl rfl rfl (by decide +kernel) ⟨Nat.le_of_ble_eq_true rfl, Nat.le_of_ble_eq_true rfl⟩ 0 rfl rfl rfl rfl (Nat.le_of_ble_eq_true rfl) ⟨Nat.le_of_ble_eq_true rfl, Nat.le_of_ble_eq_true rfl⟩ dX12_odd_22 (fun v ty' w' hp hk' => ?_)
      obtain ⟨I23987, A23987, L23987, hI23987, hA23987, hV23987, r23988, r23989, rfl, rfl⟩ := hp
      have f23990 := IvM_s17_0 hIv
      have f23991 := IvM_s17_164 hIv
      show GW κ 6 0 0 (wM r g I23987 A23987 L23987) 25 [(0, .ref (r 0)), (1, .int z1), (2, .int z2)] []
      refine g_bipush (v := (-2)) hk dX12_odd_25 (by decide) ?_
      refine g_istore_n (lv' := [(3, .int (-2)), (0, .ref (r 0)), (1, .int z1), (2, .int z2)]) hk dX12_odd_27 (by decide) rfl ?_
      refine g_bipush (v := (-2)) hk dX12_odd_28 (by decide) ?_
      refine g_istore (lv' := [(4, .int (-2)), (3, .int (-2)), (0, .ref (r 0)), (1, .int z1), (2, .int z2)]) hk dX12_odd_30 (by decide) rfl ?_
      refine g_iconst (v := 0) hk dX12_odd_32 (by decide) ?_
      refine g_istore (lv' := [(5, .int 0), (4, .int (-2)), (3, .int (-2)), (0, .ref (r 0)), (1, .int z1), (2, .int z2)]) hk dX12_odd_33 (by decide) rfl ?_
      have lp24116 : ∀ (n24117 : Nat) (x23992 : Int32) (x23993 : Int32) (x23994 : Int32) (I23998 : Nat → Int32) (A23998 : Nat → Nat → Int32) (L23998 : Nat → Nat → Int64), (Md [18, 19, 20, 25] I23987 I23998) → (Md [19, 20, 21] A23987 A23998) → (IvM I23998 A23998) → (0 ≤ x23992.toInt) → (x23992.toInt ≤ 160) → ((-2) ≤ x23993.toInt) → ((-2) ≤ x23994.toInt) → (x23994.toInt ≤ 159) → (161 - x23992.toInt < (n24117 : Int)) → (0 < n24117) → GW κ 6 0 0 (wM r g I23998 A23998 L23998) 35 [(5, .int x23992), (4, .int x23993), (3, .int x23994), (0, .ref (r 0)), (1, .int z1), (2, .int z2)] [] := by
        intro n24117
        induction n24117 with
        | zero =>
          intro x23992 x23993 x23994 I23998 A23998 L23998 hI23998 hA23998 hV23998 h24111 h24112 h24113 h24114 h24115 m24118 m24118z
          exact absurd m24118z (Nat.lt_irrefl 0)
        | succ n24117 ih24119 =>
          intro x23992 x23993 x23994 I23998 A23998 L23998 hI23998 hA23998 hV23998 h24111 h24112 h24113 h24114 h24115 m24118 m24118z
          refine g_iload hk dX12_odd_35 rfl ?_
          refine g_aload_n hk dX12_odd_37 rfl ?_
          refine gM_r0_35 hk hin12 (List.mem_cons_of_mem _ (List.mem_append_left _ (List.mem_of_getElem? (i := 6) rfl))) dX12_odd_38 ?_
          refine g_iconst (v := 0) hk dX12_odd_41 (by decide) ?_
          refine lM_17 (v := (A 17 0)) hk (vp_in_iff.mpr ⟨by decide, by decide⟩) ((congrFun (hA23998 17 rfl) _).trans (congrFun (hA23987 17 rfl) _)) dX12_odd_42 ?_
          refine g_icmp_ge (tgt := 93) (a := x23992.toInt) (b := (A 17 0).toInt) hk dX12_odd_43 (by decide) rfl rfl (fun c24120 => ?_) (fun c24120 => ?_)
          · skip
            refine g_iload_n hk dX12_odd_93 rfl ?_
            refine g_if_ne (tgt := 101) (a := z2.toInt) hk dX12_odd_94 (by decide) rfl (fun c24121 => ?_) (fun c24121 => ?_)
            · skip
              refine g_iload hk dX12_odd_101 rfl ?_
              have b24122l := Int32.le_toInt x23993
              have b24122h := Int32.toInt_lt x23993
              exact g_iret hk hR rfl ⟨I23998, A23998, L23998, (show Md [18, 19, 20, 25] I I23998 from (Md.tr (Md.tr Md.rf hI23987 rfl) hI23998 rfl)), (show Md [18, 19, 20, 21] A A23998 from (Md.tr (Md.tr Md.rf hA23987 rfl) hA23998 rfl)), hV23998, x23993, (by omega), rfl, rfl⟩ dX12_odd_103
            · skip
              refine g_iload_n hk dX12_odd_97 rfl ?_
              refine g_goto (tgt := 103) hk dX12_odd_98 (by decide) ?_
              exact g_iret hk hR rfl ⟨I23998, A23998, L23998, (show Md [18, 19, 20, 25] I I23998 from (Md.tr (Md.tr Md.rf hI23987 rfl) hI23998 rfl)), (show Md [18, 19, 20, 21] A A23998 from (Md.tr (Md.tr Md.rf hA23987 rfl) hA23998 rfl)), hV23998, x23994, (by omega), rfl, rfl⟩ dX12_odd_103
          · skip
            refine g_aload_n hk dX12_odd_46 rfl ?_
            refine g_iload hk dX12_odd_47 rfl ?_
            refine g_iload_n hk dX12_odd_49 rfl ?_
            refine g_callV (n := 2) hk (j160_X12_isWindow l D zt r g I23998 A23998 L23998 x23992 z1 hV23998) (SP.same _) (fun _ h => h) (gi_V (List.mem_cons_of_mem _ (List.mem_append_left _ (List.mem_of_getElem? (i := 7) rfl))) (List.mem_cons_of_mem _ (List.mem_append_left _ (List.mem_of_getElem? (i := 8) rfl))) (List.mem_cons_of_mem _ (List.mem_append_left _ (List.mem_of_getElem? (i := 9) rfl))) (List.mem_cons_of_mem _ (List.mem_append_left _ (List.mem_of_getElem? (i := 2) rfl))) (gi_sub (fun w h => (List.mem_cons_of_mem _ (List.mem_append_right _ (List.mem_append_right _ (List.mem_append_right _ (List.mem_append_right _ (List.mem_append_left _ h))))))) zg_j160_X12_isWindow)) rfl rfl rfl (by decide +kernel) ⟨Nat.le_of_ble_eq_true rfl, Nat.le_of_ble_eq_true rfl⟩ 0 rfl rfl rfl rfl (Nat.le_of_ble_eq_true rfl) ⟨Nat.le_of_ble_eq_true rfl, Nat.le_of_ble_eq_true rfl⟩ dX12_odd_50 (fun v ty' w' hp hk' => ?_)
            rcases hp with ⟨rfl, rfl⟩ | ⟨c24124, c24125, c24126, c24127, c24128, c24129, c24130, rfl, rfl⟩
            · skip
              show GW κ 6 0 0 (wM r g I23998 A23998 L23998) 53 [(5, .int x23992), (4, .int x23993), (3, .int x23994), (0, .ref (r 0)), (1, .int z1), (2, .int z2)] [.int 0]
              refine g_if_eq (tgt := 87) (a := 0) hk dX12_odd_53 (by decide) rfl (fun _ => ?_) (fun z9 => absurd (show (0 : Int) = (0 : Int) from by decide) z9)
              obtain ⟨y24132, ey24132⟩ : ∃ y : Int32, y = x23992 + Int32.ofInt 1 := ⟨_, rfl⟩
              have hy24132 : y24132.toInt = x23992.toInt + 1 := i32_add ey24132 rfl (by decide) (by omega) (by omega)
              refine g_iinc (v := y24132) (lv' := [(5, .int y24132), (4, .int x23993), (3, .int x23994), (0, .ref (r 0)), (1, .int z1), (2, .int z2)]) hk 0 dX12_odd_87 rfl ey24132.symm (by decide) rfl ?_
              refine g_goto (tgt := 35) hk dX12_odd_90 (by decide) ?_
              have b24133l := Int32.le_toInt x23993
              have b24133h := Int32.toInt_lt x23993
              exact g_lv (List.forall_mem_cons.mpr ⟨List.mem_of_getElem? (i := 0) rfl, (List.forall_mem_cons.mpr ⟨List.mem_of_getElem? (i := 1) rfl, (List.forall_mem_cons.mpr ⟨List.mem_of_getElem? (i := 2) rfl, (List.forall_mem_cons.mpr ⟨List.mem_of_getElem? (i := 3) rfl, (List.forall_mem_cons.mpr ⟨List.mem_of_getElem? (i := 4) rfl, (List.forall_mem_cons.mpr ⟨List.mem_of_getElem? (i := 5) rfl, (fun _ h => absurd h List.not_mem_nil)⟩)⟩)⟩)⟩)⟩)⟩) (ih24119 y24132 x23993 x23994 I23998 A23998 L23998 (show Md [18, 19, 20, 25] I23987 I23998 from Md.tr hI23998 (show Md [18, 19, 20, 25] I23998 I23998 from Md.rf) rfl) (show Md [19, 20, 21] A23987 A23998 from Md.tr hA23998 (show Md [19, 20, 21] A23998 A23998 from Md.rf) rfl) hV23998 (by omega) (by omega) (by omega) (by omega) (by omega) (by omega) (by omega))
            · skip
              show GW κ 6 0 0 (wM r g I23998 A23998 L23998) 53 [(5, .int x23992), (4, .int x23993), (3, .int x23994), (0, .ref (r 0)), (1, .int z1), (2, .int z2)] [.int 1]
              refine g_if_eq (tgt := 87) (a := 1) hk dX12_odd_53 (by decide) rfl (fun z9 => absurd z9 (show ¬ ((1 : Int) = (0 : Int)) from by decide)) (fun _ => ?_)
              refine g_aload_n hk dX12_odd_56 rfl ?_
              refine g_iload hk dX12_odd_57 rfl ?_
              refine g_iload_n hk dX12_odd_59 rfl ?_
              refine g_callV (n := 2) hk (j199_X12_nearOf l D zt r g I23998 A23998 L23998 x23992 z1 hV23998 (by omega) (by omega) (by omega) (by omega) (by omega)) (SP.same _) (fun _ h => h) (gi_V (List.mem_cons_of_mem _ (List.mem_append_left _ (List.mem_of_getElem? (i := 10) rfl))) (List.mem_cons_of_mem _ (List.mem_append_left _ (List.mem_of_getElem? (i := 11) rfl))) (List.mem_cons_of_mem _ (List.mem_append_left _ (List.mem_of_getElem? (i := 12) rfl))) (List.mem_cons_of_mem _ (List.mem_append_left _ (List.mem_of_getElem? (i := 2) rfl))) (gi_sub (fun w h => (List.mem_cons_of_mem _ (List.mem_append_right _ (List.mem_append_right _ (List.mem_append_right _ (List.mem_append_right _ (List.mem_append_right _ (List.mem_append_left _ h)))))))) zg_j199_X12_nearOf)) rfl rfl rfl (by decide +kernel) ⟨Nat.le_of_ble_eq_true rfl, Nat.le_of_ble_eq_true rfl⟩ 0 rfl rfl rfl rfl (Nat.le_of_ble_eq_true rfl) ⟨Nat.le_of_ble_eq_true rfl, Nat.le_of_ble_eq_true rfl⟩ dX12_odd_60 (fun v ty' w' hp hk' => ?_)
              obtain ⟨I24137, A24137, L24137, hI24137, hA24137, hV24137, y24134, c24135, c24136, rfl, rfl⟩ := hp
              show GW κ 6 0 0 (wM r g I24137 A24137 L24137) 63 [(5, .int x23992), (4, .int x23993), (3, .int x23994), (0, .ref (r 0)), (1, .int z1), (2, .int z2)] [.int y24134]
              refine g_if_lt (tgt := 87) (a := y24134.toInt) hk dX12_odd_63 (by decide) rfl (fun c24138 => ?_) (fun c24138 => ?_)
              · skip
                obtain ⟨y24139, ey24139⟩ : ∃ y : Int32, y = x23992 + Int32.ofInt 1 := ⟨_, rfl⟩
                have hy24139 : y24139.toInt = x23992.toInt + 1 := i32_add ey24139 rfl (by decide) (by omega) (by omega)
                refine g_iinc (v := y24139) (lv' := [(5, .int y24139), (4, .int x23993), (3, .int x23994), (0, .ref (r 0)), (1, .int z1), (2, .int z2)]) hk 0 dX12_odd_87 rfl ey24139.symm (by decide) rfl ?_
                refine g_goto (tgt := 35) hk dX12_odd_90 (by decide) ?_
                have b24140l := Int32.le_toInt x23993
                have b24140h := Int32.toInt_lt x23993
                exact g_lv (List.forall_mem_cons.mpr ⟨List.mem_of_getElem? (i := 0) rfl, (List.forall_mem_cons.mpr ⟨List.mem_of_getElem? (i := 1) rfl, (List.forall_mem_cons.mpr ⟨List.mem_of_getElem? (i := 2) rfl, (List.forall_mem_cons.mpr ⟨List.mem_of_getElem? (i := 3) rfl, (List.forall_mem_cons.mpr ⟨List.mem_of_getElem? (i := 4) rfl, (List.forall_mem_cons.mpr ⟨List.mem_of_getElem? (i := 5) rfl, (fun _ h => absurd h List.not_mem_nil)⟩)⟩)⟩)⟩)⟩)⟩) (ih24119 y24139 x23993 x23994 I24137 A24137 L24137 (show Md [18, 19, 20, 25] I23987 I24137 from Md.tr hI23998 (show Md [18, 19, 20, 25] I23998 I24137 from (Md.tr Md.rf hI24137 rfl)) rfl) (show Md [19, 20, 21] A23987 A24137 from Md.tr hA23998 (show Md [19, 20, 21] A23998 A24137 from (Md.tr Md.rf hA24137 rfl)) rfl) hV24137 (by omega) (by omega) (by omega) (by omega) (by omega) (by omega) (by omega))
              · skip
                refine g_aload_n hk dX12_odd_66 rfl ?_
                refine gM_i25 (v := (I24137 25)) hk hin12 (List.mem_cons_of_mem _ (List.mem_append_left _ (List.mem_of_getElem? (i := 13) rfl))) dX12_odd_67 rfl ?_
                refine g_iload hk dX12_odd_70 rfl ?_
                have b24141l := Int32.le_toInt (I24137 25)
                have b24141h := Int32.toInt_lt (I24137 25)
                have b24142l := Int32.le_toInt x23993
                have b24142h := Int32.toInt_lt x23993
                refine g_icmp_gt (tgt := 78) (a := (I24137 25).toInt) (b := x23993.toInt) hk dX12_odd_72 (by decide) rfl rfl (fun c24143 => ?_) (fun c24143 => ?_)
                · skip
                  refine g_iload hk dX12_odd_78 rfl ?_
                  refine g_istore_n (lv' := [(3, .int x23992), (5, .int x23992), (4, .int x23993), (0, .ref (r 0)), (1, .int z1), (2, .int z2)]) hk dX12_odd_80 (by decide) rfl ?_
                  refine g_aload_n hk dX12_odd_81 rfl ?_
                  refine gM_i25 (v := (I24137 25)) hk hin12 (List.mem_cons_of_mem _ (List.mem_append_left _ (List.mem_of_getElem? (i := 13) rfl))) dX12_odd_82 rfl ?_
                  refine g_istore (lv' := [(4, .int (I24137 25)), (3, .int x23992), (5, .int x23992), (0, .ref (r 0)), (1, .int z1), (2, .int z2)]) hk dX12_odd_85 (by decide) rfl ?_
                  obtain ⟨y24144, ey24144⟩ : ∃ y : Int32, y = x23992 + Int32.ofInt 1 := ⟨_, rfl⟩
                  have hy24144 : y24144.toInt = x23992.toInt + 1 := i32_add ey24144 rfl (by decide) (by omega) (by omega)
                  refine g_iinc (v := y24144) (lv' := [(5, .int y24144), (4, .int (I24137 25)), (3, .int x23992), (0, .ref (r 0)), (1, .int z1), (2, .int z2)]) hk 2 dX12_odd_87 rfl ey24144.symm (by decide) rfl ?_
                  refine g_goto (tgt := 35) hk dX12_odd_90 (by decide) ?_
                  exact g_lv (List.forall_mem_cons.mpr ⟨List.mem_of_getElem? (i := 0) rfl, (List.forall_mem_cons.mpr ⟨List.mem_of_getElem? (i := 1) rfl, (List.forall_mem_cons.mpr ⟨List.mem_of_getElem? (i := 2) rfl, (List.forall_mem_cons.mpr ⟨List.mem_of_getElem? (i := 3) rfl, (List.forall_mem_cons.mpr ⟨List.mem_of_getElem? (i := 4) rfl, (List.forall_mem_cons.mpr ⟨List.mem_of_getElem? (i := 5) rfl, (fun _ h => absurd h List.not_mem_nil)⟩)⟩)⟩)⟩)⟩)⟩) (ih24119 y24144 (I24137 25) x23992 I24137 A24137 L24137 (show Md [18, 19, 20, 25] I23987 I24137 from Md.tr hI23998 (show Md [18, 19, 20, 25] I23998 I24137 from (Md.tr Md.rf hI24137 rfl)) rfl) (show Md [19, 20, 21] A23987 A24137 from Md.tr hA23998 (show Md [19, 20, 21] A23998 A24137 from (Md.tr Md.rf hA24137 rfl)) rfl) hV24137 (by omega) (by omega) (by omega) (by omega) (by omega) (by omega) (by omega))
                · skip
                  refine g_goto (tgt := 87) hk dX12_odd_75 (by decide) ?_
                  obtain ⟨y24145, ey24145⟩ : ∃ y : Int32, y = x23992 + Int32.ofInt 1 := ⟨_, rfl⟩
                  have hy24145 : y24145.toInt = x23992.toInt + 1 := i32_add ey24145 rfl (by decide) (by omega) (by omega)
                  refine g_iinc (v := y24145) (lv' := [(5, .int y24145), (4, .int x23993), (3, .int x23994), (0, .ref (r 0)), (1, .int z1), (2, .int z2)]) hk 0 dX12_odd_87 rfl ey24145.symm (by decide) rfl ?_
                  refine g_goto (tgt := 35) hk dX12_odd_90 (by decide) ?_
                  exact g_lv (List.forall_mem_cons.mpr ⟨List.mem_of_getElem? (i := 0) rfl, (List.forall_mem_cons.mpr ⟨List.mem_of_getElem? (i := 1) rfl, (List.forall_mem_cons.mpr ⟨List.mem_of_getElem? (i := 2) rfl, (List.forall_mem_cons.mpr ⟨List.mem_of_getElem? (i := 3) rfl, (List.forall_mem_cons.mpr ⟨List.mem_of_getElem? (i := 4) rfl, (List.forall_mem_cons.mpr ⟨List.mem_of_getElem? (i := 5) rfl, (fun _ h => absurd h List.not_mem_nil)⟩)⟩)⟩)⟩)⟩)⟩) (ih24119 y24145 x23993 x23994 I24137 A24137 L24137 (show Md [18, 19, 20, 25] I23987 I24137 from Md.tr hI23998 (show Md [18, 19, 20, 25] I23998 I24137 from (Md.tr Md.rf hI24137 rfl)) rfl) (show Md [19, 20, 21] A23987 A24137 from Md.tr hA23998 (show Md [19, 20, 21] A23998 A24137 from (Md.tr Md.rf hA24137 rfl)) rfl) hV24137 (by omega) (by omega) (by omega) (by omega) (by omega) (by omega) (by omega))
      have k24146 : ((-2) : Int32).toInt = (-2) := rfl
      obtain ⟨n24147, n24147a, n24147b⟩ : ∃ n : Nat, 161 - (0 : Int32).toInt < (n : Int) ∧ 0 < n := ⟨((161 - (0 : Int32).toInt : Int)).toNat + 1, by omega, by omega⟩
      exact lp24116 n24147 0 (-2) (-2) I23987 A23987 L23987 Md.rf Md.rf hV23987 (by omega) (by omega) (by omega) (by omega) (by omega) n24147a n24147b
def wo_j203_X12_cover : List Cond := [Cond.methodLink RX12 251 yX12_isQuery, Cond.instanceMethod yX12_isQuery, Cond.selects RX12 yX12_isQuery yX12_isQuery, Cond.initialized RX12, Cond.methodLink RX12 372 yX12_fillsMatches, Cond.instanceMethod yX12_fillsMatches, Cond.selects RX12 yX12_fillsMatches yX12_fillsMatches, Cond.fieldLink RX12 70 "WarpDeskModel" "now" "[I", Cond.fieldLink RX12 366 "WarpDeskModel" "matchMany" "I", Cond.fieldLink RX12 91 "WarpDeskModel" "farBy" "[I", Cond.fieldLink RX12 97 "WarpDeskModel" "matchAt" "[I", Cond.methodLink RX12 254 yX12_wideOf, Cond.instanceMethod yX12_wideOf, Cond.selects RX12 yX12_wideOf yX12_wideOf, Cond.methodLink RX12 244 yX12_in, Cond.static yX12_in]
def wz_j203_X12_cover : List Cond := .code yX12_cover cX12_cover 7 (some .int) :: (wo_j203_X12_cover ++ (wsX120 ++ (wz_j147_X12_isQuery ++ (wz_j191_X12_fillsMatches ++ (wz_j148_X12_wideOf ++ (wz_j145_X12_in ++ ([] : List Cond)))))))
theorem zg_j203_X12_cover : ∀ w ∈ wz_j203_X12_cover, goodWord w = true := zg_cons rfl (zg_app (by decide +kernel) (zg_app zgU_wsX120 (zg_app zg_j147_X12_isQuery (zg_app zg_j191_X12_fillsMatches (zg_app zg_j148_X12_wideOf (zg_app zg_j145_X12_in zg_nil))))))
theorem zi_j203_X12_cover : ∀ w ∈ wz_j203_X12_cover, w ∈ lw_tbl := zi_cons zw_1883 (zi_app (zi_cons zw_1663 (zi_cons zw_1665 (zi_cons zw_67 (zi_cons zw_115 (zi_cons zw_1868 (zi_cons zw_1870 (zi_cons zw_96 (zi_cons zw_1413 (zi_cons zw_1428 (zi_cons zw_1426 (zi_cons zw_1429 (zi_cons zw_1667 (zi_cons zw_1669 (zi_cons zw_68 (zi_cons zw_1656 (zi_cons zw_1657 zi_nil)))))))))))))))) (zi_app inX12 (zi_app zi_j147_X12_isQuery (zi_app zi_j191_X12_fillsMatches (zi_app zi_j148_X12_wideOf (zi_app zi_j145_X12_in zi_nil))))))
set_option maxHeartbeats 4000000 in
set_option maxRecDepth 100000 in
theorem j203_X12_cover (l : Launch) (D : va_G) (zt : Nat × Nat × Nat × (Nat → Nat) × (Nat → Nat)) (r : Nat → Nat) (g : Nat → ClassId) (I : Nat → Int32) (A : Nat → Nat → Int32) (L : Nat → Nat → Int64) (z1 : Int32) (z2 : Int32) (hIv : IvM I A) : GM l D zt (tyM g) yX12_cover wz_j203_X12_cover ({ frames := 8, cells := 0, slots := 0, locals := 179 } : Room) [.ref (r 0), .int z1, .int z2] (wM r g I A L) (fun v _ w' => ∃ (I' : Nat → Int32) (A' : Nat → Nat → Int32) (L' : Nat → Nat → Int64), Md [18, 19, 20, 24] I I' ∧ Md [18, 19, 20, 21, 24, 26] A A' ∧ IvM I' A' ∧ ∃ y0 : Int32, v = some (.int y0) ∧ w' = wM r g I' A' L') 0 0 := by
  refine GM.of (cc := cX12_cover) (maxL := 7) (ret := (some .int)) (own := RX12) (lv := [(0, .ref (r 0)), (1, .int z1), (2, .int z2)]) (by decide) rfl rfl (Nat.le_of_ble_eq_true rfl) rfl (fun κ sz hk hR hN => ?_)
  have hin12 : ∀ w ∈ u_ws RX12 TX12 55, w ∈ wz_j203_X12_cover := fun w h => (List.mem_cons_of_mem _ (List.mem_append_right _ (List.mem_append_left _ h)))
  refine g_aload_n hk dX12_cover_0 rfl ?_
  refine g_iload_n hk dX12_cover_1 rfl ?_
  refine g_callV (n := 1) hk (j147_X12_isQuery l D zt r g I A L z1 hIv) (SP.same _) (fun _ h => h) (gi_V (List.mem_cons_of_mem _ (List.mem_append_left _ (List.mem_of_getElem? (i := 0) rfl))) (List.mem_cons_of_mem _ (List.mem_append_left _ (List.mem_of_getElem? (i := 1) rfl))) (List.mem_cons_of_mem _ (List.mem_append_left _ (List.mem_of_getElem? (i := 2) rfl))) (List.mem_cons_of_mem _ (List.mem_append_left _ (List.mem_of_getElem? (i := 3) rfl))) (gi_sub (fun w h => (List.mem_cons_of_mem _ (List.mem_append_right _ (List.mem_append_right _ (List.mem_append_left _ h))))) zg_j147_X12_isQuery)) rfl rfl rfl (by decide +kernel) ⟨Nat.le_of_ble_eq_true rfl, Nat.le_of_ble_eq_true rfl⟩ 0 rfl rfl rfl rfl (Nat.le_of_ble_eq_true rfl) ⟨Nat.le_of_ble_eq_true rfl, Nat.le_of_ble_eq_true rfl⟩ dX12_cover_2 (fun v ty' w' hp hk' => ?_)
  rcases hp with ⟨rfl, rfl⟩ | ⟨c24149, c24150, c24151, c24152, rfl, rfl⟩
  · skip
    show GW κ 7 0 0 (wM r g I A L) 5 [(0, .ref (r 0)), (1, .int z1), (2, .int z2)] [.int 0]
    refine g_if_eq (tgt := 12) (a := 0) hk dX12_cover_5 (by decide) rfl (fun _ => ?_) (fun z9 => absurd (show (0 : Int) = (0 : Int) from by decide) z9)
    refine g_iconst (v := (-1)) hk dX12_cover_12 (by decide) ?_
    exact g_iret hk hR rfl ⟨I, A, L, (show Md [18, 19, 20, 24] I I from Md.rf), (show Md [18, 19, 20, 21, 24, 26] A A from Md.rf), hIv, (-1), rfl, rfl⟩ dX12_cover_13
  · skip
    have f24154 : 0 ≤ (A 11 (5 * (I 15) + z1).toNatClampNeg).toInt ∧ (A 11 (5 * (I 15) + z1).toNatClampNeg).toInt ≤ 16 := IvM_a11 hIv _
    show GW κ 7 0 0 (wM r g I A L) 5 [(0, .ref (r 0)), (1, .int z1), (2, .int z2)] [.int 1]
    refine g_if_eq (tgt := 12) (a := 1) hk dX12_cover_5 (by decide) rfl (fun z9 => absurd z9 (show ¬ ((1 : Int) = (0 : Int)) from by decide)) (fun _ => ?_)
    refine g_iload_n hk dX12_cover_8 rfl ?_
    have b24155l := Int32.le_toInt z2
    have b24155h := Int32.toInt_lt z2
    refine g_if_ge (tgt := 14) (a := z2.toInt) hk dX12_cover_9 (by decide) rfl (fun c24156 => ?_) (fun c24156 => ?_)
    · skip
      refine g_aload_n hk dX12_cover_14 rfl ?_
      refine g_iload_n hk dX12_cover_15 rfl ?_
      refine g_callV (n := 1) hk (j191_X12_fillsMatches l D zt r g I A L z1 hIv (by omega) (by omega)) (SP.same _) (fun _ h => h) (gi_V (List.mem_cons_of_mem _ (List.mem_append_left _ (List.mem_of_getElem? (i := 4) rfl))) (List.mem_cons_of_mem _ (List.mem_append_left _ (List.mem_of_getElem? (i := 5) rfl))) (List.mem_cons_of_mem _ (List.mem_append_left _ (List.mem_of_getElem? (i := 6) rfl))) (List.mem_cons_of_mem _ (List.mem_append_left _ (List.mem_of_getElem? (i := 3) rfl))) (gi_sub (fun w h => (List.mem_cons_of_mem _ (List.mem_append_right _ (List.mem_append_right _ (List.mem_append_right _ (List.mem_append_left _ h)))))) zg_j191_X12_fillsMatches)) rfl rfl rfl (by decide +kernel) ⟨Nat.le_of_ble_eq_true rfl, Nat.le_of_ble_eq_true rfl⟩ 0 rfl rfl rfl rfl (Nat.le_of_ble_eq_true rfl) ⟨Nat.le_of_ble_eq_true rfl, Nat.le_of_ble_eq_true rfl⟩ dX12_cover_16 (fun v ty' w' hp hk' => ?_)
      obtain ⟨I24158, A24158, L24158, hI24158, hA24158, hV24158, rfl, rfl⟩ := hp
      show GW κ 7 0 0 (wM r g I24158 A24158 L24158) 19 [(0, .ref (r 0)), (1, .int z1), (2, .int z2)] []
      refine g_iconst (v := 0) hk dX12_cover_19 (by decide) ?_
      refine g_istore_n (lv' := [(3, .int 0), (0, .ref (r 0)), (1, .int z1), (2, .int z2)]) hk dX12_cover_20 (by decide) rfl ?_
      refine g_iconst (v := 0) hk dX12_cover_21 (by decide) ?_
      refine g_istore (lv' := [(4, .int 0), (3, .int 0), (0, .ref (r 0)), (1, .int z1), (2, .int z2)]) hk dX12_cover_22 (by decide) rfl ?_
      have lp24748 : ∀ (n24749 : Nat) (x24159 : Int32) (x24160 : Int32), (0 ≤ x24159.toInt) → (x24159.toInt ≤ 160) → (161 - x24159.toInt < (n24749 : Int)) → (0 < n24749) → GW κ 7 0 0 (wM r g I24158 A24158 L24158) 24 [(4, .int x24159), (3, .int x24160), (0, .ref (r 0)), (1, .int z1), (2, .int z2)] [] := by
        intro n24749
        induction n24749 with
        | zero =>
          intro x24159 x24160 h24746 h24747 m24750 m24750z
          exact absurd m24750z (Nat.lt_irrefl 0)
        | succ n24749 ih24751 =>
          intro x24159 x24160 h24746 h24747 m24750 m24750z
          refine g_iload hk dX12_cover_24 rfl ?_
          refine g_aload_n hk dX12_cover_26 rfl ?_
          refine gM_r0_35 hk hin12 (List.mem_cons_of_mem _ (List.mem_append_left _ (List.mem_of_getElem? (i := 7) rfl))) dX12_cover_27 ?_
          refine g_iconst (v := 0) hk dX12_cover_30 (by decide) ?_
          refine lM_17 (v := (A 17 0)) hk (vp_in_iff.mpr ⟨by decide, by decide⟩) (congrFun (hA24158 17 rfl) _) dX12_cover_31 ?_
          have f24752 := IvM_s17_0 hIv
          refine g_icmp_ge (tgt := 113) (a := x24159.toInt) (b := (A 17 0).toInt) hk dX12_cover_32 (by decide) rfl rfl (fun c24753 => ?_) (fun c24753 => ?_)
          · skip
            refine g_iload_n hk dX12_cover_113 rfl ?_
            have b24754l := Int32.le_toInt x24160
            have b24754h := Int32.toInt_lt x24160
            exact g_iret hk hR rfl ⟨I24158, A24158, L24158, (show Md [18, 19, 20, 24] I I24158 from (Md.tr Md.rf hI24158 rfl)), (show Md [18, 19, 20, 21, 24, 26] A A24158 from (Md.tr Md.rf hA24158 rfl)), hV24158, x24160, rfl, rfl⟩ dX12_cover_114
          · skip
            refine g_iconst (v := 0) hk dX12_cover_35 (by decide) ?_
            refine g_istore (lv' := [(5, .int 0), (4, .int x24159), (3, .int x24160), (0, .ref (r 0)), (1, .int z1), (2, .int z2)]) hk dX12_cover_36 (by decide) rfl ?_
            refine g_iconst (v := 0) hk dX12_cover_38 (by decide) ?_
            refine g_istore (lv' := [(6, .int 0), (5, .int 0), (4, .int x24159), (3, .int x24160), (0, .ref (r 0)), (1, .int z1), (2, .int z2)]) hk dX12_cover_39 (by decide) rfl ?_
            have lp24852 : ∀ (n24853 : Nat) (x24755 : Int32) (x24756 : Int32), (0 ≤ x24755.toInt) → (x24755.toInt ≤ 160) → (0 ≤ x24756.toInt) → (x24756.toInt ≤ 1) → (161 - x24755.toInt < (n24853 : Int)) → (0 < n24853) → GW κ 7 0 0 (wM r g I24158 A24158 L24158) 41 [(6, .int x24755), (5, .int x24756), (4, .int x24159), (3, .int x24160), (0, .ref (r 0)), (1, .int z1), (2, .int z2)] [] := by
              intro n24853
              induction n24853 with
              | zero =>
                intro x24755 x24756 h24848 h24849 h24850 h24851 m24854 m24854z
                exact absurd m24854z (Nat.lt_irrefl 0)
              | succ n24853 ih24855 =>
                intro x24755 x24756 h24848 h24849 h24850 h24851 m24854 m24854z
                refine g_iload hk dX12_cover_41 rfl ?_
                refine g_aload_n hk dX12_cover_43 rfl ?_
                refine gM_i24 (v := (I24158 24)) hk hin12 (List.mem_cons_of_mem _ (List.mem_append_left _ (List.mem_of_getElem? (i := 8) rfl))) dX12_cover_44 rfl ?_
                have f24856 := IvM_f24 hV24158
                refine g_icmp_ge (tgt := 99) (a := x24755.toInt) (b := (I24158 24).toInt) hk dX12_cover_47 (by decide) rfl rfl (fun c24857 => ?_) (fun c24857 => ?_)
                · skip
                  refine g_iload hk dX12_cover_99 rfl ?_
                  refine g_if_eq (tgt := 107) (a := x24756.toInt) hk dX12_cover_101 (by decide) rfl (fun c24858 => ?_) (fun c24858 => ?_)
                  · skip
                    obtain ⟨y24859, ey24859⟩ : ∃ y : Int32, y = x24159 + Int32.ofInt 1 := ⟨_, rfl⟩
                    have hy24859 : y24859.toInt = x24159.toInt + 1 := i32_add ey24859 rfl (by decide) (by omega) (by omega)
                    refine g_iinc (v := y24859) (lv' := [(4, .int y24859), (6, .int x24755), (5, .int x24756), (3, .int x24160), (0, .ref (r 0)), (1, .int z1), (2, .int z2)]) hk 2 dX12_cover_107 rfl ey24859.symm (by decide) rfl ?_
                    refine g_goto (tgt := 24) hk dX12_cover_110 (by decide) ?_
                    have b24860l := Int32.le_toInt x24160
                    have b24860h := Int32.toInt_lt x24160
                    exact g_lv (List.forall_mem_cons.mpr ⟨List.mem_of_getElem? (i := 0) rfl, (List.forall_mem_cons.mpr ⟨List.mem_of_getElem? (i := 3) rfl, (List.forall_mem_cons.mpr ⟨List.mem_of_getElem? (i := 4) rfl, (List.forall_mem_cons.mpr ⟨List.mem_of_getElem? (i := 5) rfl, (List.forall_mem_cons.mpr ⟨List.mem_of_getElem? (i := 6) rfl, (fun _ h => absurd h List.not_mem_nil)⟩)⟩)⟩)⟩)⟩) (ih24751 y24859 x24160 (by omega) (by omega) (by omega) (by omega))
                  · skip
                    have b24861l := Int32.le_toInt x24160
                    have b24861h := Int32.toInt_lt x24160
                    obtain ⟨y24862, ey24862⟩ : ∃ y : Int32, y = x24160 + Int32.ofInt 1 := ⟨_, rfl⟩
                    refine g_iinc (v := y24862) (lv' := [(3, .int y24862), (6, .int x24755), (5, .int x24756), (4, .int x24159), (0, .ref (r 0)), (1, .int z1), (2, .int z2)]) hk 3 dX12_cover_104 rfl ey24862.symm (by decide) rfl ?_
                    obtain ⟨y24863, ey24863⟩ : ∃ y : Int32, y = x24159 + Int32.ofInt 1 := ⟨_, rfl⟩
                    have hy24863 : y24863.toInt = x24159.toInt + 1 := i32_add ey24863 rfl (by decide) (by omega) (by omega)
                    refine g_iinc (v := y24863) (lv' := [(4, .int y24863), (3, .int y24862), (6, .int x24755), (5, .int x24756), (0, .ref (r 0)), (1, .int z1), (2, .int z2)]) hk 3 dX12_cover_107 rfl ey24863.symm (by decide) rfl ?_
                    refine g_goto (tgt := 24) hk dX12_cover_110 (by decide) ?_
                    have b24864l := Int32.le_toInt y24862
                    have b24864h := Int32.toInt_lt y24862
                    exact g_lv (List.forall_mem_cons.mpr ⟨List.mem_of_getElem? (i := 0) rfl, (List.forall_mem_cons.mpr ⟨List.mem_of_getElem? (i := 1) rfl, (List.forall_mem_cons.mpr ⟨List.mem_of_getElem? (i := 4) rfl, (List.forall_mem_cons.mpr ⟨List.mem_of_getElem? (i := 5) rfl, (List.forall_mem_cons.mpr ⟨List.mem_of_getElem? (i := 6) rfl, (fun _ h => absurd h List.not_mem_nil)⟩)⟩)⟩)⟩)⟩) (ih24751 y24863 y24862 (by omega) (by omega) (by omega) (by omega))
                · skip
                  refine g_aload_n hk dX12_cover_50 rfl ?_
                  refine gM_r0_48 hk hin12 (List.mem_cons_of_mem _ (List.mem_append_left _ (List.mem_of_getElem? (i := 9) rfl))) dX12_cover_51 ?_
                  refine g_aload_n hk dX12_cover_54 rfl ?_
                  refine gM_r0_51 hk hin12 (List.mem_cons_of_mem _ (List.mem_append_left _ (List.mem_of_getElem? (i := 10) rfl))) dX12_cover_55 ?_
                  refine g_iload hk dX12_cover_58 rfl ?_
                  refine lM_26 (v := (A24158 26 x24755.toNatClampNeg)) hk (vp_in_iff.mpr ⟨by omega, by omega⟩) rfl dX12_cover_60 ?_
                  have f24865 := IvM_a26 hV24158 (x24755.toNatClampNeg)
                  refine lM_24 (v := (A24158 24 (A24158 26 x24755.toNatClampNeg).toNatClampNeg)) hk (vp_in_iff.mpr ⟨by omega, by omega⟩) rfl dX12_cover_61 ?_
                  refine g_iload_n hk dX12_cover_62 rfl ?_
                  have b24866l := Int32.le_toInt (A24158 24 (A24158 26 x24755.toNatClampNeg).toNatClampNeg)
                  have b24866h := Int32.toInt_lt (A24158 24 (A24158 26 x24755.toNatClampNeg).toNatClampNeg)
                  refine g_icmp_gt (tgt := 93) (a := (A24158 24 (A24158 26 x24755.toNatClampNeg).toNatClampNeg).toInt) (b := z2.toInt) hk dX12_cover_63 (by decide) rfl rfl (fun c24867 => ?_) (fun c24867 => ?_)
                  · skip
                    obtain ⟨y24868, ey24868⟩ : ∃ y : Int32, y = x24755 + Int32.ofInt 1 := ⟨_, rfl⟩
                    have hy24868 : y24868.toInt = x24755.toInt + 1 := i32_add ey24868 rfl (by decide) (by omega) (by omega)
                    refine g_iinc (v := y24868) (lv' := [(6, .int y24868), (5, .int x24756), (4, .int x24159), (3, .int x24160), (0, .ref (r 0)), (1, .int z1), (2, .int z2)]) hk 0 dX12_cover_93 rfl ey24868.symm (by decide) rfl ?_
                    refine g_goto (tgt := 41) hk dX12_cover_96 (by decide) ?_
                    exact g_lv (List.forall_mem_cons.mpr ⟨List.mem_of_getElem? (i := 0) rfl, (List.forall_mem_cons.mpr ⟨List.mem_of_getElem? (i := 1) rfl, (List.forall_mem_cons.mpr ⟨List.mem_of_getElem? (i := 2) rfl, (List.forall_mem_cons.mpr ⟨List.mem_of_getElem? (i := 3) rfl, (List.forall_mem_cons.mpr ⟨List.mem_of_getElem? (i := 4) rfl, (List.forall_mem_cons.mpr ⟨List.mem_of_getElem? (i := 5) rfl, (List.forall_mem_cons.mpr ⟨List.mem_of_getElem? (i := 6) rfl, (fun _ h => absurd h List.not_mem_nil)⟩)⟩)⟩)⟩)⟩)⟩)⟩) (ih24855 y24868 x24756 (by omega) (by omega) (by omega) (by omega) (by omega) (by omega))
                  · skip
                    refine g_iload hk dX12_cover_66 rfl ?_
                    refine g_aload_n hk dX12_cover_68 rfl ?_
                    refine gM_r0_51 hk hin12 (List.mem_cons_of_mem _ (List.mem_append_left _ (List.mem_of_getElem? (i := 10) rfl))) dX12_cover_69 ?_
                    refine g_iload hk dX12_cover_72 rfl ?_
                    refine lM_26 (v := (A24158 26 x24755.toNatClampNeg)) hk (vp_in_iff.mpr ⟨by omega, by omega⟩) rfl dX12_cover_74 ?_
                    refine g_isub hk dX12_cover_75 ?_
                    refine g_topi (fun y24869 ey24869 => ?_)
                    have hy24869 : y24869.toInt = x24159.toInt - (A24158 26 x24755.toNatClampNeg).toInt := i32_sub ey24869 rfl rfl (by omega) (by omega)
                    refine g_iconst (v := 0) hk dX12_cover_76 (by decide) ?_
                    refine g_aload_n hk dX12_cover_77 rfl ?_
                    refine g_iload_n hk dX12_cover_78 rfl ?_
                    refine g_callV (n := 1) hk (j148_X12_wideOf l D zt r g I24158 A24158 L24158 z1 hV24158 (by omega) (by omega)) (SP.same _) (fun _ h => h) (gi_V (List.mem_cons_of_mem _ (List.mem_append_left _ (List.mem_of_getElem? (i := 11) rfl))) (List.mem_cons_of_mem _ (List.mem_append_left _ (List.mem_of_getElem? (i := 12) rfl))) (List.mem_cons_of_mem _ (List.mem_append_left _ (List.mem_of_getElem? (i := 13) rfl))) (List.mem_cons_of_mem _ (List.mem_append_left _ (List.mem_of_getElem? (i := 3) rfl))) (gi_sub (fun w h => (List.mem_cons_of_mem _ (List.mem_append_right _ (List.mem_append_right _ (List.mem_append_right _ (List.mem_append_right _ (List.mem_append_left _ h))))))) zg_j148_X12_wideOf)) rfl rfl rfl (by decide +kernel) ⟨Nat.le_of_ble_eq_true rfl, Nat.le_of_ble_eq_true rfl⟩ 0 rfl rfl rfl rfl (Nat.le_of_ble_eq_true rfl) ⟨Nat.le_of_ble_eq_true rfl, Nat.le_of_ble_eq_true rfl⟩ dX12_cover_79 (fun v ty' w' hp hk' => ?_)
                    obtain ⟨rfl, rfl⟩ := hp
                    show GW κ 7 0 0 (wM r g I24158 A24158 L24158) 82 [(6, .int x24755), (5, .int x24756), (4, .int x24159), (3, .int x24160), (0, .ref (r 0)), (1, .int z1), (2, .int z2)] [.int (A24158 11 (5 * (I24158 15) + z1).toNatClampNeg), .int 0, .int y24869]
                    refine g_norm (v := (A 11 (5 * (I 15) + z1).toNatClampNeg)) (by rw [show I24158 15 = (I 15) from (hI24158 15 rfl)]; exact (congrFun (hA24158 11 rfl) _)) ?_
                    refine g_iconst (v := 1) hk dX12_cover_82 (by decide) ?_
                    refine g_isub hk dX12_cover_83 ?_
                    refine g_topi (fun y24870 ey24870 => ?_)
                    have hy24870 : y24870.toInt = (A 11 (5 * (I 15) + z1).toNatClampNeg).toInt - 1 := i32_sub ey24870 rfl rfl (by omega) (by omega)
                    have k24871 : (0 : Int32).toInt = 0 := rfl
                    refine g_callS (n := 3) hk (j145_X12_in l D zt r g I24158 A24158 L24158 y24869 0 y24870 hV24158) (SP.same _) (fun _ h => h) (gi_S (List.mem_cons_of_mem _ (List.mem_append_left _ (List.mem_of_getElem? (i := 14) rfl))) (List.mem_cons_of_mem _ (List.mem_append_left _ (List.mem_of_getElem? (i := 15) rfl))) (List.mem_cons_of_mem _ (List.mem_append_left _ (List.mem_of_getElem? (i := 3) rfl))) (gi_sub (fun w h => (List.mem_cons_of_mem _ (List.mem_append_right _ (List.mem_append_right _ (List.mem_append_right _ (List.mem_append_right _ (List.mem_append_right _ (List.mem_append_left _ h)))))))) zg_j145_X12_in)) rfl rfl rfl (by decide +kernel) ⟨Nat.le_of_ble_eq_true rfl, Nat.le_of_ble_eq_true rfl⟩ rfl rfl (Nat.le_of_ble_eq_true rfl) ⟨Nat.le_of_ble_eq_true rfl, Nat.le_of_ble_eq_true rfl⟩ dX12_cover_84 (fun v ty' w' hp hk' => ?_)
                    rcases hp with ⟨c24872, rfl, rfl⟩ | ⟨c24874, c24875, rfl, rfl⟩
                    · skip
                      show GW κ 7 0 0 (wM r g I24158 A24158 L24158) 87 [(6, .int x24755), (5, .int x24756), (4, .int x24159), (3, .int x24160), (0, .ref (r 0)), (1, .int z1), (2, .int z2)] [.int 0]
                      refine g_if_eq (tgt := 93) (a := 0) hk dX12_cover_87 (by decide) rfl (fun _ => ?_) (fun z9 => absurd (show (0 : Int) = (0 : Int) from by decide) z9)
                      obtain ⟨y24877, ey24877⟩ : ∃ y : Int32, y = x24755 + Int32.ofInt 1 := ⟨_, rfl⟩
                      have hy24877 : y24877.toInt = x24755.toInt + 1 := i32_add ey24877 rfl (by decide) (by omega) (by omega)
                      refine g_iinc (v := y24877) (lv' := [(6, .int y24877), (5, .int x24756), (4, .int x24159), (3, .int x24160), (0, .ref (r 0)), (1, .int z1), (2, .int z2)]) hk 0 dX12_cover_93 rfl ey24877.symm (by decide) rfl ?_
                      refine g_goto (tgt := 41) hk dX12_cover_96 (by decide) ?_
                      exact g_lv (List.forall_mem_cons.mpr ⟨List.mem_of_getElem? (i := 0) rfl, (List.forall_mem_cons.mpr ⟨List.mem_of_getElem? (i := 1) rfl, (List.forall_mem_cons.mpr ⟨List.mem_of_getElem? (i := 2) rfl, (List.forall_mem_cons.mpr ⟨List.mem_of_getElem? (i := 3) rfl, (List.forall_mem_cons.mpr ⟨List.mem_of_getElem? (i := 4) rfl, (List.forall_mem_cons.mpr ⟨List.mem_of_getElem? (i := 5) rfl, (List.forall_mem_cons.mpr ⟨List.mem_of_getElem? (i := 6) rfl, (fun _ h => absurd h List.not_mem_nil)⟩)⟩)⟩)⟩)⟩)⟩)⟩) (ih24855 y24877 x24756 (by omega) (by omega) (by omega) (by omega) (by omega) (by omega))
                    · skip
                      show GW κ 7 0 0 (wM r g I24158 A24158 L24158) 87 [(6, .int x24755), (5, .int x24756), (4, .int x24159), (3, .int x24160), (0, .ref (r 0)), (1, .int z1), (2, .int z2)] [.int 1]
                      refine g_if_eq (tgt := 93) (a := 1) hk dX12_cover_87 (by decide) rfl (fun z9 => absurd z9 (show ¬ ((1 : Int) = (0 : Int)) from by decide)) (fun _ => ?_)
                      refine g_iconst (v := 1) hk dX12_cover_90 (by decide) ?_
                      refine g_istore (lv' := [(5, .int 1), (6, .int x24755), (4, .int x24159), (3, .int x24160), (0, .ref (r 0)), (1, .int z1), (2, .int z2)]) hk dX12_cover_91 (by decide) rfl ?_
                      obtain ⟨y24878, ey24878⟩ : ∃ y : Int32, y = x24755 + Int32.ofInt 1 := ⟨_, rfl⟩
                      have hy24878 : y24878.toInt = x24755.toInt + 1 := i32_add ey24878 rfl (by decide) (by omega) (by omega)
                      refine g_iinc (v := y24878) (lv' := [(6, .int y24878), (5, .int 1), (4, .int x24159), (3, .int x24160), (0, .ref (r 0)), (1, .int z1), (2, .int z2)]) hk 1 dX12_cover_93 rfl ey24878.symm (by decide) rfl ?_
                      refine g_goto (tgt := 41) hk dX12_cover_96 (by decide) ?_
                      have k24879 : (1 : Int32).toInt = 1 := rfl
                      exact g_lv (List.forall_mem_cons.mpr ⟨List.mem_of_getElem? (i := 0) rfl, (List.forall_mem_cons.mpr ⟨List.mem_of_getElem? (i := 1) rfl, (List.forall_mem_cons.mpr ⟨List.mem_of_getElem? (i := 2) rfl, (List.forall_mem_cons.mpr ⟨List.mem_of_getElem? (i := 3) rfl, (List.forall_mem_cons.mpr ⟨List.mem_of_getElem? (i := 4) rfl, (List.forall_mem_cons.mpr ⟨List.mem_of_getElem? (i := 5) rfl, (List.forall_mem_cons.mpr ⟨List.mem_of_getElem? (i := 6) rfl, (fun _ h => absurd h List.not_mem_nil)⟩)⟩)⟩)⟩)⟩)⟩)⟩) (ih24855 y24878 1 (by omega) (by omega) (by omega) (by omega) (by omega) (by omega))
            have k24880 : (0 : Int32).toInt = 0 := rfl
            obtain ⟨n24881, n24881a, n24881b⟩ : ∃ n : Nat, 161 - (0 : Int32).toInt < (n : Int) ∧ 0 < n := ⟨((161 - (0 : Int32).toInt : Int)).toNat + 1, by omega, by omega⟩
            exact lp24852 n24881 0 0 (by omega) (by omega) (by omega) (by omega) n24881a n24881b
      have k24882 : (0 : Int32).toInt = 0 := rfl
      obtain ⟨n24883, n24883a, n24883b⟩ : ∃ n : Nat, 161 - (0 : Int32).toInt < (n : Int) ∧ 0 < n := ⟨((161 - (0 : Int32).toInt : Int)).toNat + 1, by omega, by omega⟩
      exact lp24748 n24883 0 0 (by omega) (by omega) n24883a n24883b
    · skip
      refine g_iconst (v := (-1)) hk dX12_cover_12 (by decide) ?_
      exact g_iret hk hR rfl ⟨I, A, L, (show Md [18, 19, 20, 24] I I from Md.rf), (show Md [18, 19, 20, 21, 24, 26] A A from Md.rf), hIv, (-1), rfl, rfl⟩ dX12_cover_13
