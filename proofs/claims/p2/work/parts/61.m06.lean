def wo_j173_X12_laysTable : List Cond := [Cond.fieldLink RX12 292 "WarpDeskModel" "laid" "I", Cond.fieldLink RX12 295 "WarpDeskModel" "brokeAt" "I", Cond.fieldLink RX12 267 "WarpDeskModel" "wide" "I", Cond.methodLink RX12 283 yX12_atTable, Cond.instanceMethod yX12_atTable, Cond.selects RX12 yX12_atTable yX12_atTable, Cond.initialized RX12, Cond.methodLink RX12 298 yX12_laysRow, Cond.instanceMethod yX12_laysRow, Cond.selects RX12 yX12_laysRow yX12_laysRow, Cond.constant RX12 282 (2000000000)]
def wz_j173_X12_laysTable : List Cond := .code yX12_laysTable cX12_laysTable 3 (some .int) :: (wo_j173_X12_laysTable ++ (wsX120 ++ (wz_j174_X12_atTable ++ (wz_j176_X12_laysRow ++ ([] : List Cond)))))
theorem zg_j173_X12_laysTable : ∀ w ∈ wz_j173_X12_laysTable, goodWord w = true := zg_cons rfl (zg_app (by decide +kernel) (zg_app zgU_wsX120 (zg_app zg_j174_X12_atTable (zg_app zg_j176_X12_laysRow zg_nil))))
theorem zi_j173_X12_laysTable : ∀ w ∈ wz_j173_X12_laysTable, w ∈ lw_tbl := zi_cons zw_1779 (zi_app (zi_cons zw_1419 (zi_cons zw_1420 (zi_cons zw_1415 (zi_cons zw_1788 (zi_cons zw_1790 (zi_cons zw_86 (zi_cons zw_115 (zi_cons zw_1780 (zi_cons zw_1782 (zi_cons zw_84 (zi_cons zw_1775 zi_nil))))))))))) (zi_app inX12 (zi_app zi_j174_X12_atTable (zi_app zi_j176_X12_laysRow zi_nil))))
set_option maxHeartbeats 4000000 in
set_option maxRecDepth 100000 in
theorem j173_X12_laysTable (l : Launch) (D : va_G) (zt : Nat × Nat × Nat × (Nat → Nat) × (Nat → Nat)) (r : Nat → Nat) (g : Nat → ClassId) (I : Nat → Int32) (A : Nat → Nat → Int32) (L : Nat → Nat → Int64) (z1 : Int32) (hIv : IvM I A) : GM l D zt (tyM g) yX12_laysTable wz_j173_X12_laysTable ({ frames := 4, cells := 0, slots := 0, locals := 90 } : Room) [.ref (r 0), .int z1] (wM r g I A L) (fun v _ w' => ∃ (I' : Nat → Int32) (A' : Nat → Nat → Int32) (L' : Nat → Nat → Int64), Md [19, 20] I I' ∧ Md [21] A A' ∧ IvM I' A' ∧ ∃ y0 : Int32, v = some (.int y0) ∧ w' = wM r g I' A' L') 0 0 := by
  refine GM.of (cc := cX12_laysTable) (maxL := 3) (ret := (some .int)) (own := RX12) (lv := [(0, .ref (r 0)), (1, .int z1)]) (by decide) rfl rfl (Nat.le_of_ble_eq_true rfl) rfl (fun κ sz hk hR hN => ?_)
  have hin12 : ∀ w ∈ u_ws RX12 TX12 55, w ∈ wz_j173_X12_laysTable := fun w h => (List.mem_cons_of_mem _ (List.mem_append_right _ (List.mem_append_left _ h)))
  refine g_aload_n hk dX12_laysTable_0 rfl ?_
  refine g_iconst (v := 0) hk dX12_laysTable_1 (by decide) ?_
  refine pM_i19 hk hin12 (List.mem_cons_of_mem _ (List.mem_append_left _ (List.mem_of_getElem? (i := 0) rfl))) dX12_laysTable_2 ?_
  refine g_aload_n hk dX12_laysTable_5 rfl ?_
  refine g_iconst (v := (-1)) hk dX12_laysTable_6 (by decide) ?_
  refine pM_i20 hk hin12 (List.mem_cons_of_mem _ (List.mem_append_left _ (List.mem_of_getElem? (i := 1) rfl))) dX12_laysTable_7 ?_
  refine g_iconst (v := 0) hk dX12_laysTable_10 (by decide) ?_
  refine g_istore_n (lv' := [(2, .int 0), (0, .ref (r 0)), (1, .int z1)]) hk dX12_laysTable_11 (by decide) rfl ?_
  have lp19974 : ∀ (n19975 : Nat) (x19598 : Int32) (I19601 : Nat → Int32) (A19601 : Nat → Nat → Int32) (L19601 : Nat → Nat → Int64), (Md [19, 20] (upd (upd I 19 0) 20 (-1)) I19601) → (Md [21] A A19601) → (IvM I19601 A19601) → (0 ≤ x19598.toInt) → (x19598.toInt ≤ 16) → (17 - x19598.toInt < (n19975 : Int)) → (0 < n19975) → GW κ 3 0 0 (wM r g I19601 A19601 L19601) 12 [(2, .int x19598), (0, .ref (r 0)), (1, .int z1)] [] := by
    intro n19975
    induction n19975 with
    | zero =>
      intro x19598 I19601 A19601 L19601 hI19601 hA19601 hV19601 h19972 h19973 m19976 m19976z
      exact absurd m19976z (Nat.lt_irrefl 0)
    | succ n19975 ih19977 =>
      intro x19598 I19601 A19601 L19601 hI19601 hA19601 hV19601 h19972 h19973 m19976 m19976z
      refine g_iload_n hk dX12_laysTable_12 rfl ?_
      refine g_aload_n hk dX12_laysTable_13 rfl ?_
      refine gM_i18 (v := (I 18)) hk hin12 (List.mem_cons_of_mem _ (List.mem_append_left _ (List.mem_of_getElem? (i := 2) rfl))) dX12_laysTable_14 (hI19601 18 rfl) ?_
      have f19978 := IvM_f18 hIv
      refine g_icmp_ge (tgt := 47) (a := x19598.toInt) (b := (I 18).toInt) hk dX12_laysTable_17 (by decide) rfl rfl (fun c19979 => ?_) (fun c19979 => ?_)
      · skip
        refine g_aload_n hk dX12_laysTable_47 rfl ?_
        refine g_aload_n hk dX12_laysTable_48 rfl ?_
        refine gM_i18 (v := (I 18)) hk hin12 (List.mem_cons_of_mem _ (List.mem_append_left _ (List.mem_of_getElem? (i := 2) rfl))) dX12_laysTable_49 (hI19601 18 rfl) ?_
        refine g_iconst (v := 1) hk dX12_laysTable_52 (by decide) ?_
        refine g_isub hk dX12_laysTable_53 ?_
        refine g_topi (fun y19980 ey19980 => ?_)
        have hy19980 : y19980.toInt = (I 18).toInt - 1 := i32_sub ey19980 rfl rfl (by omega) (by omega)
        refine g_aload_n hk dX12_laysTable_54 rfl ?_
        refine gM_i18 (v := (I 18)) hk hin12 (List.mem_cons_of_mem _ (List.mem_append_left _ (List.mem_of_getElem? (i := 2) rfl))) dX12_laysTable_55 (hI19601 18 rfl) ?_
        refine g_iconst (v := 1) hk dX12_laysTable_58 (by decide) ?_
        refine g_isub hk dX12_laysTable_59 ?_
        refine g_topi (fun y19981 ey19981 => ?_)
        have hy19981 : y19981.toInt = (I 18).toInt - 1 := i32_sub ey19981 rfl rfl (by omega) (by omega)
        refine g_callV (n := 2) hk (j174_X12_atTable l D zt r g I19601 A19601 L19601 y19980 y19981 hV19601 (by omega) (by omega) (by omega) (by omega)) (SP.same _) (fun _ h => h) (gi_V (List.mem_cons_of_mem _ (List.mem_append_left _ (List.mem_of_getElem? (i := 3) rfl))) (List.mem_cons_of_mem _ (List.mem_append_left _ (List.mem_of_getElem? (i := 4) rfl))) (List.mem_cons_of_mem _ (List.mem_append_left _ (List.mem_of_getElem? (i := 5) rfl))) (List.mem_cons_of_mem _ (List.mem_append_left _ (List.mem_of_getElem? (i := 6) rfl))) (gi_sub (fun w h => (List.mem_cons_of_mem _ (List.mem_append_right _ (List.mem_append_right _ (List.mem_append_left _ h))))) zg_j174_X12_atTable)) rfl rfl rfl (by decide +kernel) ⟨Nat.le_of_ble_eq_true rfl, Nat.le_of_ble_eq_true rfl⟩ 0 rfl rfl rfl rfl (Nat.le_of_ble_eq_true rfl) ⟨Nat.le_of_ble_eq_true rfl, Nat.le_of_ble_eq_true rfl⟩ dX12_laysTable_60 (fun v ty' w' hp hk' => ?_)
        obtain ⟨y19982, rfl, rfl⟩ := hp
        show GW κ 3 0 0 (wM r g I19601 A19601 L19601) 63 [(2, .int x19598), (0, .ref (r 0)), (1, .int z1)] [.int y19982]
        have b19983l := Int32.le_toInt y19982
        have b19983h := Int32.toInt_lt y19982
        exact g_iret hk hR rfl ⟨I19601, A19601, L19601, (show Md [19, 20] I I19601 from (Md.tr (Md.up (Md.up Md.rf rfl) rfl) hI19601 rfl)), (show Md [21] A A19601 from (Md.tr Md.rf hA19601 rfl)), hV19601, y19982, rfl, rfl⟩ dX12_laysTable_63
      · skip
        refine g_aload_n hk dX12_laysTable_20 rfl ?_
        refine g_iload_n hk dX12_laysTable_21 rfl ?_
        refine g_callV (n := 1) hk (j176_X12_laysRow l D zt r g I19601 A19601 L19601 x19598 hV19601 (by omega) (by omega)) (SP.same _) (fun _ h => h) (gi_V (List.mem_cons_of_mem _ (List.mem_append_left _ (List.mem_of_getElem? (i := 7) rfl))) (List.mem_cons_of_mem _ (List.mem_append_left _ (List.mem_of_getElem? (i := 8) rfl))) (List.mem_cons_of_mem _ (List.mem_append_left _ (List.mem_of_getElem? (i := 9) rfl))) (List.mem_cons_of_mem _ (List.mem_append_left _ (List.mem_of_getElem? (i := 6) rfl))) (gi_sub (fun w h => (List.mem_cons_of_mem _ (List.mem_append_right _ (List.mem_append_right _ (List.mem_append_right _ (List.mem_append_left _ h)))))) zg_j176_X12_laysRow)) rfl rfl rfl (by decide +kernel) ⟨Nat.le_of_ble_eq_true rfl, Nat.le_of_ble_eq_true rfl⟩ 0 rfl rfl rfl rfl (Nat.le_of_ble_eq_true rfl) ⟨Nat.le_of_ble_eq_true rfl, Nat.le_of_ble_eq_true rfl⟩ dX12_laysTable_22 (fun v ty' w' hp hk' => ?_)
        obtain ⟨I19985, A19985, L19985, hI19985, hA19985, hV19985, y19984, rfl, rfl⟩ := hp
        show GW κ 3 0 0 (wM r g I19985 A19985 L19985) 25 [(2, .int x19598), (0, .ref (r 0)), (1, .int z1)] [.int y19984]
        refine g_iload_n hk dX12_laysTable_25 rfl ?_
        have b19986l := Int32.le_toInt y19984
        have b19986h := Int32.toInt_lt y19984
        have b19987l := Int32.le_toInt z1
        have b19987h := Int32.toInt_lt z1
        refine g_icmp_ge (tgt := 32) (a := y19984.toInt) (b := z1.toInt) hk dX12_laysTable_26 (by decide) rfl rfl (fun c19988 => ?_) (fun c19988 => ?_)
        · skip
          refine g_aload_n hk dX12_laysTable_32 rfl ?_
          refine g_iload_n hk dX12_laysTable_33 rfl ?_
          refine pM_i20 hk hin12 (List.mem_cons_of_mem _ (List.mem_append_left _ (List.mem_of_getElem? (i := 1) rfl))) dX12_laysTable_34 ?_
          refine g_ldcw (v := 2000000000) hk (List.mem_cons_of_mem _ (List.mem_append_left _ (List.mem_of_getElem? (i := 10) rfl))) dX12_laysTable_37 ?_
          exact g_iret hk hR rfl ⟨(upd I19985 20 x19598), A19985, L19985, (show Md [19, 20] I (upd I19985 20 x19598) from (Md.up (Md.tr (Md.tr (Md.up (Md.up Md.rf rfl) rfl) hI19601 rfl) hI19985 rfl) rfl)), (show Md [21] A A19985 from (Md.tr (Md.tr Md.rf hA19601 rfl) hA19985 rfl)), ⟨(IvM_f1 (I := I19985) (A := A19985) hV19985), (IvM_f2 (I := I19985) (A := A19985) hV19985), (IvM_f3 (I := I19985) (A := A19985) hV19985), (IvM_f4 (I := I19985) (A := A19985) hV19985), (IvM_f6 (I := I19985) (A := A19985) hV19985), (IvM_f8 (I := I19985) (A := A19985) hV19985), (IvM_f15 (I := I19985) (A := A19985) hV19985), (IvM_f16 (I := I19985) (A := A19985) hV19985), (IvM_f17 (I := I19985) (A := A19985) hV19985), (IvM_f18 (I := I19985) (A := A19985) hV19985), (IvM_f22 (I := I19985) (A := A19985) hV19985), (IvM_f23 (I := I19985) (A := A19985) hV19985), (IvM_f24 (I := I19985) (A := A19985) hV19985), (IvM_a11 (I := I19985) (A := A19985) hV19985), (IvM_a26 (I := I19985) (A := A19985) hV19985), (IvM_s8_0 (I := I19985) (A := A19985) hV19985), (IvM_s8_1 (I := I19985) (A := A19985) hV19985), (IvM_s10_0 (I := I19985) (A := A19985) hV19985), (IvM_s10_1 (I := I19985) (A := A19985) hV19985), (IvM_s17_0 (I := I19985) (A := A19985) hV19985), (IvM_s17_164 (I := I19985) (A := A19985) hV19985), (IvM_lv (I := I19985) (A := A19985) hV19985), (IvM_sd (I := I19985) (A := A19985) hV19985), (IvM_nq (I := I19985) (A := A19985) hV19985), (IvM_hr (I := I19985) (A := A19985) hV19985), (IvM_hh (I := I19985) (A := A19985) hV19985), trivial⟩, 2000000000, rfl, rfl⟩ dX12_laysTable_40
        · skip
          refine g_goto (tgt := 41) hk dX12_laysTable_29 (by decide) ?_
          obtain ⟨y19989, ey19989⟩ : ∃ y : Int32, y = x19598 + Int32.ofInt 1 := ⟨_, rfl⟩
          have hy19989 : y19989.toInt = x19598.toInt + 1 := i32_add ey19989 rfl (by decide) (by omega) (by omega)
          refine g_iinc (v := y19989) (lv' := [(2, .int y19989), (0, .ref (r 0)), (1, .int z1)]) hk 0 dX12_laysTable_41 rfl ey19989.symm (by decide) rfl ?_
          refine g_goto (tgt := 12) hk dX12_laysTable_44 (by decide) ?_
          exact g_lv (List.forall_mem_cons.mpr ⟨List.mem_of_getElem? (i := 0) rfl, (List.forall_mem_cons.mpr ⟨List.mem_of_getElem? (i := 1) rfl, (List.forall_mem_cons.mpr ⟨List.mem_of_getElem? (i := 2) rfl, (fun _ h => absurd h List.not_mem_nil)⟩)⟩)⟩) (ih19977 y19989 I19985 A19985 L19985 (show Md [19, 20] (upd (upd I 19 0) 20 (-1)) I19985 from Md.tr hI19601 (show Md [19, 20] I19601 I19985 from (Md.tr Md.rf hI19985 rfl)) rfl) (show Md [21] A A19985 from Md.tr hA19601 (show Md [21] A19601 A19985 from (Md.tr Md.rf hA19985 rfl)) rfl) hV19985 (by omega) (by omega) (by omega) (by omega))
  have k19990 : (0 : Int32).toInt = 0 := rfl
  obtain ⟨n19991, n19991a, n19991b⟩ : ∃ n : Nat, 17 - (0 : Int32).toInt < (n : Int) ∧ 0 < n := ⟨((17 - (0 : Int32).toInt : Int)).toNat + 1, by omega, by omega⟩
  exact lp19974 n19991 0 (upd (upd I 19 0) 20 (-1)) A L Md.rf Md.rf ⟨(IvM_f1 (I := I) (A := A) hIv), (IvM_f2 (I := I) (A := A) hIv), (IvM_f3 (I := I) (A := A) hIv), (IvM_f4 (I := I) (A := A) hIv), (IvM_f6 (I := I) (A := A) hIv), (IvM_f8 (I := I) (A := A) hIv), (IvM_f15 (I := I) (A := A) hIv), (IvM_f16 (I := I) (A := A) hIv), (IvM_f17 (I := I) (A := A) hIv), (IvM_f18 (I := I) (A := A) hIv), (IvM_f22 (I := I) (A := A) hIv), (IvM_f23 (I := I) (A := A) hIv), (IvM_f24 (I := I) (A := A) hIv), (IvM_a11 (I := I) (A := A) hIv), (IvM_a26 (I := I) (A := A) hIv), (IvM_s8_0 (I := I) (A := A) hIv), (IvM_s8_1 (I := I) (A := A) hIv), (IvM_s10_0 (I := I) (A := A) hIv), (IvM_s10_1 (I := I) (A := A) hIv), (IvM_s17_0 (I := I) (A := A) hIv), (IvM_s17_164 (I := I) (A := A) hIv), (IvM_lv (I := I) (A := A) hIv), (IvM_sd (I := I) (A := A) hIv), (IvM_nq (I := I) (A := A) hIv), (IvM_hr (I := I) (A := A) hIv), (IvM_hh (I := I) (A := A) hIv), trivial⟩ (by omega) (by omega) n19991a n19991b
def wo_j169_X12_distanceOf : List Cond := [Cond.methodLink RX12 301 yX12_laysBoth, Cond.instanceMethod yX12_laysBoth, Cond.selects RX12 yX12_laysBoth yX12_laysBoth, Cond.initialized RX12, Cond.constant RX12 282 (2000000000), Cond.methodLink RX12 304 yX12_laysTable, Cond.instanceMethod yX12_laysTable, Cond.selects RX12 yX12_laysTable yX12_laysTable]
def wz_j169_X12_distanceOf : List Cond := .code yX12_distanceOf cX12_distanceOf 3 (some .int) :: (wo_j169_X12_distanceOf ++ (wz_j170_X12_laysBoth ++ (wz_j173_X12_laysTable ++ ([] : List Cond))))
theorem zg_j169_X12_distanceOf : ∀ w ∈ wz_j169_X12_distanceOf, goodWord w = true := zg_cons rfl (zg_app (by decide +kernel) (zg_app zg_j170_X12_laysBoth (zg_app zg_j173_X12_laysTable zg_nil)))
theorem zi_j169_X12_distanceOf : ∀ w ∈ wz_j169_X12_distanceOf, w ∈ lw_tbl := zi_cons zw_1762 (zi_app (zi_cons zw_1763 (zi_cons zw_1765 (zi_cons zw_80 (zi_cons zw_115 (zi_cons zw_1775 (zi_cons zw_1776 (zi_cons zw_1778 (zi_cons zw_83 zi_nil)))))))) (zi_app zi_j170_X12_laysBoth (zi_app zi_j173_X12_laysTable zi_nil)))
set_option maxHeartbeats 4000000 in
set_option maxRecDepth 100000 in
theorem j169_X12_distanceOf (l : Launch) (D : va_G) (zt : Nat × Nat × Nat × (Nat → Nat) × (Nat → Nat)) (r : Nat → Nat) (g : Nat → ClassId) (I : Nat → Int32) (A : Nat → Nat → Int32) (L : Nat → Nat → Int64) (z1 : Int32) (z2 : Int32) (hIv : IvM I A) (hp0 : 0 ≤ z1.toInt) (hp1 : z1.toInt ≤ 4) (hp2 : 0 ≤ z2.toInt) (hp3 : z2.toInt ≤ 159) (hp4 : 1 ≤ (A 11 (5 * (I 15) + z1).toNatClampNeg).toInt) (hp5 : z2.toInt + (A 11 (5 * (I 15) + z1).toNatClampNeg).toInt ≤ 160) : GM l D zt (tyM g) yX12_distanceOf wz_j169_X12_distanceOf ({ frames := 5, cells := 0, slots := 0, locals := 112 } : Room) [.ref (r 0), .int z1, .int z2] (wM r g I A L) (fun v _ w' => ∃ (I' : Nat → Int32) (A' : Nat → Nat → Int32) (L' : Nat → Nat → Int64), Md [18, 19, 20] I I' ∧ Md [19, 20, 21] A A' ∧ IvM I' A' ∧ ∃ y0 : Int32, (1 ≤ (I' 18).toInt) ∧ v = some (.int y0) ∧ w' = wM r g I' A' L') 0 0 := by
  refine GM.of (cc := cX12_distanceOf) (maxL := 3) (ret := (some .int)) (own := RX12) (lv := [(0, .ref (r 0)), (1, .int z1), (2, .int z2)]) (by decide) rfl rfl (Nat.le_of_ble_eq_true rfl) rfl (fun κ sz hk hR hN => ?_)
  refine g_aload_n hk dX12_distanceOf_0 rfl ?_
  refine g_iload_n hk dX12_distanceOf_1 rfl ?_
  refine g_iload_n hk dX12_distanceOf_2 rfl ?_
  have f19593 : 0 ≤ (A 11 (5 * (I 15) + z1).toNatClampNeg).toInt ∧ (A 11 (5 * (I 15) + z1).toNatClampNeg).toInt ≤ 16 := IvM_a11 hIv _
  refine g_callV (n := 2) hk (j170_X12_laysBoth l D zt r g I A L z1 z2 hIv (by omega) (by omega) (by omega) (by omega) (by omega) (by omega)) (SP.same _) (fun _ h => h) (gi_V (List.mem_cons_of_mem _ (List.mem_append_left _ (List.mem_of_getElem? (i := 0) rfl))) (List.mem_cons_of_mem _ (List.mem_append_left _ (List.mem_of_getElem? (i := 1) rfl))) (List.mem_cons_of_mem _ (List.mem_append_left _ (List.mem_of_getElem? (i := 2) rfl))) (List.mem_cons_of_mem _ (List.mem_append_left _ (List.mem_of_getElem? (i := 3) rfl))) (gi_sub (fun w h => (List.mem_cons_of_mem _ (List.mem_append_right _ (List.mem_append_left _ h)))) zg_j170_X12_laysBoth)) rfl rfl rfl (by decide +kernel) ⟨Nat.le_of_ble_eq_true rfl, Nat.le_of_ble_eq_true rfl⟩ 0 rfl rfl rfl rfl (Nat.le_of_ble_eq_true rfl) ⟨Nat.le_of_ble_eq_true rfl, Nat.le_of_ble_eq_true rfl⟩ dX12_distanceOf_3 (fun v ty' w' hp hk' => ?_)
  obtain ⟨I19595, A19595, L19595, hI19595, hA19595, hV19595, r19596, rfl, rfl⟩ := hp
  have f19597 := IvM_f18 hV19595
  show GW κ 3 0 0 (wM r g I19595 A19595 L19595) 6 [(0, .ref (r 0)), (1, .int z1), (2, .int z2)] []
  refine g_aload_n hk dX12_distanceOf_6 rfl ?_
  refine g_ldcw (v := 2000000000) hk (List.mem_cons_of_mem _ (List.mem_append_left _ (List.mem_of_getElem? (i := 4) rfl))) dX12_distanceOf_7 ?_
  have k19992 : (2000000000 : Int32).toInt = 2000000000 := rfl
  refine g_callV (n := 1) hk (j173_X12_laysTable l D zt r g I19595 A19595 L19595 2000000000 hV19595) (SP.same _) (fun _ h => h) (gi_V (List.mem_cons_of_mem _ (List.mem_append_left _ (List.mem_of_getElem? (i := 5) rfl))) (List.mem_cons_of_mem _ (List.mem_append_left _ (List.mem_of_getElem? (i := 6) rfl))) (List.mem_cons_of_mem _ (List.mem_append_left _ (List.mem_of_getElem? (i := 7) rfl))) (List.mem_cons_of_mem _ (List.mem_append_left _ (List.mem_of_getElem? (i := 3) rfl))) (gi_sub (fun w h => (List.mem_cons_of_mem _ (List.mem_append_right _ (List.mem_append_right _ (List.mem_append_left _ h))))) zg_j173_X12_laysTable)) rfl rfl rfl (by decide +kernel) ⟨Nat.le_of_ble_eq_true rfl, Nat.le_of_ble_eq_true rfl⟩ 0 rfl rfl rfl rfl (Nat.le_of_ble_eq_true rfl) ⟨Nat.le_of_ble_eq_true rfl, Nat.le_of_ble_eq_true rfl⟩ dX12_distanceOf_10 (fun v ty' w' hp hk' => ?_)
  obtain ⟨I19994, A19994, L19994, hI19994, hA19994, hV19994, y19993, rfl, rfl⟩ := hp
  show GW κ 3 0 0 (wM r g I19994 A19994 L19994) 13 [(0, .ref (r 0)), (1, .int z1), (2, .int z2)] [.int y19993]
  have b19995l := Int32.le_toInt y19993
  have b19995h := Int32.toInt_lt y19993
  exact g_iret hk hR rfl ⟨I19994, A19994, L19994, (show Md [18, 19, 20] I I19994 from (Md.tr (Md.tr Md.rf hI19595 rfl) hI19994 rfl)), (show Md [19, 20, 21] A A19994 from (Md.tr (Md.tr Md.rf hA19595 rfl) hA19994 rfl)), hV19994, y19993, (by rw [show (I19994 18) = (I19595 18) from (hI19994 18 rfl)] <;> omega), rfl, rfl⟩ dX12_distanceOf_13
def wo_j167_X12_distance : List Cond := [Cond.methodLink RX12 342 yX12_isOf, Cond.instanceMethod yX12_isOf, Cond.selects RX12 yX12_isOf yX12_isOf, Cond.initialized RX12, Cond.methodLink RX12 323 yX12_copies, Cond.instanceMethod yX12_copies, Cond.selects RX12 yX12_copies yX12_copies, Cond.methodLink RX12 345 yX12_distanceOf, Cond.instanceMethod yX12_distanceOf, Cond.selects RX12 yX12_distanceOf yX12_distanceOf]
def wz_j167_X12_distance : List Cond := .code yX12_distance cX12_distance 3 (some .int) :: (wo_j167_X12_distance ++ (wz_j168_X12_isOf ++ (wz_j151_X12_copies ++ (wz_j169_X12_distanceOf ++ ([] : List Cond)))))
theorem zg_j167_X12_distance : ∀ w ∈ wz_j167_X12_distance, goodWord w = true := zg_cons rfl (zg_app (by decide +kernel) (zg_app zg_j168_X12_isOf (zg_app zg_j151_X12_copies (zg_app zg_j169_X12_distanceOf zg_nil))))
theorem zi_j167_X12_distance : ∀ w ∈ wz_j167_X12_distance, w ∈ lw_tbl := zi_cons zw_1754 (zi_app (zi_cons zw_1755 (zi_cons zw_1757 (zi_cons zw_78 (zi_cons zw_115 (zi_cons zw_1679 (zi_cons zw_1681 (zi_cons zw_70 (zi_cons zw_1759 (zi_cons zw_1761 (zi_cons zw_79 zi_nil)))))))))) (zi_app zi_j168_X12_isOf (zi_app zi_j151_X12_copies (zi_app zi_j169_X12_distanceOf zi_nil))))
set_option maxHeartbeats 4000000 in
set_option maxRecDepth 100000 in
theorem j167_X12_distance (l : Launch) (D : va_G) (zt : Nat × Nat × Nat × (Nat → Nat) × (Nat → Nat)) (r : Nat → Nat) (g : Nat → ClassId) (I : Nat → Int32) (A : Nat → Nat → Int32) (L : Nat → Nat → Int64) (z1 : Int32) (z2 : Int32) (hIv : IvM I A) : GM l D zt (tyM g) yX12_distance wz_j167_X12_distance ({ frames := 6, cells := 0, slots := 0, locals := 134 } : Room) [.ref (r 0), .int z1, .int z2] (wM r g I A L) (fun v _ w' => ∃ (I' : Nat → Int32) (A' : Nat → Nat → Int32) (L' : Nat → Nat → Int64), Md [18, 19, 20] I I' ∧ Md [18, 19, 20, 21] A A' ∧ IvM I' A' ∧ ∃ y0 : Int32, v = some (.int y0) ∧ w' = wM r g I' A' L') 0 0 := by
  refine GM.of (cc := cX12_distance) (maxL := 3) (ret := (some .int)) (own := RX12) (lv := [(0, .ref (r 0)), (1, .int z1), (2, .int z2)]) (by decide) rfl rfl (Nat.le_of_ble_eq_true rfl) rfl (fun κ sz hk hR hN => ?_)
  refine g_aload_n hk dX12_distance_0 rfl ?_
  refine g_iload_n hk dX12_distance_1 rfl ?_
  refine g_iload_n hk dX12_distance_2 rfl ?_
  refine g_callV (n := 2) hk (j168_X12_isOf l D zt r g I A L z1 z2 hIv) (SP.same _) (fun _ h => h) (gi_V (List.mem_cons_of_mem _ (List.mem_append_left _ (List.mem_of_getElem? (i := 0) rfl))) (List.mem_cons_of_mem _ (List.mem_append_left _ (List.mem_of_getElem? (i := 1) rfl))) (List.mem_cons_of_mem _ (List.mem_append_left _ (List.mem_of_getElem? (i := 2) rfl))) (List.mem_cons_of_mem _ (List.mem_append_left _ (List.mem_of_getElem? (i := 3) rfl))) (gi_sub (fun w h => (List.mem_cons_of_mem _ (List.mem_append_right _ (List.mem_append_left _ h)))) zg_j168_X12_isOf)) rfl rfl rfl (by decide +kernel) ⟨Nat.le_of_ble_eq_true rfl, Nat.le_of_ble_eq_true rfl⟩ 0 rfl rfl rfl rfl (Nat.le_of_ble_eq_true rfl) ⟨Nat.le_of_ble_eq_true rfl, Nat.le_of_ble_eq_true rfl⟩ dX12_distance_3 (fun v ty' w' hp hk' => ?_)
  rcases hp with ⟨rfl, rfl⟩ | ⟨c19485, c19486, c19487, c19488, c19489, c19490, c19491, c19492, c19493, rfl, rfl⟩
  · skip
    show GW κ 3 0 0 (wM r g I A L) 6 [(0, .ref (r 0)), (1, .int z1), (2, .int z2)] [.int 0]
    refine g_if_ne (tgt := 11) (a := 0) hk dX12_distance_6 (by decide) rfl (fun z9 => absurd z9 (show ¬ ((0 : Int) ≠ (0 : Int)) from by decide)) (fun _ => ?_)
    refine g_iconst (v := (-1)) hk dX12_distance_9 (by decide) ?_
    exact g_iret hk hR rfl ⟨I, A, L, (show Md [18, 19, 20] I I from Md.rf), (show Md [18, 19, 20, 21] A A from Md.rf), hIv, (-1), rfl, rfl⟩ dX12_distance_10
  · skip
    have f19495 : 0 ≤ (A 11 (5 * (I 15) + z1).toNatClampNeg).toInt ∧ (A 11 (5 * (I 15) + z1).toNatClampNeg).toInt ≤ 16 := IvM_a11 hIv _
    show GW κ 3 0 0 (wM r g I A L) 6 [(0, .ref (r 0)), (1, .int z1), (2, .int z2)] [.int 1]
    refine g_if_ne (tgt := 11) (a := 1) hk dX12_distance_6 (by decide) rfl (fun _ => ?_) (fun z9 => absurd (show (1 : Int) ≠ (0 : Int) from by decide) z9)
    refine g_aload_n hk dX12_distance_11 rfl ?_
    refine g_callV (n := 0) hk (j151_X12_copies l D zt r g I A L  hIv) (SP.same _) (fun _ h => h) (gi_V (List.mem_cons_of_mem _ (List.mem_append_left _ (List.mem_of_getElem? (i := 4) rfl))) (List.mem_cons_of_mem _ (List.mem_append_left _ (List.mem_of_getElem? (i := 5) rfl))) (List.mem_cons_of_mem _ (List.mem_append_left _ (List.mem_of_getElem? (i := 6) rfl))) (List.mem_cons_of_mem _ (List.mem_append_left _ (List.mem_of_getElem? (i := 3) rfl))) (gi_sub (fun w h => (List.mem_cons_of_mem _ (List.mem_append_right _ (List.mem_append_right _ (List.mem_append_left _ h))))) zg_j151_X12_copies)) rfl rfl rfl (by decide +kernel) ⟨Nat.le_of_ble_eq_true rfl, Nat.le_of_ble_eq_true rfl⟩ 0 rfl rfl rfl rfl (Nat.le_of_ble_eq_true rfl) ⟨Nat.le_of_ble_eq_true rfl, Nat.le_of_ble_eq_true rfl⟩ dX12_distance_12 (fun v ty' w' hp hk' => ?_)
    obtain ⟨I19497, A19497, L19497, hI19497, hA19497, hV19497, r19498, r19499, rfl, rfl⟩ := hp
    have f19500 := IvM_s17_0 hIv
    have f19501 := IvM_s17_164 hIv
    show GW κ 3 0 0 (wM r g I19497 A19497 L19497) 15 [(0, .ref (r 0)), (1, .int z1), (2, .int z2)] []
    refine g_aload_n hk dX12_distance_15 rfl ?_
    refine g_iload_n hk dX12_distance_16 rfl ?_
    refine g_iload_n hk dX12_distance_17 rfl ?_
    refine g_callV (n := 2) hk (j169_X12_distanceOf l D zt r g I19497 A19497 L19497 z1 z2 hV19497 (by omega) (by omega) (by omega) (by omega) (by first | (rw [show (A19497 11 (5 * (I19497 15) + z1).toNatClampNeg) = (A 11 (5 * (I 15) + z1).toNatClampNeg) from (by rw [show I19497 15 = (I 15) from (hI19497 15 rfl)]; exact (congrFun (hA19497 11 rfl) _))] <;> omega) | omega) (by first | (rw [show (A19497 11 (5 * (I19497 15) + z1).toNatClampNeg) = (A 11 (5 * (I 15) + z1).toNatClampNeg) from (by rw [show I19497 15 = (I 15) from (hI19497 15 rfl)]; exact (congrFun (hA19497 11 rfl) _))] <;> omega) | omega)) (SP.same _) (fun _ h => h) (gi_V (List.mem_cons_of_mem _ (List.mem_append_left _ (List.mem_of_getElem? (i := 7) rfl))) (List.mem_cons_of_mem _ (List.mem_append_left _ (List.mem_of_getElem? (i := 8) rfl))) (List.mem_cons_of_mem _ (List.mem_append_left _ (List.mem_of_getElem? (i := 9) rfl))) (List.mem_cons_of_mem _ (List.mem_append_left _ (List.mem_of_getElem? (i := 3) rfl))) (gi_sub (fun w h => (List.mem_cons_of_mem _ (List.mem_append_right _ (List.mem_append_right _ (List.mem_append_right _ (List.mem_append_left _ h)))))) zg_j169_X12_distanceOf)) rfl rfl rfl (by decide +kernel) ⟨Nat.le_of_ble_eq_true rfl, Nat.le_of_ble_eq_true rfl⟩ 0 rfl rfl rfl rfl (Nat.le_of_ble_eq_true rfl) ⟨Nat.le_of_ble_eq_true rfl, Nat.le_of_ble_eq_true rfl⟩ dX12_distance_18 (fun v ty' w' hp hk' => ?_)
    obtain ⟨I19997, A19997, L19997, hI19997, hA19997, hV19997, y19996, r19998, rfl, rfl⟩ := hp
    have f19999 := IvM_f18 hV19997
    show GW κ 3 0 0 (wM r g I19997 A19997 L19997) 21 [(0, .ref (r 0)), (1, .int z1), (2, .int z2)] [.int y19996]
    have b20000l := Int32.le_toInt y19996
    have b20000h := Int32.toInt_lt y19996
    exact g_iret hk hR rfl ⟨I19997, A19997, L19997, (show Md [18, 19, 20] I I19997 from (Md.tr (Md.tr Md.rf hI19497 rfl) hI19997 rfl)), (show Md [18, 19, 20, 21] A A19997 from (Md.tr (Md.tr Md.rf hA19497 rfl) hA19997 rfl)), hV19997, y19996, rfl, rfl⟩ dX12_distance_21
def wo_j181_X12_overOf : List Cond := [Cond.fieldLink RX12 267 "WarpDeskModel" "wide" "I", Cond.constant RX12 307 (-2000000000), Cond.constant RX12 282 (2000000000), Cond.methodLink RX12 279 yX12_isBand, Cond.instanceMethod yX12_isBand, Cond.selects RX12 yX12_isBand yX12_isBand, Cond.initialized RX12, Cond.fieldLink RX12 76 "WarpDeskModel" "firstAt" "[I", Cond.fieldLink RX12 79 "WarpDeskModel" "otherAt" "[I", Cond.methodLink RX12 289 yX12_costOf, Cond.instanceMethod yX12_costOf, Cond.selects RX12 yX12_costOf yX12_costOf]
def wz_j181_X12_overOf : List Cond := .code yX12_overOf cX12_overOf 6 (some .int) :: (wo_j181_X12_overOf ++ (wsX120 ++ (wz_j175_X12_isBand ++ (wz_j178_X12_costOf ++ ([] : List Cond)))))
theorem zg_j181_X12_overOf : ∀ w ∈ wz_j181_X12_overOf, goodWord w = true := zg_cons rfl (zg_app (by decide +kernel) (zg_app zgU_wsX120 (zg_app zg_j175_X12_isBand (zg_app zg_j178_X12_costOf zg_nil))))
theorem zi_j181_X12_overOf : ∀ w ∈ wz_j181_X12_overOf, w ∈ lw_tbl := zi_cons zw_1810 (zi_app (zi_cons zw_1415 (zi_cons zw_1811 (zi_cons zw_1775 (zi_cons zw_1784 (zi_cons zw_1786 (zi_cons zw_85 (zi_cons zw_115 (zi_cons zw_1416 (zi_cons zw_1417 (zi_cons zw_1795 (zi_cons zw_1797 (zi_cons zw_87 zi_nil)))))))))))) (zi_app inX12 (zi_app zi_j175_X12_isBand (zi_app zi_j178_X12_costOf zi_nil))))
set_option maxHeartbeats 4000000 in
set_option maxRecDepth 100000 in
theorem j181_X12_overOf (l : Launch) (D : va_G) (zt : Nat × Nat × Nat × (Nat → Nat) × (Nat → Nat)) (r : Nat → Nat) (g : Nat → ClassId) (I : Nat → Int32) (A : Nat → Nat → Int32) (L : Nat → Nat → Int64) (hIv : IvM I A) : GM l D zt (tyM g) yX12_overOf wz_j181_X12_overOf ({ frames := 2, cells := 0, slots := 0, locals := 44 } : Room) [.ref (r 0)] (wM r g I A L) (fun v _ w' => ∃ y0 : Int32, v = some (.int y0) ∧ w' = wM r g I A L) 0 0 := by
  refine GM.of (cc := cX12_overOf) (maxL := 6) (ret := (some .int)) (own := RX12) (lv := [(0, .ref (r 0))]) (by decide) rfl rfl (Nat.le_of_ble_eq_true rfl) rfl (fun κ sz hk hR hN => ?_)
  have hin12 : ∀ w ∈ u_ws RX12 TX12 55, w ∈ wz_j181_X12_overOf := fun w h => (List.mem_cons_of_mem _ (List.mem_append_right _ (List.mem_append_left _ h)))
  refine g_iconst (v := 0) hk dX12_overOf_0 (by decide) ?_
  refine g_istore_n (lv' := [(1, .int 0), (0, .ref (r 0))]) hk dX12_overOf_1 (by decide) rfl ?_
  refine g_iconst (v := 0) hk dX12_overOf_2 (by decide) ?_
  refine g_istore_n (lv' := [(2, .int 0), (1, .int 0), (0, .ref (r 0))]) hk dX12_overOf_3 (by decide) rfl ?_
  have lp20771 : ∀ (n20772 : Nat) (x20036 : Int32) (x20037 : Int32), (0 ≤ x20036.toInt) → (x20036.toInt ≤ 16) → (17 - x20036.toInt < (n20772 : Int)) → (0 < n20772) → GW κ 6 0 0 (wM r g I A L) 4 [(2, .int x20036), (1, .int x20037), (0, .ref (r 0))] [] := by
    intro n20772
    induction n20772 with
    | zero =>
      intro x20036 x20037 h20769 h20770 m20773 m20773z
      exact absurd m20773z (Nat.lt_irrefl 0)
    | succ n20772 ih20774 =>
      intro x20036 x20037 h20769 h20770 m20773 m20773z
      refine g_iload_n hk dX12_overOf_4 rfl ?_
      refine g_aload_n hk dX12_overOf_5 rfl ?_
      refine gM_i18 (v := (I 18)) hk hin12 (List.mem_cons_of_mem _ (List.mem_append_left _ (List.mem_of_getElem? (i := 0) rfl))) dX12_overOf_6 rfl ?_
      have f20775 := IvM_f18 hIv
      refine g_icmp_ge (tgt := 148) (a := x20036.toInt) (b := (I 18).toInt) hk dX12_overOf_9 (by decide) rfl rfl (fun c20776 => ?_) (fun c20776 => ?_)
      · skip
        refine g_iload_n hk dX12_overOf_148 rfl ?_
        have b20777l := Int32.le_toInt x20037
        have b20777h := Int32.toInt_lt x20037
        exact g_iret hk hR rfl ⟨x20037, rfl, rfl⟩ dX12_overOf_149
      · skip
        refine g_ldcw (v := (-2000000000)) hk (List.mem_cons_of_mem _ (List.mem_append_left _ (List.mem_of_getElem? (i := 1) rfl))) dX12_overOf_12 ?_
        refine g_istore_n (lv' := [(3, .int (-2000000000)), (2, .int x20036), (1, .int x20037), (0, .ref (r 0))]) hk dX12_overOf_15 (by decide) rfl ?_
        refine g_ldcw (v := 2000000000) hk (List.mem_cons_of_mem _ (List.mem_append_left _ (List.mem_of_getElem? (i := 2) rfl))) dX12_overOf_16 ?_
        refine g_istore (lv' := [(4, .int 2000000000), (3, .int (-2000000000)), (2, .int x20036), (1, .int x20037), (0, .ref (r 0))]) hk dX12_overOf_19 (by decide) rfl ?_
        refine g_iconst (v := 0) hk dX12_overOf_21 (by decide) ?_
        refine g_istore (lv' := [(5, .int 0), (4, .int 2000000000), (3, .int (-2000000000)), (2, .int x20036), (1, .int x20037), (0, .ref (r 0))]) hk dX12_overOf_22 (by decide) rfl ?_
        have lp20926 : ∀ (n20927 : Nat) (x20778 : Int32) (x20779 : Int32) (x20780 : Int32), (0 ≤ x20778.toInt) → (x20778.toInt ≤ 16) → (x20779.toInt ≤ 2000000000) → ((-2000000000) ≤ x20780.toInt) → (17 - x20778.toInt < (n20927 : Int)) → (0 < n20927) → GW κ 6 0 0 (wM r g I A L) 24 [(5, .int x20778), (4, .int x20779), (3, .int x20780), (2, .int x20036), (1, .int x20037), (0, .ref (r 0))] [] := by
          intro n20927
          induction n20927 with
          | zero =>
            intro x20778 x20779 x20780 h20922 h20923 h20924 h20925 m20928 m20928z
            exact absurd m20928z (Nat.lt_irrefl 0)
          | succ n20927 ih20929 =>
            intro x20778 x20779 x20780 h20922 h20923 h20924 h20925 m20928 m20928z
            refine g_iload hk dX12_overOf_24 rfl ?_
            refine g_aload_n hk dX12_overOf_26 rfl ?_
            refine gM_i18 (v := (I 18)) hk hin12 (List.mem_cons_of_mem _ (List.mem_append_left _ (List.mem_of_getElem? (i := 0) rfl))) dX12_overOf_27 rfl ?_
            refine g_icmp_ge (tgt := 92) (a := x20778.toInt) (b := (I 18).toInt) hk dX12_overOf_30 (by decide) rfl rfl (fun c20930 => ?_) (fun c20930 => ?_)
            · skip
              refine g_aload_n hk dX12_overOf_92 rfl ?_
              refine gM_r0_39 hk hin12 (List.mem_cons_of_mem _ (List.mem_append_left _ (List.mem_of_getElem? (i := 8) rfl))) dX12_overOf_93 ?_
              refine g_iload_n hk dX12_overOf_96 rfl ?_
              refine lM_20 (v := (A 20 x20036.toNatClampNeg)) hk (vp_in_iff.mpr ⟨by omega, by omega⟩) rfl dX12_overOf_97 ?_
              refine g_iload_n hk dX12_overOf_98 rfl ?_
              have b20931l := Int32.le_toInt (A 20 x20036.toNatClampNeg)
              have b20931h := Int32.toInt_lt (A 20 x20036.toNatClampNeg)
              have b20932l := Int32.le_toInt x20780
              have b20932h := Int32.toInt_lt x20780
              refine g_icmp_le (tgt := 116) (a := (A 20 x20036.toNatClampNeg).toInt) (b := x20780.toInt) hk dX12_overOf_99 (by decide) rfl rfl (fun c20933 => ?_) (fun c20933 => ?_)
              · skip
                refine g_aload_n hk dX12_overOf_116 rfl ?_
                refine gM_r0_39 hk hin12 (List.mem_cons_of_mem _ (List.mem_append_left _ (List.mem_of_getElem? (i := 8) rfl))) dX12_overOf_117 ?_
                refine g_iload_n hk dX12_overOf_120 rfl ?_
                refine lM_20 (v := (A 20 x20036.toNatClampNeg)) hk (vp_in_iff.mpr ⟨by omega, by omega⟩) rfl dX12_overOf_121 ?_
                refine g_iload hk dX12_overOf_122 rfl ?_
                have b20934l := Int32.le_toInt x20779
                have b20934h := Int32.toInt_lt x20779
                refine g_icmp_ge (tgt := 142) (a := (A 20 x20036.toNatClampNeg).toInt) (b := x20779.toInt) hk dX12_overOf_124 (by decide) rfl rfl (fun c20935 => ?_) (fun c20935 => ?_)
                · skip
                  obtain ⟨y20936, ey20936⟩ : ∃ y : Int32, y = x20036 + Int32.ofInt 1 := ⟨_, rfl⟩
                  have hy20936 : y20936.toInt = x20036.toInt + 1 := i32_add ey20936 rfl (by decide) (by omega) (by omega)
                  refine g_iinc (v := y20936) (lv' := [(2, .int y20936), (5, .int x20778), (4, .int x20779), (3, .int x20780), (1, .int x20037), (0, .ref (r 0))]) hk 3 dX12_overOf_142 rfl ey20936.symm (by decide) rfl ?_
                  refine g_goto (tgt := 4) hk dX12_overOf_145 (by decide) ?_
                  have b20937l := Int32.le_toInt x20037
                  have b20937h := Int32.toInt_lt x20037
                  exact g_lv (List.forall_mem_cons.mpr ⟨List.mem_of_getElem? (i := 0) rfl, (List.forall_mem_cons.mpr ⟨List.mem_of_getElem? (i := 4) rfl, (List.forall_mem_cons.mpr ⟨List.mem_of_getElem? (i := 5) rfl, (fun _ h => absurd h List.not_mem_nil)⟩)⟩)⟩) (ih20774 y20936 x20037 (by omega) (by omega) (by omega) (by omega))
                · skip
                  refine g_iload_n hk dX12_overOf_127 rfl ?_
                  refine g_aload_n hk dX12_overOf_128 rfl ?_
                  refine g_aload_n hk dX12_overOf_129 rfl ?_
                  refine gM_r0_39 hk hin12 (List.mem_cons_of_mem _ (List.mem_append_left _ (List.mem_of_getElem? (i := 8) rfl))) dX12_overOf_130 ?_
                  refine g_iload_n hk dX12_overOf_133 rfl ?_
                  refine lM_20 (v := (A 20 x20036.toNatClampNeg)) hk (vp_in_iff.mpr ⟨by omega, by omega⟩) rfl dX12_overOf_134 ?_
                  refine g_iload hk dX12_overOf_135 rfl ?_
                  refine g_callV (n := 2) hk (j178_X12_costOf l D zt r g I A L (A 20 x20036.toNatClampNeg) x20779 hIv) (SP.same _) (fun _ h => h) (gi_V (List.mem_cons_of_mem _ (List.mem_append_left _ (List.mem_of_getElem? (i := 9) rfl))) (List.mem_cons_of_mem _ (List.mem_append_left _ (List.mem_of_getElem? (i := 10) rfl))) (List.mem_cons_of_mem _ (List.mem_append_left _ (List.mem_of_getElem? (i := 11) rfl))) (List.mem_cons_of_mem _ (List.mem_append_left _ (List.mem_of_getElem? (i := 6) rfl))) (gi_sub (fun w h => (List.mem_cons_of_mem _ (List.mem_append_right _ (List.mem_append_right _ (List.mem_append_right _ (List.mem_append_left _ h)))))) zg_j178_X12_costOf)) rfl rfl rfl (by decide +kernel) ⟨Nat.le_of_ble_eq_true rfl, Nat.le_of_ble_eq_true rfl⟩ 0 rfl rfl rfl rfl (Nat.le_of_ble_eq_true rfl) ⟨Nat.le_of_ble_eq_true rfl, Nat.le_of_ble_eq_true rfl⟩ dX12_overOf_137 (fun v ty' w' hp hk' => ?_)
                  obtain ⟨y20938, rfl, rfl⟩ := hp
                  show GW κ 6 0 0 (wM r g I A L) 140 [(5, .int x20778), (4, .int x20779), (3, .int x20780), (2, .int x20036), (1, .int x20037), (0, .ref (r 0))] [.int y20938, .int x20037]
                  have b20939l := Int32.le_toInt x20037
                  have b20939h := Int32.toInt_lt x20037
                  have b20940l := Int32.le_toInt y20938
                  have b20940h := Int32.toInt_lt y20938
                  refine g_iadd hk dX12_overOf_140 ?_
                  refine g_topi (fun y20941 ey20941 => ?_)
                  refine g_istore_n (lv' := [(1, .int y20941), (5, .int x20778), (4, .int x20779), (3, .int x20780), (2, .int x20036), (0, .ref (r 0))]) hk dX12_overOf_141 (by decide) rfl ?_
                  obtain ⟨y20942, ey20942⟩ : ∃ y : Int32, y = x20036 + Int32.ofInt 1 := ⟨_, rfl⟩
                  have hy20942 : y20942.toInt = x20036.toInt + 1 := i32_add ey20942 rfl (by decide) (by omega) (by omega)
                  refine g_iinc (v := y20942) (lv' := [(2, .int y20942), (1, .int y20941), (5, .int x20778), (4, .int x20779), (3, .int x20780), (0, .ref (r 0))]) hk 4 dX12_overOf_142 rfl ey20942.symm (by decide) rfl ?_
                  refine g_goto (tgt := 4) hk dX12_overOf_145 (by decide) ?_
                  have b20943l := Int32.le_toInt y20941
                  have b20943h := Int32.toInt_lt y20941
                  exact g_lv (List.forall_mem_cons.mpr ⟨List.mem_of_getElem? (i := 0) rfl, (List.forall_mem_cons.mpr ⟨List.mem_of_getElem? (i := 1) rfl, (List.forall_mem_cons.mpr ⟨List.mem_of_getElem? (i := 5) rfl, (fun _ h => absurd h List.not_mem_nil)⟩)⟩)⟩) (ih20774 y20942 y20941 (by omega) (by omega) (by omega) (by omega))
              · skip
                refine g_iload_n hk dX12_overOf_102 rfl ?_
                refine g_aload_n hk dX12_overOf_103 rfl ?_
                refine g_aload_n hk dX12_overOf_104 rfl ?_
                refine gM_r0_39 hk hin12 (List.mem_cons_of_mem _ (List.mem_append_left _ (List.mem_of_getElem? (i := 8) rfl))) dX12_overOf_105 ?_
                refine g_iload_n hk dX12_overOf_108 rfl ?_
                refine lM_20 (v := (A 20 x20036.toNatClampNeg)) hk (vp_in_iff.mpr ⟨by omega, by omega⟩) rfl dX12_overOf_109 ?_
                refine g_iload_n hk dX12_overOf_110 rfl ?_
                refine g_callV (n := 2) hk (j178_X12_costOf l D zt r g I A L (A 20 x20036.toNatClampNeg) x20780 hIv) (SP.same _) (fun _ h => h) (gi_V (List.mem_cons_of_mem _ (List.mem_append_left _ (List.mem_of_getElem? (i := 9) rfl))) (List.mem_cons_of_mem _ (List.mem_append_left _ (List.mem_of_getElem? (i := 10) rfl))) (List.mem_cons_of_mem _ (List.mem_append_left _ (List.mem_of_getElem? (i := 11) rfl))) (List.mem_cons_of_mem _ (List.mem_append_left _ (List.mem_of_getElem? (i := 6) rfl))) (gi_sub (fun w h => (List.mem_cons_of_mem _ (List.mem_append_right _ (List.mem_append_right _ (List.mem_append_right _ (List.mem_append_left _ h)))))) zg_j178_X12_costOf)) rfl rfl rfl (by decide +kernel) ⟨Nat.le_of_ble_eq_true rfl, Nat.le_of_ble_eq_true rfl⟩ 0 rfl rfl rfl rfl (Nat.le_of_ble_eq_true rfl) ⟨Nat.le_of_ble_eq_true rfl, Nat.le_of_ble_eq_true rfl⟩ dX12_overOf_111 (fun v ty' w' hp hk' => ?_)
                obtain ⟨y20944, rfl, rfl⟩ := hp
                show GW κ 6 0 0 (wM r g I A L) 114 [(5, .int x20778), (4, .int x20779), (3, .int x20780), (2, .int x20036), (1, .int x20037), (0, .ref (r 0))] [.int y20944, .int x20037]
                have b20945l := Int32.le_toInt x20037
                have b20945h := Int32.toInt_lt x20037
                have b20946l := Int32.le_toInt y20944
                have b20946h := Int32.toInt_lt y20944
                refine g_iadd hk dX12_overOf_114 ?_
                refine g_topi (fun y20947 ey20947 => ?_)
                refine g_istore_n (lv' := [(1, .int y20947), (5, .int x20778), (4, .int x20779), (3, .int x20780), (2, .int x20036), (0, .ref (r 0))]) hk dX12_overOf_115 (by decide) rfl ?_
                refine g_aload_n hk dX12_overOf_116 rfl ?_
                refine gM_r0_39 hk hin12 (List.mem_cons_of_mem _ (List.mem_append_left _ (List.mem_of_getElem? (i := 8) rfl))) dX12_overOf_117 ?_
                refine g_iload_n hk dX12_overOf_120 rfl ?_
                refine lM_20 (v := (A 20 x20036.toNatClampNeg)) hk (vp_in_iff.mpr ⟨by omega, by omega⟩) rfl dX12_overOf_121 ?_
                refine g_iload hk dX12_overOf_122 rfl ?_
                have b20948l := Int32.le_toInt x20779
                have b20948h := Int32.toInt_lt x20779
                refine g_icmp_ge (tgt := 142) (a := (A 20 x20036.toNatClampNeg).toInt) (b := x20779.toInt) hk dX12_overOf_124 (by decide) rfl rfl (fun c20949 => ?_) (fun c20949 => ?_)
                · skip
                  obtain ⟨y20950, ey20950⟩ : ∃ y : Int32, y = x20036 + Int32.ofInt 1 := ⟨_, rfl⟩
                  have hy20950 : y20950.toInt = x20036.toInt + 1 := i32_add ey20950 rfl (by decide) (by omega) (by omega)
                  refine g_iinc (v := y20950) (lv' := [(2, .int y20950), (1, .int y20947), (5, .int x20778), (4, .int x20779), (3, .int x20780), (0, .ref (r 0))]) hk 4 dX12_overOf_142 rfl ey20950.symm (by decide) rfl ?_
                  refine g_goto (tgt := 4) hk dX12_overOf_145 (by decide) ?_
                  have b20951l := Int32.le_toInt y20947
                  have b20951h := Int32.toInt_lt y20947
                  exact g_lv (List.forall_mem_cons.mpr ⟨List.mem_of_getElem? (i := 0) rfl, (List.forall_mem_cons.mpr ⟨List.mem_of_getElem? (i := 1) rfl, (List.forall_mem_cons.mpr ⟨List.mem_of_getElem? (i := 5) rfl, (fun _ h => absurd h List.not_mem_nil)⟩)⟩)⟩) (ih20774 y20950 y20947 (by omega) (by omega) (by omega) (by omega))
                · skip
                  refine g_iload_n hk dX12_overOf_127 rfl ?_
                  refine g_aload_n hk dX12_overOf_128 rfl ?_
                  refine g_aload_n hk dX12_overOf_129 rfl ?_
                  refine gM_r0_39 hk hin12 (List.mem_cons_of_mem _ (List.mem_append_left _ (List.mem_of_getElem? (i := 8) rfl))) dX12_overOf_130 ?_
                  refine g_iload_n hk dX12_overOf_133 rfl ?_
                  refine lM_20 (v := (A 20 x20036.toNatClampNeg)) hk (vp_in_iff.mpr ⟨by omega, by omega⟩) rfl dX12_overOf_134 ?_
                  refine g_iload hk dX12_overOf_135 rfl ?_
                  refine g_callV (n := 2) hk (j178_X12_costOf l D zt r g I A L (A 20 x20036.toNatClampNeg) x20779 hIv) (SP.same _) (fun _ h => h) (gi_V (List.mem_cons_of_mem _ (List.mem_append_left _ (List.mem_of_getElem? (i := 9) rfl))) (List.mem_cons_of_mem _ (List.mem_append_left _ (List.mem_of_getElem? (i := 10) rfl))) (List.mem_cons_of_mem _ (List.mem_append_left _ (List.mem_of_getElem? (i := 11) rfl))) (List.mem_cons_of_mem _ (List.mem_append_left _ (List.mem_of_getElem? (i := 6) rfl))) (gi_sub (fun w h => (List.mem_cons_of_mem _ (List.mem_append_right _ (List.mem_append_right _ (List.mem_append_right _ (List.mem_append_left _ h)))))) zg_j178_X12_costOf)) rfl rfl rfl (by decide +kernel) ⟨Nat.le_of_ble_eq_true rfl, Nat.le_of_ble_eq_true rfl⟩ 0 rfl rfl rfl rfl (Nat.le_of_ble_eq_true rfl) ⟨Nat.le_of_ble_eq_true rfl, Nat.le_of_ble_eq_true rfl⟩ dX12_overOf_137 (fun v ty' w' hp hk' => ?_)
                  obtain ⟨y20952, rfl, rfl⟩ := hp
                  show GW κ 6 0 0 (wM r g I A L) 140 [(1, .int y20947), (5, .int x20778), (4, .int x20779), (3, .int x20780), (2, .int x20036), (0, .ref (r 0))] [.int y20952, .int y20947]
                  have b20953l := Int32.le_toInt y20947
                  have b20953h := Int32.toInt_lt y20947
                  have b20954l := Int32.le_toInt y20952
                  have b20954h := Int32.toInt_lt y20952
                  refine g_iadd hk dX12_overOf_140 ?_
                  refine g_topi (fun y20955 ey20955 => ?_)
                  refine g_istore_n (lv' := [(1, .int y20955), (5, .int x20778), (4, .int x20779), (3, .int x20780), (2, .int x20036), (0, .ref (r 0))]) hk dX12_overOf_141 (by decide) rfl ?_
                  obtain ⟨y20956, ey20956⟩ : ∃ y : Int32, y = x20036 + Int32.ofInt 1 := ⟨_, rfl⟩
                  have hy20956 : y20956.toInt = x20036.toInt + 1 := i32_add ey20956 rfl (by decide) (by omega) (by omega)
                  refine g_iinc (v := y20956) (lv' := [(2, .int y20956), (1, .int y20955), (5, .int x20778), (4, .int x20779), (3, .int x20780), (0, .ref (r 0))]) hk 4 dX12_overOf_142 rfl ey20956.symm (by decide) rfl ?_
                  refine g_goto (tgt := 4) hk dX12_overOf_145 (by decide) ?_
                  have b20957l := Int32.le_toInt y20955
                  have b20957h := Int32.toInt_lt y20955
                  exact g_lv (List.forall_mem_cons.mpr ⟨List.mem_of_getElem? (i := 0) rfl, (List.forall_mem_cons.mpr ⟨List.mem_of_getElem? (i := 1) rfl, (List.forall_mem_cons.mpr ⟨List.mem_of_getElem? (i := 5) rfl, (fun _ h => absurd h List.not_mem_nil)⟩)⟩)⟩) (ih20774 y20956 y20955 (by omega) (by omega) (by omega) (by omega))
            · skip
              refine g_aload_n hk dX12_overOf_33 rfl ?_
              refine g_iload hk dX12_overOf_34 rfl ?_
              refine g_iload_n hk dX12_overOf_36 rfl ?_
              refine g_callV (n := 2) hk (j175_X12_isBand l D zt r g I A L x20778 x20036 hIv (by omega) (by omega) (by omega) (by omega)) (SP.same _) (fun _ h => h) (gi_V (List.mem_cons_of_mem _ (List.mem_append_left _ (List.mem_of_getElem? (i := 3) rfl))) (List.mem_cons_of_mem _ (List.mem_append_left _ (List.mem_of_getElem? (i := 4) rfl))) (List.mem_cons_of_mem _ (List.mem_append_left _ (List.mem_of_getElem? (i := 5) rfl))) (List.mem_cons_of_mem _ (List.mem_append_left _ (List.mem_of_getElem? (i := 6) rfl))) (gi_sub (fun w h => (List.mem_cons_of_mem _ (List.mem_append_right _ (List.mem_append_right _ (List.mem_append_left _ h))))) zg_j175_X12_isBand)) rfl rfl rfl (by decide +kernel) ⟨Nat.le_of_ble_eq_true rfl, Nat.le_of_ble_eq_true rfl⟩ 0 rfl rfl rfl rfl (Nat.le_of_ble_eq_true rfl) ⟨Nat.le_of_ble_eq_true rfl, Nat.le_of_ble_eq_true rfl⟩ dX12_overOf_37 (fun v ty' w' hp hk' => ?_)
              rcases hp with ⟨rfl, rfl⟩ | ⟨c20959, rfl, rfl⟩
              · skip
                show GW κ 6 0 0 (wM r g I A L) 40 [(5, .int x20778), (4, .int x20779), (3, .int x20780), (2, .int x20036), (1, .int x20037), (0, .ref (r 0))] [.int 0]
                refine g_if_ne (tgt := 46) (a := 0) hk dX12_overOf_40 (by decide) rfl (fun z9 => absurd z9 (show ¬ ((0 : Int) ≠ (0 : Int)) from by decide)) (fun _ => ?_)
                refine g_goto (tgt := 86) hk dX12_overOf_43 (by decide) ?_
                obtain ⟨y20961, ey20961⟩ : ∃ y : Int32, y = x20778 + Int32.ofInt 1 := ⟨_, rfl⟩
                have hy20961 : y20961.toInt = x20778.toInt + 1 := i32_add ey20961 rfl (by decide) (by omega) (by omega)
                refine g_iinc (v := y20961) (lv' := [(5, .int y20961), (4, .int x20779), (3, .int x20780), (2, .int x20036), (1, .int x20037), (0, .ref (r 0))]) hk 0 dX12_overOf_86 rfl ey20961.symm (by decide) rfl ?_
                refine g_goto (tgt := 24) hk dX12_overOf_89 (by decide) ?_
                have b20962l := Int32.le_toInt x20779
                have b20962h := Int32.toInt_lt x20779
                have b20963l := Int32.le_toInt x20780
                have b20963h := Int32.toInt_lt x20780
                exact g_lv (List.forall_mem_cons.mpr ⟨List.mem_of_getElem? (i := 0) rfl, (List.forall_mem_cons.mpr ⟨List.mem_of_getElem? (i := 1) rfl, (List.forall_mem_cons.mpr ⟨List.mem_of_getElem? (i := 2) rfl, (List.forall_mem_cons.mpr ⟨List.mem_of_getElem? (i := 3) rfl, (List.forall_mem_cons.mpr ⟨List.mem_of_getElem? (i := 4) rfl, (List.forall_mem_cons.mpr ⟨List.mem_of_getElem? (i := 5) rfl, (fun _ h => absurd h List.not_mem_nil)⟩)⟩)⟩)⟩)⟩)⟩) (ih20929 y20961 x20779 x20780 (by omega) (by omega) (by omega) (by omega) (by omega) (by omega))
              · skip
                show GW κ 6 0 0 (wM r g I A L) 40 [(5, .int x20778), (4, .int x20779), (3, .int x20780), (2, .int x20036), (1, .int x20037), (0, .ref (r 0))] [.int 1]
                refine g_if_ne (tgt := 46) (a := 1) hk dX12_overOf_40 (by decide) rfl (fun _ => ?_) (fun z9 => absurd (show (1 : Int) ≠ (0 : Int) from by decide) z9)
                refine g_aload_n hk dX12_overOf_46 rfl ?_
                refine gM_r0_38 hk hin12 (List.mem_cons_of_mem _ (List.mem_append_left _ (List.mem_of_getElem? (i := 7) rfl))) dX12_overOf_47 ?_
                refine g_iload hk dX12_overOf_50 rfl ?_
                refine lM_19 (v := (A 19 x20778.toNatClampNeg)) hk (vp_in_iff.mpr ⟨by omega, by omega⟩) rfl dX12_overOf_52 ?_
                refine g_iload_n hk dX12_overOf_53 rfl ?_
                have b20964l := Int32.le_toInt (A 19 x20778.toNatClampNeg)
                have b20964h := Int32.toInt_lt (A 19 x20778.toNatClampNeg)
                have b20965l := Int32.le_toInt x20780
                have b20965h := Int32.toInt_lt x20780
                refine g_icmp_le (tgt := 65) (a := (A 19 x20778.toNatClampNeg).toInt) (b := x20780.toInt) hk dX12_overOf_54 (by decide) rfl rfl (fun c20966 => ?_) (fun c20966 => ?_)
                · skip
                  refine g_aload_n hk dX12_overOf_65 rfl ?_
                  refine gM_r0_38 hk hin12 (List.mem_cons_of_mem _ (List.mem_append_left _ (List.mem_of_getElem? (i := 7) rfl))) dX12_overOf_66 ?_
                  refine g_iload hk dX12_overOf_69 rfl ?_
                  refine lM_19 (v := (A 19 x20778.toNatClampNeg)) hk (vp_in_iff.mpr ⟨by omega, by omega⟩) rfl dX12_overOf_71 ?_
                  refine g_iload hk dX12_overOf_72 rfl ?_
                  have b20967l := Int32.le_toInt x20779
                  have b20967h := Int32.toInt_lt x20779
                  refine g_icmp_ge (tgt := 86) (a := (A 19 x20778.toNatClampNeg).toInt) (b := x20779.toInt) hk dX12_overOf_74 (by decide) rfl rfl (fun c20968 => ?_) (fun c20968 => ?_)
                  · skip
                    obtain ⟨y20969, ey20969⟩ : ∃ y : Int32, y = x20778 + Int32.ofInt 1 := ⟨_, rfl⟩
                    have hy20969 : y20969.toInt = x20778.toInt + 1 := i32_add ey20969 rfl (by decide) (by omega) (by omega)
                    refine g_iinc (v := y20969) (lv' := [(5, .int y20969), (4, .int x20779), (3, .int x20780), (2, .int x20036), (1, .int x20037), (0, .ref (r 0))]) hk 0 dX12_overOf_86 rfl ey20969.symm (by decide) rfl ?_
                    refine g_goto (tgt := 24) hk dX12_overOf_89 (by decide) ?_
                    exact g_lv (List.forall_mem_cons.mpr ⟨List.mem_of_getElem? (i := 0) rfl, (List.forall_mem_cons.mpr ⟨List.mem_of_getElem? (i := 1) rfl, (List.forall_mem_cons.mpr ⟨List.mem_of_getElem? (i := 2) rfl, (List.forall_mem_cons.mpr ⟨List.mem_of_getElem? (i := 3) rfl, (List.forall_mem_cons.mpr ⟨List.mem_of_getElem? (i := 4) rfl, (List.forall_mem_cons.mpr ⟨List.mem_of_getElem? (i := 5) rfl, (fun _ h => absurd h List.not_mem_nil)⟩)⟩)⟩)⟩)⟩)⟩) (ih20929 y20969 x20779 x20780 (by omega) (by omega) (by omega) (by omega) (by omega) (by omega))
                  · skip
                    refine g_aload_n hk dX12_overOf_77 rfl ?_
                    refine gM_r0_38 hk hin12 (List.mem_cons_of_mem _ (List.mem_append_left _ (List.mem_of_getElem? (i := 7) rfl))) dX12_overOf_78 ?_
                    refine g_iload hk dX12_overOf_81 rfl ?_
                    refine lM_19 (v := (A 19 x20778.toNatClampNeg)) hk (vp_in_iff.mpr ⟨by omega, by omega⟩) rfl dX12_overOf_83 ?_
                    refine g_istore (lv' := [(4, .int (A 19 x20778.toNatClampNeg)), (5, .int x20778), (3, .int x20780), (2, .int x20036), (1, .int x20037), (0, .ref (r 0))]) hk dX12_overOf_84 (by decide) rfl ?_
                    obtain ⟨y20970, ey20970⟩ : ∃ y : Int32, y = x20778 + Int32.ofInt 1 := ⟨_, rfl⟩
                    have hy20970 : y20970.toInt = x20778.toInt + 1 := i32_add ey20970 rfl (by decide) (by omega) (by omega)
                    refine g_iinc (v := y20970) (lv' := [(5, .int y20970), (4, .int (A 19 x20778.toNatClampNeg)), (3, .int x20780), (2, .int x20036), (1, .int x20037), (0, .ref (r 0))]) hk 1 dX12_overOf_86 rfl ey20970.symm (by decide) rfl ?_
                    refine g_goto (tgt := 24) hk dX12_overOf_89 (by decide) ?_
                    exact g_lv (List.forall_mem_cons.mpr ⟨List.mem_of_getElem? (i := 0) rfl, (List.forall_mem_cons.mpr ⟨List.mem_of_getElem? (i := 1) rfl, (List.forall_mem_cons.mpr ⟨List.mem_of_getElem? (i := 2) rfl, (List.forall_mem_cons.mpr ⟨List.mem_of_getElem? (i := 3) rfl, (List.forall_mem_cons.mpr ⟨List.mem_of_getElem? (i := 4) rfl, (List.forall_mem_cons.mpr ⟨List.mem_of_getElem? (i := 5) rfl, (fun _ h => absurd h List.not_mem_nil)⟩)⟩)⟩)⟩)⟩)⟩) (ih20929 y20970 (A 19 x20778.toNatClampNeg) x20780 (by omega) (by omega) (by omega) (by omega) (by omega) (by omega))
                · skip
                  refine g_aload_n hk dX12_overOf_57 rfl ?_
                  refine gM_r0_38 hk hin12 (List.mem_cons_of_mem _ (List.mem_append_left _ (List.mem_of_getElem? (i := 7) rfl))) dX12_overOf_58 ?_
                  refine g_iload hk dX12_overOf_61 rfl ?_
                  refine lM_19 (v := (A 19 x20778.toNatClampNeg)) hk (vp_in_iff.mpr ⟨by omega, by omega⟩) rfl dX12_overOf_63 ?_
                  refine g_istore_n (lv' := [(3, .int (A 19 x20778.toNatClampNeg)), (5, .int x20778), (4, .int x20779), (2, .int x20036), (1, .int x20037), (0, .ref (r 0))]) hk dX12_overOf_64 (by decide) rfl ?_
                  refine g_aload_n hk dX12_overOf_65 rfl ?_
                  refine gM_r0_38 hk hin12 (List.mem_cons_of_mem _ (List.mem_append_left _ (List.mem_of_getElem? (i := 7) rfl))) dX12_overOf_66 ?_
                  refine g_iload hk dX12_overOf_69 rfl ?_
                  refine lM_19 (v := (A 19 x20778.toNatClampNeg)) hk (vp_in_iff.mpr ⟨by omega, by omega⟩) rfl dX12_overOf_71 ?_
                  refine g_iload hk dX12_overOf_72 rfl ?_
                  have b20971l := Int32.le_toInt x20779
                  have b20971h := Int32.toInt_lt x20779
                  refine g_icmp_ge (tgt := 86) (a := (A 19 x20778.toNatClampNeg).toInt) (b := x20779.toInt) hk dX12_overOf_74 (by decide) rfl rfl (fun c20972 => ?_) (fun c20972 => ?_)
                  · skip
                    obtain ⟨y20973, ey20973⟩ : ∃ y : Int32, y = x20778 + Int32.ofInt 1 := ⟨_, rfl⟩
                    have hy20973 : y20973.toInt = x20778.toInt + 1 := i32_add ey20973 rfl (by decide) (by omega) (by omega)
                    refine g_iinc (v := y20973) (lv' := [(5, .int y20973), (3, .int (A 19 x20778.toNatClampNeg)), (4, .int x20779), (2, .int x20036), (1, .int x20037), (0, .ref (r 0))]) hk 1 dX12_overOf_86 rfl ey20973.symm (by decide) rfl ?_
                    refine g_goto (tgt := 24) hk dX12_overOf_89 (by decide) ?_
                    exact g_lv (List.forall_mem_cons.mpr ⟨List.mem_of_getElem? (i := 0) rfl, (List.forall_mem_cons.mpr ⟨List.mem_of_getElem? (i := 2) rfl, (List.forall_mem_cons.mpr ⟨List.mem_of_getElem? (i := 1) rfl, (List.forall_mem_cons.mpr ⟨List.mem_of_getElem? (i := 3) rfl, (List.forall_mem_cons.mpr ⟨List.mem_of_getElem? (i := 4) rfl, (List.forall_mem_cons.mpr ⟨List.mem_of_getElem? (i := 5) rfl, (fun _ h => absurd h List.not_mem_nil)⟩)⟩)⟩)⟩)⟩)⟩) (ih20929 y20973 x20779 (A 19 x20778.toNatClampNeg) (by omega) (by omega) (by omega) (by omega) (by omega) (by omega))
                  · skip
                    refine g_aload_n hk dX12_overOf_77 rfl ?_
                    refine gM_r0_38 hk hin12 (List.mem_cons_of_mem _ (List.mem_append_left _ (List.mem_of_getElem? (i := 7) rfl))) dX12_overOf_78 ?_
                    refine g_iload hk dX12_overOf_81 rfl ?_
                    refine lM_19 (v := (A 19 x20778.toNatClampNeg)) hk (vp_in_iff.mpr ⟨by omega, by omega⟩) rfl dX12_overOf_83 ?_
                    refine g_istore (lv' := [(4, .int (A 19 x20778.toNatClampNeg)), (3, .int (A 19 x20778.toNatClampNeg)), (5, .int x20778), (2, .int x20036), (1, .int x20037), (0, .ref (r 0))]) hk dX12_overOf_84 (by decide) rfl ?_
                    obtain ⟨y20974, ey20974⟩ : ∃ y : Int32, y = x20778 + Int32.ofInt 1 := ⟨_, rfl⟩
                    have hy20974 : y20974.toInt = x20778.toInt + 1 := i32_add ey20974 rfl (by decide) (by omega) (by omega)
                    refine g_iinc (v := y20974) (lv' := [(5, .int y20974), (4, .int (A 19 x20778.toNatClampNeg)), (3, .int (A 19 x20778.toNatClampNeg)), (2, .int x20036), (1, .int x20037), (0, .ref (r 0))]) hk 2 dX12_overOf_86 rfl ey20974.symm (by decide) rfl ?_
                    refine g_goto (tgt := 24) hk dX12_overOf_89 (by decide) ?_
                    exact g_lv (List.forall_mem_cons.mpr ⟨List.mem_of_getElem? (i := 0) rfl, (List.forall_mem_cons.mpr ⟨List.mem_of_getElem? (i := 1) rfl, (List.forall_mem_cons.mpr ⟨List.mem_of_getElem? (i := 2) rfl, (List.forall_mem_cons.mpr ⟨List.mem_of_getElem? (i := 3) rfl, (List.forall_mem_cons.mpr ⟨List.mem_of_getElem? (i := 4) rfl, (List.forall_mem_cons.mpr ⟨List.mem_of_getElem? (i := 5) rfl, (fun _ h => absurd h List.not_mem_nil)⟩)⟩)⟩)⟩)⟩)⟩) (ih20929 y20974 (A 19 x20778.toNatClampNeg) (A 19 x20778.toNatClampNeg) (by omega) (by omega) (by omega) (by omega) (by omega) (by omega))
        have k20975 : (0 : Int32).toInt = 0 := rfl
        have k20976 : (2000000000 : Int32).toInt = 2000000000 := rfl
        have k20977 : ((-2000000000) : Int32).toInt = (-2000000000) := rfl
        obtain ⟨n20978, n20978a, n20978b⟩ : ∃ n : Nat, 17 - (0 : Int32).toInt < (n : Int) ∧ 0 < n := ⟨((17 - (0 : Int32).toInt : Int)).toNat + 1, by omega, by omega⟩
        exact lp20926 n20978 0 2000000000 (-2000000000) (by omega) (by omega) (by omega) (by omega) n20978a n20978b
  have k20979 : (0 : Int32).toInt = 0 := rfl
  obtain ⟨n20980, n20980a, n20980b⟩ : ∃ n : Nat, 17 - (0 : Int32).toInt < (n : Int) ∧ 0 < n := ⟨((17 - (0 : Int32).toInt : Int)).toNat + 1, by omega, by omega⟩
  exact lp20771 n20980 0 0 (by omega) (by omega) n20980a n20980b
def wo_j180_X12_backOf : List Cond := [Cond.fieldLink RX12 267 "WarpDeskModel" "wide" "I", Cond.methodLink RX12 273 yX12_changesBoth, Cond.instanceMethod yX12_changesBoth, Cond.selects RX12 yX12_changesBoth yX12_changesBoth, Cond.initialized RX12, Cond.methodLink RX12 308 yX12_overOf, Cond.instanceMethod yX12_overOf, Cond.selects RX12 yX12_overOf yX12_overOf]
def wz_j180_X12_backOf : List Cond := .code yX12_backOf cX12_backOf 2 (some .int) :: (wo_j180_X12_backOf ++ (wsX120 ++ (wz_j171_X12_changesBoth ++ (wz_j181_X12_overOf ++ ([] : List Cond)))))
theorem zg_j180_X12_backOf : ∀ w ∈ wz_j180_X12_backOf, goodWord w = true := zg_cons rfl (zg_app (by decide +kernel) (zg_app zgU_wsX120 (zg_app zg_j171_X12_changesBoth (zg_app zg_j181_X12_overOf zg_nil))))
theorem zi_j180_X12_backOf : ∀ w ∈ wz_j180_X12_backOf, w ∈ lw_tbl := zi_cons zw_1815 (zi_app (zi_cons zw_1415 (zi_cons zw_1767 (zi_cons zw_1769 (zi_cons zw_81 (zi_cons zw_115 (zi_cons zw_1807 (zi_cons zw_1809 (zi_cons zw_89 zi_nil)))))))) (zi_app inX12 (zi_app zi_j171_X12_changesBoth (zi_app zi_j181_X12_overOf zi_nil))))
set_option maxHeartbeats 4000000 in
set_option maxRecDepth 100000 in
theorem j180_X12_backOf (l : Launch) (D : va_G) (zt : Nat × Nat × Nat × (Nat → Nat) × (Nat → Nat)) (r : Nat → Nat) (g : Nat → ClassId) (I : Nat → Int32) (A : Nat → Nat → Int32) (L : Nat → Nat → Int64) (hIv : IvM I A) : GM l D zt (tyM g) yX12_backOf wz_j180_X12_backOf ({ frames := 3, cells := 0, slots := 0, locals := 69 } : Room) [.ref (r 0)] (wM r g I A L) (fun v _ w' => ∃ (I' : Nat → Int32) (A' : Nat → Nat → Int32) (L' : Nat → Nat → Int64), Md [] I I' ∧ Md [19, 20] A A' ∧ IvM I' A' ∧ ∃ y0 : Int32, v = some (.int y0) ∧ w' = wM r g I' A' L') 0 0 := by
  refine GM.of (cc := cX12_backOf) (maxL := 2) (ret := (some .int)) (own := RX12) (lv := [(0, .ref (r 0))]) (by decide) rfl rfl (Nat.le_of_ble_eq_true rfl) rfl (fun κ sz hk hR hN => ?_)
  have hin12 : ∀ w ∈ u_ws RX12 TX12 55, w ∈ wz_j180_X12_backOf := fun w h => (List.mem_cons_of_mem _ (List.mem_append_right _ (List.mem_append_left _ h)))
  refine g_aload_n hk dX12_backOf_0 rfl ?_
  refine g_aload_n hk dX12_backOf_1 rfl ?_
  refine gM_i18 (v := (I 18)) hk hin12 (List.mem_cons_of_mem _ (List.mem_append_left _ (List.mem_of_getElem? (i := 0) rfl))) dX12_backOf_2 rfl ?_
  have f20033 := IvM_f18 hIv
  refine g_callV (n := 1) hk (j171_X12_changesBoth l D zt r g I A L (I 18) hIv (by omega) (by omega)) (SP.same _) (fun _ h => h) (gi_V (List.mem_cons_of_mem _ (List.mem_append_left _ (List.mem_of_getElem? (i := 1) rfl))) (List.mem_cons_of_mem _ (List.mem_append_left _ (List.mem_of_getElem? (i := 2) rfl))) (List.mem_cons_of_mem _ (List.mem_append_left _ (List.mem_of_getElem? (i := 3) rfl))) (List.mem_cons_of_mem _ (List.mem_append_left _ (List.mem_of_getElem? (i := 4) rfl))) (gi_sub (fun w h => (List.mem_cons_of_mem _ (List.mem_append_right _ (List.mem_append_right _ (List.mem_append_left _ h))))) zg_j171_X12_changesBoth)) rfl rfl rfl (by decide +kernel) ⟨Nat.le_of_ble_eq_true rfl, Nat.le_of_ble_eq_true rfl⟩ 0 rfl rfl rfl rfl (Nat.le_of_ble_eq_true rfl) ⟨Nat.le_of_ble_eq_true rfl, Nat.le_of_ble_eq_true rfl⟩ dX12_backOf_5 (fun v ty' w' hp hk' => ?_)
  obtain ⟨I20035, A20035, L20035, hI20035, hA20035, hV20035, rfl, rfl⟩ := hp
  show GW κ 2 0 0 (wM r g I20035 A20035 L20035) 8 [(0, .ref (r 0))] []
  refine g_aload_n hk dX12_backOf_8 rfl ?_
  refine g_callV (n := 0) hk (j181_X12_overOf l D zt r g I20035 A20035 L20035  hV20035) (SP.same _) (fun _ h => h) (gi_V (List.mem_cons_of_mem _ (List.mem_append_left _ (List.mem_of_getElem? (i := 5) rfl))) (List.mem_cons_of_mem _ (List.mem_append_left _ (List.mem_of_getElem? (i := 6) rfl))) (List.mem_cons_of_mem _ (List.mem_append_left _ (List.mem_of_getElem? (i := 7) rfl))) (List.mem_cons_of_mem _ (List.mem_append_left _ (List.mem_of_getElem? (i := 4) rfl))) (gi_sub (fun w h => (List.mem_cons_of_mem _ (List.mem_append_right _ (List.mem_append_right _ (List.mem_append_right _ (List.mem_append_left _ h)))))) zg_j181_X12_overOf)) rfl rfl rfl (by decide +kernel) ⟨Nat.le_of_ble_eq_true rfl, Nat.le_of_ble_eq_true rfl⟩ 0 rfl rfl rfl rfl (Nat.le_of_ble_eq_true rfl) ⟨Nat.le_of_ble_eq_true rfl, Nat.le_of_ble_eq_true rfl⟩ dX12_backOf_9 (fun v ty' w' hp hk' => ?_)
  obtain ⟨y20981, rfl, rfl⟩ := hp
  show GW κ 2 0 0 (wM r g I20035 A20035 L20035) 12 [(0, .ref (r 0))] [.int y20981]
  refine g_istore_n (lv' := [(1, .int y20981), (0, .ref (r 0))]) hk dX12_backOf_12 (by decide) rfl ?_
  refine g_aload_n hk dX12_backOf_13 rfl ?_
  refine g_aload_n hk dX12_backOf_14 rfl ?_
  refine gM_i18 (v := (I 18)) hk hin12 (List.mem_cons_of_mem _ (List.mem_append_left _ (List.mem_of_getElem? (i := 0) rfl))) dX12_backOf_15 (hI20035 18 rfl) ?_
  refine g_callV (n := 1) hk (j171_X12_changesBoth l D zt r g I20035 A20035 L20035 (I 18) hV20035 (by omega) (by omega)) (SP.same _) (fun _ h => h) (gi_V (List.mem_cons_of_mem _ (List.mem_append_left _ (List.mem_of_getElem? (i := 1) rfl))) (List.mem_cons_of_mem _ (List.mem_append_left _ (List.mem_of_getElem? (i := 2) rfl))) (List.mem_cons_of_mem _ (List.mem_append_left _ (List.mem_of_getElem? (i := 3) rfl))) (List.mem_cons_of_mem _ (List.mem_append_left _ (List.mem_of_getElem? (i := 4) rfl))) (gi_sub (fun w h => (List.mem_cons_of_mem _ (List.mem_append_right _ (List.mem_append_right _ (List.mem_append_left _ h))))) zg_j171_X12_changesBoth)) rfl rfl rfl (by decide +kernel) ⟨Nat.le_of_ble_eq_true rfl, Nat.le_of_ble_eq_true rfl⟩ 0 rfl rfl rfl rfl (Nat.le_of_ble_eq_true rfl) ⟨Nat.le_of_ble_eq_true rfl, Nat.le_of_ble_eq_true rfl⟩ dX12_backOf_18 (fun v ty' w' hp hk' => ?_)
  obtain ⟨I20983, A20983, L20983, hI20983, hA20983, hV20983, rfl, rfl⟩ := hp
  show GW κ 2 0 0 (wM r g I20983 A20983 L20983) 21 [(1, .int y20981), (0, .ref (r 0))] []
  refine g_iload_n hk dX12_backOf_21 rfl ?_
  have b20984l := Int32.le_toInt y20981
  have b20984h := Int32.toInt_lt y20981
  exact g_iret hk hR rfl ⟨I20983, A20983, L20983, (show Md [] I I20983 from (Md.tr (Md.tr Md.rf hI20035 rfl) hI20983 rfl)), (show Md [19, 20] A A20983 from (Md.tr (Md.tr Md.rf hA20035 rfl) hA20983 rfl)), hV20983, y20981, rfl, rfl⟩ dX12_backOf_22
def wo_j182_X12_endsOf : List Cond := [Cond.fieldLink RX12 76 "WarpDeskModel" "firstAt" "[I", Cond.fieldLink RX12 79 "WarpDeskModel" "otherAt" "[I", Cond.methodLink RX12 289 yX12_costOf, Cond.instanceMethod yX12_costOf, Cond.selects RX12 yX12_costOf yX12_costOf, Cond.initialized RX12, Cond.fieldLink RX12 267 "WarpDeskModel" "wide" "I"]
def wz_j182_X12_endsOf : List Cond := .code yX12_endsOf cX12_endsOf 1 (some .int) :: (wo_j182_X12_endsOf ++ (wsX120 ++ (wz_j178_X12_costOf ++ ([] : List Cond))))
theorem zg_j182_X12_endsOf : ∀ w ∈ wz_j182_X12_endsOf, goodWord w = true := zg_cons rfl (zg_app (by decide +kernel) (zg_app zgU_wsX120 (zg_app zg_j178_X12_costOf zg_nil)))
theorem zi_j182_X12_endsOf : ∀ w ∈ wz_j182_X12_endsOf, w ∈ lw_tbl := zi_cons zw_1806 (zi_app (zi_cons zw_1416 (zi_cons zw_1417 (zi_cons zw_1795 (zi_cons zw_1797 (zi_cons zw_87 (zi_cons zw_115 (zi_cons zw_1415 zi_nil))))))) (zi_app inX12 (zi_app zi_j178_X12_costOf zi_nil)))
set_option maxHeartbeats 4000000 in
set_option maxRecDepth 100000 in
theorem j182_X12_endsOf (l : Launch) (D : va_G) (zt : Nat × Nat × Nat × (Nat → Nat) × (Nat → Nat)) (r : Nat → Nat) (g : Nat → ClassId) (I : Nat → Int32) (A : Nat → Nat → Int32) (L : Nat → Nat → Int64) (hIv : IvM I A) (hp0 : 1 ≤ (I 18).toInt) : GM l D zt (tyM g) yX12_endsOf wz_j182_X12_endsOf ({ frames := 1, cells := 0, slots := 0, locals := 23 } : Room) [.ref (r 0)] (wM r g I A L) (fun v _ w' => ∃ y0 : Int32, v = some (.int y0) ∧ w' = wM r g I A L) 0 0 := by
  refine GM.of (cc := cX12_endsOf) (maxL := 1) (ret := (some .int)) (own := RX12) (lv := [(0, .ref (r 0))]) (by decide) rfl rfl (Nat.le_of_ble_eq_true rfl) rfl (fun κ sz hk hR hN => ?_)
  have hin12 : ∀ w ∈ u_ws RX12 TX12 55, w ∈ wz_j182_X12_endsOf := fun w h => (List.mem_cons_of_mem _ (List.mem_append_right _ (List.mem_append_left _ h)))
  refine g_aload_n hk dX12_endsOf_0 rfl ?_
  refine g_aload_n hk dX12_endsOf_1 rfl ?_
  refine gM_r0_38 hk hin12 (List.mem_cons_of_mem _ (List.mem_append_left _ (List.mem_of_getElem? (i := 0) rfl))) dX12_endsOf_2 ?_
  refine g_iconst (v := 0) hk dX12_endsOf_5 (by decide) ?_
  refine lM_19 (v := (A 19 0)) hk (vp_in_iff.mpr ⟨by decide, by decide⟩) rfl dX12_endsOf_6 ?_
  refine g_aload_n hk dX12_endsOf_7 rfl ?_
  refine gM_r0_39 hk hin12 (List.mem_cons_of_mem _ (List.mem_append_left _ (List.mem_of_getElem? (i := 1) rfl))) dX12_endsOf_8 ?_
  refine g_iconst (v := 0) hk dX12_endsOf_11 (by decide) ?_
  refine lM_20 (v := (A 20 0)) hk (vp_in_iff.mpr ⟨by decide, by decide⟩) rfl dX12_endsOf_12 ?_
  refine g_callV (n := 2) hk (j178_X12_costOf l D zt r g I A L (A 19 0) (A 20 0) hIv) (SP.same _) (fun _ h => h) (gi_V (List.mem_cons_of_mem _ (List.mem_append_left _ (List.mem_of_getElem? (i := 2) rfl))) (List.mem_cons_of_mem _ (List.mem_append_left _ (List.mem_of_getElem? (i := 3) rfl))) (List.mem_cons_of_mem _ (List.mem_append_left _ (List.mem_of_getElem? (i := 4) rfl))) (List.mem_cons_of_mem _ (List.mem_append_left _ (List.mem_of_getElem? (i := 5) rfl))) (gi_sub (fun w h => (List.mem_cons_of_mem _ (List.mem_append_right _ (List.mem_append_right _ (List.mem_append_left _ h))))) zg_j178_X12_costOf)) rfl rfl rfl (by decide +kernel) ⟨Nat.le_of_ble_eq_true rfl, Nat.le_of_ble_eq_true rfl⟩ 0 rfl rfl rfl rfl (Nat.le_of_ble_eq_true rfl) ⟨Nat.le_of_ble_eq_true rfl, Nat.le_of_ble_eq_true rfl⟩ dX12_endsOf_13 (fun v ty' w' hp hk' => ?_)
  obtain ⟨y20990, rfl, rfl⟩ := hp
  show GW κ 1 0 0 (wM r g I A L) 16 [(0, .ref (r 0))] [.int y20990]
  refine g_aload_n hk dX12_endsOf_16 rfl ?_
  refine g_aload_n hk dX12_endsOf_17 rfl ?_
  refine gM_r0_38 hk hin12 (List.mem_cons_of_mem _ (List.mem_append_left _ (List.mem_of_getElem? (i := 0) rfl))) dX12_endsOf_18 ?_
  refine g_aload_n hk dX12_endsOf_21 rfl ?_
  refine gM_i18 (v := (I 18)) hk hin12 (List.mem_cons_of_mem _ (List.mem_append_left _ (List.mem_of_getElem? (i := 6) rfl))) dX12_endsOf_22 rfl ?_
  have f20991 := IvM_f18 hIv
  refine g_iconst (v := 1) hk dX12_endsOf_25 (by decide) ?_
  refine g_isub hk dX12_endsOf_26 ?_
  refine g_topi (fun y20992 ey20992 => ?_)
  have hy20992 : y20992.toInt = (I 18).toInt - 1 := i32_sub ey20992 rfl rfl (by omega) (by omega)
  refine lM_19 (v := (A 19 y20992.toNatClampNeg)) hk (vp_in_iff.mpr ⟨by omega, by omega⟩) rfl dX12_endsOf_27 ?_
  refine g_aload_n hk dX12_endsOf_28 rfl ?_
  refine gM_r0_39 hk hin12 (List.mem_cons_of_mem _ (List.mem_append_left _ (List.mem_of_getElem? (i := 1) rfl))) dX12_endsOf_29 ?_
  refine g_aload_n hk dX12_endsOf_32 rfl ?_
  refine gM_i18 (v := (I 18)) hk hin12 (List.mem_cons_of_mem _ (List.mem_append_left _ (List.mem_of_getElem? (i := 6) rfl))) dX12_endsOf_33 rfl ?_
  refine g_iconst (v := 1) hk dX12_endsOf_36 (by decide) ?_
  refine g_isub hk dX12_endsOf_37 ?_
  refine g_topi (fun y20993 ey20993 => ?_)
  have hy20993 : y20993.toInt = (I 18).toInt - 1 := i32_sub ey20993 rfl rfl (by omega) (by omega)
  refine lM_20 (v := (A 20 y20993.toNatClampNeg)) hk (vp_in_iff.mpr ⟨by omega, by omega⟩) rfl dX12_endsOf_38 ?_
  refine g_callV (n := 2) hk (j178_X12_costOf l D zt r g I A L (A 19 y20992.toNatClampNeg) (A 20 y20993.toNatClampNeg) hIv) (SP.same _) (fun _ h => h) (gi_V (List.mem_cons_of_mem _ (List.mem_append_left _ (List.mem_of_getElem? (i := 2) rfl))) (List.mem_cons_of_mem _ (List.mem_append_left _ (List.mem_of_getElem? (i := 3) rfl))) (List.mem_cons_of_mem _ (List.mem_append_left _ (List.mem_of_getElem? (i := 4) rfl))) (List.mem_cons_of_mem _ (List.mem_append_left _ (List.mem_of_getElem? (i := 5) rfl))) (gi_sub (fun w h => (List.mem_cons_of_mem _ (List.mem_append_right _ (List.mem_append_right _ (List.mem_append_left _ h))))) zg_j178_X12_costOf)) rfl rfl rfl (by decide +kernel) ⟨Nat.le_of_ble_eq_true rfl, Nat.le_of_ble_eq_true rfl⟩ 0 rfl rfl rfl rfl (Nat.le_of_ble_eq_true rfl) ⟨Nat.le_of_ble_eq_true rfl, Nat.le_of_ble_eq_true rfl⟩ dX12_endsOf_39 (fun v ty' w' hp hk' => ?_)
  obtain ⟨y20994, rfl, rfl⟩ := hp
  show GW κ 1 0 0 (wM r g I A L) 42 [(0, .ref (r 0))] [.int y20994, .int y20990]
  have b20995l := Int32.le_toInt y20990
  have b20995h := Int32.toInt_lt y20990
  have b20996l := Int32.le_toInt y20994
  have b20996h := Int32.toInt_lt y20994
  refine g_iadd hk dX12_endsOf_42 ?_
  refine g_topi (fun y20997 ey20997 => ?_)
  have b20998l := Int32.le_toInt y20997
  have b20998h := Int32.toInt_lt y20997
  exact g_iret hk hR rfl ⟨y20997, rfl, rfl⟩ dX12_endsOf_43
def wo_j179_X12_bound : List Cond := [Cond.methodLink RX12 342 yX12_isOf, Cond.instanceMethod yX12_isOf, Cond.selects RX12 yX12_isOf yX12_isOf, Cond.initialized RX12, Cond.methodLink RX12 244 yX12_in, Cond.static yX12_in, Cond.methodLink RX12 323 yX12_copies, Cond.instanceMethod yX12_copies, Cond.selects RX12 yX12_copies yX12_copies, Cond.methodLink RX12 301 yX12_laysBoth, Cond.instanceMethod yX12_laysBoth, Cond.selects RX12 yX12_laysBoth yX12_laysBoth, Cond.methodLink RX12 317 yX12_backOf, Cond.instanceMethod yX12_backOf, Cond.selects RX12 yX12_backOf yX12_backOf, Cond.methodLink RX12 308 yX12_overOf, Cond.instanceMethod yX12_overOf, Cond.selects RX12 yX12_overOf yX12_overOf, Cond.methodLink RX12 314 yX12_endsOf, Cond.instanceMethod yX12_endsOf, Cond.selects RX12 yX12_endsOf yX12_endsOf]
def wz_j179_X12_bound : List Cond := .code yX12_bound cX12_bound 4 (some .int) :: (wo_j179_X12_bound ++ (wz_j168_X12_isOf ++ (wz_j145_X12_in ++ (wz_j151_X12_copies ++ (wz_j170_X12_laysBoth ++ (wz_j180_X12_backOf ++ (wz_j181_X12_overOf ++ (wz_j182_X12_endsOf ++ ([] : List Cond)))))))))
theorem zg_j179_X12_bound : ∀ w ∈ wz_j179_X12_bound, goodWord w = true := zg_cons rfl (zg_app (by decide +kernel) (zg_app zg_j168_X12_isOf (zg_app zg_j145_X12_in (zg_app zg_j151_X12_copies (zg_app zg_j170_X12_laysBoth (zg_app zg_j180_X12_backOf (zg_app zg_j181_X12_overOf (zg_app zg_j182_X12_endsOf zg_nil))))))))
theorem zi_j179_X12_bound : ∀ w ∈ wz_j179_X12_bound, w ∈ lw_tbl := zi_cons zw_1802 (zi_app (zi_cons zw_1755 (zi_cons zw_1757 (zi_cons zw_78 (zi_cons zw_115 (zi_cons zw_1656 (zi_cons zw_1657 (zi_cons zw_1679 (zi_cons zw_1681 (zi_cons zw_70 (zi_cons zw_1763 (zi_cons zw_1765 (zi_cons zw_80 (zi_cons zw_1812 (zi_cons zw_1814 (zi_cons zw_90 (zi_cons zw_1807 (zi_cons zw_1809 (zi_cons zw_89 (zi_cons zw_1803 (zi_cons zw_1805 (zi_cons zw_88 zi_nil))))))))))))))))))))) (zi_app zi_j168_X12_isOf (zi_app zi_j145_X12_in (zi_app zi_j151_X12_copies (zi_app zi_j170_X12_laysBoth (zi_app zi_j180_X12_backOf (zi_app zi_j181_X12_overOf (zi_app zi_j182_X12_endsOf zi_nil))))))))
set_option maxHeartbeats 4000000 in
set_option maxRecDepth 100000 in
theorem j179_X12_bound (l : Launch) (D : va_G) (zt : Nat × Nat × Nat × (Nat → Nat) × (Nat → Nat)) (r : Nat → Nat) (g : Nat → ClassId) (I : Nat → Int32) (A : Nat → Nat → Int32) (L : Nat → Nat → Int64) (z1 : Int32) (z2 : Int32) (z3 : Int32) (hIv : IvM I A) : GM l D zt (tyM g) yX12_bound wz_j179_X12_bound ({ frames := 4, cells := 0, slots := 0, locals := 94 } : Room) [.ref (r 0), .int z1, .int z2, .int z3] (wM r g I A L) (fun v _ w' => ∃ (I' : Nat → Int32) (A' : Nat → Nat → Int32) (L' : Nat → Nat → Int64), Md [18] I I' ∧ Md [18, 19, 20] A A' ∧ IvM I' A' ∧ ∃ y0 : Int32, v = some (.int y0) ∧ w' = wM r g I' A' L') 0 0 := by
  refine GM.of (cc := cX12_bound) (maxL := 4) (ret := (some .int)) (own := RX12) (lv := [(0, .ref (r 0)), (1, .int z1), (2, .int z2), (3, .int z3)]) (by decide) rfl rfl (Nat.le_of_ble_eq_true rfl) rfl (fun κ sz hk hR hN => ?_)
  refine g_aload_n hk dX12_bound_0 rfl ?_
  refine g_iload_n hk dX12_bound_1 rfl ?_
  refine g_iload_n hk dX12_bound_2 rfl ?_
  refine g_callV (n := 2) hk (j168_X12_isOf l D zt r g I A L z1 z2 hIv) (SP.same _) (fun _ h => h) (gi_V (List.mem_cons_of_mem _ (List.mem_append_left _ (List.mem_of_getElem? (i := 0) rfl))) (List.mem_cons_of_mem _ (List.mem_append_left _ (List.mem_of_getElem? (i := 1) rfl))) (List.mem_cons_of_mem _ (List.mem_append_left _ (List.mem_of_getElem? (i := 2) rfl))) (List.mem_cons_of_mem _ (List.mem_append_left _ (List.mem_of_getElem? (i := 3) rfl))) (gi_sub (fun w h => (List.mem_cons_of_mem _ (List.mem_append_right _ (List.mem_append_left _ h)))) zg_j168_X12_isOf)) rfl rfl rfl (by decide +kernel) ⟨Nat.le_of_ble_eq_true rfl, Nat.le_of_ble_eq_true rfl⟩ 0 rfl rfl rfl rfl (Nat.le_of_ble_eq_true rfl) ⟨Nat.le_of_ble_eq_true rfl, Nat.le_of_ble_eq_true rfl⟩ dX12_bound_3 (fun v ty' w' hp hk' => ?_)
  rcases hp with ⟨rfl, rfl⟩ | ⟨c20002, c20003, c20004, c20005, c20006, c20007, c20008, c20009, c20010, rfl, rfl⟩
  · skip
    show GW κ 4 0 0 (wM r g I A L) 6 [(0, .ref (r 0)), (1, .int z1), (2, .int z2), (3, .int z3)] [.int 0]
    refine g_if_eq (tgt := 18) (a := 0) hk dX12_bound_6 (by decide) rfl (fun _ => ?_) (fun z9 => absurd (show (0 : Int) = (0 : Int) from by decide) z9)
    refine g_iconst (v := (-1)) hk dX12_bound_18 (by decide) ?_
    exact g_iret hk hR rfl ⟨I, A, L, (show Md [18] I I from Md.rf), (show Md [18, 19, 20] A A from Md.rf), hIv, (-1), rfl, rfl⟩ dX12_bound_19
  · skip
    have f20012 : 0 ≤ (A 11 (5 * (I 15) + z1).toNatClampNeg).toInt ∧ (A 11 (5 * (I 15) + z1).toNatClampNeg).toInt ≤ 16 := IvM_a11 hIv _
    show GW κ 4 0 0 (wM r g I A L) 6 [(0, .ref (r 0)), (1, .int z1), (2, .int z2), (3, .int z3)] [.int 1]
    refine g_if_eq (tgt := 18) (a := 1) hk dX12_bound_6 (by decide) rfl (fun z9 => absurd z9 (show ¬ ((1 : Int) = (0 : Int)) from by decide)) (fun _ => ?_)
    refine g_iload_n hk dX12_bound_9 rfl ?_
    refine g_iconst (v := 0) hk dX12_bound_10 (by decide) ?_
    refine g_iconst (v := 2) hk dX12_bound_11 (by decide) ?_
    have k20013 : (0 : Int32).toInt = 0 := rfl
    have k20014 : (2 : Int32).toInt = 2 := rfl
    refine g_callS (n := 3) hk (j145_X12_in l D zt r g I A L z3 0 2 hIv) (SP.same _) (fun _ h => h) (gi_S (List.mem_cons_of_mem _ (List.mem_append_left _ (List.mem_of_getElem? (i := 4) rfl))) (List.mem_cons_of_mem _ (List.mem_append_left _ (List.mem_of_getElem? (i := 5) rfl))) (List.mem_cons_of_mem _ (List.mem_append_left _ (List.mem_of_getElem? (i := 3) rfl))) (gi_sub (fun w h => (List.mem_cons_of_mem _ (List.mem_append_right _ (List.mem_append_right _ (List.mem_append_left _ h))))) zg_j145_X12_in)) rfl rfl rfl (by decide +kernel) ⟨Nat.le_of_ble_eq_true rfl, Nat.le_of_ble_eq_true rfl⟩ rfl rfl (Nat.le_of_ble_eq_true rfl) ⟨Nat.le_of_ble_eq_true rfl, Nat.le_of_ble_eq_true rfl⟩ dX12_bound_12 (fun v ty' w' hp hk' => ?_)
    rcases hp with ⟨c20015, rfl, rfl⟩ | ⟨c20017, c20018, rfl, rfl⟩
    · skip
      have b20020l := Int32.le_toInt z3
      have b20020h := Int32.toInt_lt z3
      show GW κ 4 0 0 (wM r g I A L) 15 [(0, .ref (r 0)), (1, .int z1), (2, .int z2), (3, .int z3)] [.int 0]
      refine g_if_ne (tgt := 20) (a := 0) hk dX12_bound_15 (by decide) rfl (fun z9 => absurd z9 (show ¬ ((0 : Int) ≠ (0 : Int)) from by decide)) (fun _ => ?_)
      refine g_iconst (v := (-1)) hk dX12_bound_18 (by decide) ?_
      exact g_iret hk hR rfl ⟨I, A, L, (show Md [18] I I from Md.rf), (show Md [18, 19, 20] A A from Md.rf), hIv, (-1), rfl, rfl⟩ dX12_bound_19
    · skip
      show GW κ 4 0 0 (wM r g I A L) 15 [(0, .ref (r 0)), (1, .int z1), (2, .int z2), (3, .int z3)] [.int 1]
      refine g_if_ne (tgt := 20) (a := 1) hk dX12_bound_15 (by decide) rfl (fun _ => ?_) (fun z9 => absurd (show (1 : Int) ≠ (0 : Int) from by decide) z9)
      refine g_aload_n hk dX12_bound_20 rfl ?_
      refine g_callV (n := 0) hk (j151_X12_copies l D zt r g I A L  hIv) (SP.same _) (fun _ h => h) (gi_V (List.mem_cons_of_mem _ (List.mem_append_left _ (List.mem_of_getElem? (i := 6) rfl))) (List.mem_cons_of_mem _ (List.mem_append_left _ (List.mem_of_getElem? (i := 7) rfl))) (List.mem_cons_of_mem _ (List.mem_append_left _ (List.mem_of_getElem? (i := 8) rfl))) (List.mem_cons_of_mem _ (List.mem_append_left _ (List.mem_of_getElem? (i := 3) rfl))) (gi_sub (fun w h => (List.mem_cons_of_mem _ (List.mem_append_right _ (List.mem_append_right _ (List.mem_append_right _ (List.mem_append_left _ h)))))) zg_j151_X12_copies)) rfl rfl rfl (by decide +kernel) ⟨Nat.le_of_ble_eq_true rfl, Nat.le_of_ble_eq_true rfl⟩ 0 rfl rfl rfl rfl (Nat.le_of_ble_eq_true rfl) ⟨Nat.le_of_ble_eq_true rfl, Nat.le_of_ble_eq_true rfl⟩ dX12_bound_21 (fun v ty' w' hp hk' => ?_)
      obtain ⟨I20022, A20022, L20022, hI20022, hA20022, hV20022, r20023, r20024, rfl, rfl⟩ := hp
      have f20025 := IvM_s17_0 hIv
      have f20026 := IvM_s17_164 hIv
      show GW κ 4 0 0 (wM r g I20022 A20022 L20022) 24 [(0, .ref (r 0)), (1, .int z1), (2, .int z2), (3, .int z3)] []
      refine g_aload_n hk dX12_bound_24 rfl ?_
      refine g_iload_n hk dX12_bound_25 rfl ?_
      refine g_iload_n hk dX12_bound_26 rfl ?_
      refine g_callV (n := 2) hk (j170_X12_laysBoth l D zt r g I20022 A20022 L20022 z1 z2 hV20022 (by omega) (by omega) (by omega) (by omega) (by first | (rw [show (A20022 11 (5 * (I20022 15) + z1).toNatClampNeg) = (A 11 (5 * (I 15) + z1).toNatClampNeg) from (by rw [show I20022 15 = (I 15) from (hI20022 15 rfl)]; exact (congrFun (hA20022 11 rfl) _))] <;> omega) | omega) (by first | (rw [show (A20022 11 (5 * (I20022 15) + z1).toNatClampNeg) = (A 11 (5 * (I 15) + z1).toNatClampNeg) from (by rw [show I20022 15 = (I 15) from (hI20022 15 rfl)]; exact (congrFun (hA20022 11 rfl) _))] <;> omega) | omega)) (SP.same _) (fun _ h => h) (gi_V (List.mem_cons_of_mem _ (List.mem_append_left _ (List.mem_of_getElem? (i := 9) rfl))) (List.mem_cons_of_mem _ (List.mem_append_left _ (List.mem_of_getElem? (i := 10) rfl))) (List.mem_cons_of_mem _ (List.mem_append_left _ (List.mem_of_getElem? (i := 11) rfl))) (List.mem_cons_of_mem _ (List.mem_append_left _ (List.mem_of_getElem? (i := 3) rfl))) (gi_sub (fun w h => (List.mem_cons_of_mem _ (List.mem_append_right _ (List.mem_append_right _ (List.mem_append_right _ (List.mem_append_right _ (List.mem_append_left _ h))))))) zg_j170_X12_laysBoth)) rfl rfl rfl (by decide +kernel) ⟨Nat.le_of_ble_eq_true rfl, Nat.le_of_ble_eq_true rfl⟩ 0 rfl rfl rfl rfl (Nat.le_of_ble_eq_true rfl) ⟨Nat.le_of_ble_eq_true rfl, Nat.le_of_ble_eq_true rfl⟩ dX12_bound_27 (fun v ty' w' hp hk' => ?_)
      obtain ⟨I20028, A20028, L20028, hI20028, hA20028, hV20028, r20029, rfl, rfl⟩ := hp
      have f20030 := IvM_f18 hV20028
      show GW κ 4 0 0 (wM r g I20028 A20028 L20028) 30 [(0, .ref (r 0)), (1, .int z1), (2, .int z2), (3, .int z3)] []
      refine g_iload_n hk dX12_bound_30 rfl ?_
      refine g_if_ne (tgt := 41) (a := z3.toInt) hk dX12_bound_31 (by decide) rfl (fun c20031 => ?_) (fun c20031 => ?_)
      · skip
        refine g_iload_n hk dX12_bound_41 rfl ?_
        refine g_iconst (v := 1) hk dX12_bound_42 (by decide) ?_
        refine g_icmp_ne (tgt := 53) (a := z3.toInt) (b := 1) hk dX12_bound_43 (by decide) rfl rfl (fun c20032 => ?_) (fun c20032 => ?_)
        · skip
          refine g_aload_n hk dX12_bound_53 rfl ?_
          refine g_callV (n := 0) hk (j180_X12_backOf l D zt r g I20028 A20028 L20028  hV20028) (SP.same _) (fun _ h => h) (gi_V (List.mem_cons_of_mem _ (List.mem_append_left _ (List.mem_of_getElem? (i := 12) rfl))) (List.mem_cons_of_mem _ (List.mem_append_left _ (List.mem_of_getElem? (i := 13) rfl))) (List.mem_cons_of_mem _ (List.mem_append_left _ (List.mem_of_getElem? (i := 14) rfl))) (List.mem_cons_of_mem _ (List.mem_append_left _ (List.mem_of_getElem? (i := 3) rfl))) (gi_sub (fun w h => (List.mem_cons_of_mem _ (List.mem_append_right _ (List.mem_append_right _ (List.mem_append_right _ (List.mem_append_right _ (List.mem_append_right _ (List.mem_append_left _ h)))))))) zg_j180_X12_backOf)) rfl rfl rfl (by decide +kernel) ⟨Nat.le_of_ble_eq_true rfl, Nat.le_of_ble_eq_true rfl⟩ 0 rfl rfl rfl rfl (Nat.le_of_ble_eq_true rfl) ⟨Nat.le_of_ble_eq_true rfl, Nat.le_of_ble_eq_true rfl⟩ dX12_bound_54 (fun v ty' w' hp hk' => ?_)
          obtain ⟨I20986, A20986, L20986, hI20986, hA20986, hV20986, y20985, rfl, rfl⟩ := hp
          show GW κ 4 0 0 (wM r g I20986 A20986 L20986) 57 [(0, .ref (r 0)), (1, .int z1), (2, .int z2), (3, .int z3)] [.int y20985]
          have b20987l := Int32.le_toInt y20985
          have b20987h := Int32.toInt_lt y20985
          exact g_iret hk hR rfl ⟨I20986, A20986, L20986, (show Md [18] I I20986 from (Md.tr (Md.tr (Md.tr Md.rf hI20022 rfl) hI20028 rfl) hI20986 rfl)), (show Md [18, 19, 20] A A20986 from (Md.tr (Md.tr (Md.tr Md.rf hA20022 rfl) hA20028 rfl) hA20986 rfl)), hV20986, y20985, rfl, rfl⟩ dX12_bound_57
        · skip
          refine g_aload_n hk dX12_bound_46 rfl ?_
          refine g_callV (n := 0) hk (j181_X12_overOf l D zt r g I20028 A20028 L20028  hV20028) (SP.same _) (fun _ h => h) (gi_V (List.mem_cons_of_mem _ (List.mem_append_left _ (List.mem_of_getElem? (i := 15) rfl))) (List.mem_cons_of_mem _ (List.mem_append_left _ (List.mem_of_getElem? (i := 16) rfl))) (List.mem_cons_of_mem _ (List.mem_append_left _ (List.mem_of_getElem? (i := 17) rfl))) (List.mem_cons_of_mem _ (List.mem_append_left _ (List.mem_of_getElem? (i := 3) rfl))) (gi_sub (fun w h => (List.mem_cons_of_mem _ (List.mem_append_right _ (List.mem_append_right _ (List.mem_append_right _ (List.mem_append_right _ (List.mem_append_right _ (List.mem_append_right _ (List.mem_append_left _ h))))))))) zg_j181_X12_overOf)) rfl rfl rfl (by decide +kernel) ⟨Nat.le_of_ble_eq_true rfl, Nat.le_of_ble_eq_true rfl⟩ 0 rfl rfl rfl rfl (Nat.le_of_ble_eq_true rfl) ⟨Nat.le_of_ble_eq_true rfl, Nat.le_of_ble_eq_true rfl⟩ dX12_bound_47 (fun v ty' w' hp hk' => ?_)
          obtain ⟨y20988, rfl, rfl⟩ := hp
          show GW κ 4 0 0 (wM r g I20028 A20028 L20028) 50 [(0, .ref (r 0)), (1, .int z1), (2, .int z2), (3, .int z3)] [.int y20988]
          refine g_goto (tgt := 57) hk dX12_bound_50 (by decide) ?_
          have b20989l := Int32.le_toInt y20988
          have b20989h := Int32.toInt_lt y20988
          exact g_iret hk hR rfl ⟨I20028, A20028, L20028, (show Md [18] I I20028 from (Md.tr (Md.tr Md.rf hI20022 rfl) hI20028 rfl)), (show Md [18, 19, 20] A A20028 from (Md.tr (Md.tr Md.rf hA20022 rfl) hA20028 rfl)), hV20028, y20988, rfl, rfl⟩ dX12_bound_57
      · skip
        refine g_aload_n hk dX12_bound_34 rfl ?_
        refine g_callV (n := 0) hk (j182_X12_endsOf l D zt r g I20028 A20028 L20028  hV20028 (by omega)) (SP.same _) (fun _ h => h) (gi_V (List.mem_cons_of_mem _ (List.mem_append_left _ (List.mem_of_getElem? (i := 18) rfl))) (List.mem_cons_of_mem _ (List.mem_append_left _ (List.mem_of_getElem? (i := 19) rfl))) (List.mem_cons_of_mem _ (List.mem_append_left _ (List.mem_of_getElem? (i := 20) rfl))) (List.mem_cons_of_mem _ (List.mem_append_left _ (List.mem_of_getElem? (i := 3) rfl))) (gi_sub (fun w h => (List.mem_cons_of_mem _ (List.mem_append_right _ (List.mem_append_right _ (List.mem_append_right _ (List.mem_append_right _ (List.mem_append_right _ (List.mem_append_right _ (List.mem_append_right _ (List.mem_append_left _ h)))))))))) zg_j182_X12_endsOf)) rfl rfl rfl (by decide +kernel) ⟨Nat.le_of_ble_eq_true rfl, Nat.le_of_ble_eq_true rfl⟩ 0 rfl rfl rfl rfl (Nat.le_of_ble_eq_true rfl) ⟨Nat.le_of_ble_eq_true rfl, Nat.le_of_ble_eq_true rfl⟩ dX12_bound_35 (fun v ty' w' hp hk' => ?_)
        obtain ⟨y20999, rfl, rfl⟩ := hp
        show GW κ 4 0 0 (wM r g I20028 A20028 L20028) 38 [(0, .ref (r 0)), (1, .int z1), (2, .int z2), (3, .int z3)] [.int y20999]
        refine g_goto (tgt := 57) hk dX12_bound_38 (by decide) ?_
        have b21000l := Int32.le_toInt y20999
        have b21000h := Int32.toInt_lt y20999
        exact g_iret hk hR rfl ⟨I20028, A20028, L20028, (show Md [18] I I20028 from (Md.tr (Md.tr Md.rf hI20022 rfl) hI20028 rfl)), (show Md [18, 19, 20] A A20028 from (Md.tr (Md.tr Md.rf hA20022 rfl) hA20028 rfl)), hV20028, y20999, rfl, rfl⟩ dX12_bound_57
def wo_j184_X12_passes : List Cond := [Cond.methodLink RX12 301 yX12_laysBoth, Cond.instanceMethod yX12_laysBoth, Cond.selects RX12 yX12_laysBoth yX12_laysBoth, Cond.initialized RX12, Cond.fieldLink RX12 292 "WarpDeskModel" "laid" "I", Cond.fieldLink RX12 295 "WarpDeskModel" "brokeAt" "I", Cond.constant RX12 282 (2000000000), Cond.fieldLink RX12 311 "WarpDeskModel" "looksAt" "I", Cond.methodLink RX12 314 yX12_endsOf, Cond.instanceMethod yX12_endsOf, Cond.selects RX12 yX12_endsOf yX12_endsOf, Cond.methodLink RX12 308 yX12_overOf, Cond.instanceMethod yX12_overOf, Cond.selects RX12 yX12_overOf yX12_overOf, Cond.methodLink RX12 317 yX12_backOf, Cond.instanceMethod yX12_backOf, Cond.selects RX12 yX12_backOf yX12_backOf, Cond.methodLink RX12 304 yX12_laysTable, Cond.instanceMethod yX12_laysTable, Cond.selects RX12 yX12_laysTable yX12_laysTable]
def wz_j184_X12_passes : List Cond := .code yX12_passes cX12_passes 4 (some .int) :: (wo_j184_X12_passes ++ (wsX120 ++ (wz_j170_X12_laysBoth ++ (wz_j182_X12_endsOf ++ (wz_j181_X12_overOf ++ (wz_j180_X12_backOf ++ (wz_j173_X12_laysTable ++ ([] : List Cond))))))))
theorem zg_j184_X12_passes : ∀ w ∈ wz_j184_X12_passes, goodWord w = true := zg_cons rfl (zg_app (by decide +kernel) (zg_app zgU_wsX120 (zg_app zg_j170_X12_laysBoth (zg_app zg_j182_X12_endsOf (zg_app zg_j181_X12_overOf (zg_app zg_j180_X12_backOf (zg_app zg_j173_X12_laysTable zg_nil)))))))
theorem zi_j184_X12_passes : ∀ w ∈ wz_j184_X12_passes, w ∈ lw_tbl := zi_cons zw_1823 (zi_app (zi_cons zw_1763 (zi_cons zw_1765 (zi_cons zw_80 (zi_cons zw_115 (zi_cons zw_1419 (zi_cons zw_1420 (zi_cons zw_1775 (zi_cons zw_1421 (zi_cons zw_1803 (zi_cons zw_1805 (zi_cons zw_88 (zi_cons zw_1807 (zi_cons zw_1809 (zi_cons zw_89 (zi_cons zw_1812 (zi_cons zw_1814 (zi_cons zw_90 (zi_cons zw_1776 (zi_cons zw_1778 (zi_cons zw_83 zi_nil)))))))))))))))))))) (zi_app inX12 (zi_app zi_j170_X12_laysBoth (zi_app zi_j182_X12_endsOf (zi_app zi_j181_X12_overOf (zi_app zi_j180_X12_backOf (zi_app zi_j173_X12_laysTable zi_nil)))))))
set_option maxHeartbeats 4000000 in
set_option maxRecDepth 100000 in
theorem j184_X12_passes (l : Launch) (D : va_G) (zt : Nat × Nat × Nat × (Nat → Nat) × (Nat → Nat)) (r : Nat → Nat) (g : Nat → ClassId) (I : Nat → Int32) (A : Nat → Nat → Int32) (L : Nat → Nat → Int64) (z1 : Int32) (z2 : Int32) (z3 : Int32) (hIv : IvM I A) (hp0 : 0 ≤ z1.toInt) (hp1 : z1.toInt ≤ 4) (hp2 : 0 ≤ z2.toInt) (hp3 : z2.toInt ≤ 159) (hp4 : 1 ≤ (A 11 (5 * (I 15) + z1).toNatClampNeg).toInt) (hp5 : z2.toInt + (A 11 (5 * (I 15) + z1).toNatClampNeg).toInt ≤ 160) : GM l D zt (tyM g) yX12_passes wz_j184_X12_passes ({ frames := 5, cells := 0, slots := 0, locals := 112 } : Room) [.ref (r 0), .int z1, .int z2, .int z3] (wM r g I A L) (fun v _ w' => ∃ (I' : Nat → Int32) (A' : Nat → Nat → Int32) (L' : Nat → Nat → Int64), Md [18, 19, 20, 21] I I' ∧ Md [19, 20, 21] A A' ∧ IvM I' A' ∧ ∃ y0 : Int32, (0 ≤ y0.toInt) ∧ (y0.toInt ≤ 5) ∧ v = some (.int y0) ∧ w' = wM r g I' A' L') 0 0 := by
  refine GM.of (cc := cX12_passes) (maxL := 4) (ret := (some .int)) (own := RX12) (lv := [(0, .ref (r 0)), (1, .int z1), (2, .int z2), (3, .int z3)]) (by decide) rfl rfl (Nat.le_of_ble_eq_true rfl) rfl (fun κ sz hk hR hN => ?_)
  have hin12 : ∀ w ∈ u_ws RX12 TX12 55, w ∈ wz_j184_X12_passes := fun w h => (List.mem_cons_of_mem _ (List.mem_append_right _ (List.mem_append_left _ h)))
  refine g_aload_n hk dX12_passes_0 rfl ?_
  refine g_iload_n hk dX12_passes_1 rfl ?_
  refine g_iload_n hk dX12_passes_2 rfl ?_
  have f21029 : 0 ≤ (A 11 (5 * (I 15) + z1).toNatClampNeg).toInt ∧ (A 11 (5 * (I 15) + z1).toNatClampNeg).toInt ≤ 16 := IvM_a11 hIv _
  refine g_callV (n := 2) hk (j170_X12_laysBoth l D zt r g I A L z1 z2 hIv (by omega) (by omega) (by omega) (by omega) (by omega) (by omega)) (SP.same _) (fun _ h => h) (gi_V (List.mem_cons_of_mem _ (List.mem_append_left _ (List.mem_of_getElem? (i := 0) rfl))) (List.mem_cons_of_mem _ (List.mem_append_left _ (List.mem_of_getElem? (i := 1) rfl))) (List.mem_cons_of_mem _ (List.mem_append_left _ (List.mem_of_getElem? (i := 2) rfl))) (List.mem_cons_of_mem _ (List.mem_append_left _ (List.mem_of_getElem? (i := 3) rfl))) (gi_sub (fun w h => (List.mem_cons_of_mem _ (List.mem_append_right _ (List.mem_append_right _ (List.mem_append_left _ h))))) zg_j170_X12_laysBoth)) rfl rfl rfl (by decide +kernel) ⟨Nat.le_of_ble_eq_true rfl, Nat.le_of_ble_eq_true rfl⟩ 0 rfl rfl rfl rfl (Nat.le_of_ble_eq_true rfl) ⟨Nat.le_of_ble_eq_true rfl, Nat.le_of_ble_eq_true rfl⟩ dX12_passes_3 (fun v ty' w' hp hk' => ?_)
  obtain ⟨I21031, A21031, L21031, hI21031, hA21031, hV21031, r21032, rfl, rfl⟩ := hp
  have f21033 := IvM_f18 hV21031
  show GW κ 4 0 0 (wM r g I21031 A21031 L21031) 6 [(0, .ref (r 0)), (1, .int z1), (2, .int z2), (3, .int z3)] []
  refine g_aload_n hk dX12_passes_6 rfl ?_
  refine g_iconst (v := 0) hk dX12_passes_7 (by decide) ?_
  refine pM_i19 hk hin12 (List.mem_cons_of_mem _ (List.mem_append_left _ (List.mem_of_getElem? (i := 4) rfl))) dX12_passes_8 ?_
  refine g_aload_n hk dX12_passes_11 rfl ?_
  refine g_iconst (v := (-1)) hk dX12_passes_12 (by decide) ?_
  refine pM_i20 hk hin12 (List.mem_cons_of_mem _ (List.mem_append_left _ (List.mem_of_getElem? (i := 5) rfl))) dX12_passes_13 ?_
  refine g_aload_n hk dX12_passes_16 rfl ?_
  refine g_ldcw (v := 2000000000) hk (List.mem_cons_of_mem _ (List.mem_append_left _ (List.mem_of_getElem? (i := 6) rfl))) dX12_passes_17 ?_
  refine pM_i21 hk hin12 (List.mem_cons_of_mem _ (List.mem_append_left _ (List.mem_of_getElem? (i := 7) rfl))) dX12_passes_20 ?_
  refine g_aload_n hk dX12_passes_23 rfl ?_
  refine g_callV (n := 0) hk (j182_X12_endsOf l D zt r g (upd (upd (upd I21031 19 0) 20 (-1)) 21 2000000000) A21031 L21031  ⟨(IvM_f1 (I := I21031) (A := A21031) hV21031), (IvM_f2 (I := I21031) (A := A21031) hV21031), (IvM_f3 (I := I21031) (A := A21031) hV21031), (IvM_f4 (I := I21031) (A := A21031) hV21031), (IvM_f6 (I := I21031) (A := A21031) hV21031), (IvM_f8 (I := I21031) (A := A21031) hV21031), (IvM_f15 (I := I21031) (A := A21031) hV21031), (IvM_f16 (I := I21031) (A := A21031) hV21031), (IvM_f17 (I := I21031) (A := A21031) hV21031), (IvM_f18 (I := I21031) (A := A21031) hV21031), (IvM_f22 (I := I21031) (A := A21031) hV21031), (IvM_f23 (I := I21031) (A := A21031) hV21031), (IvM_f24 (I := I21031) (A := A21031) hV21031), (IvM_a11 (I := I21031) (A := A21031) hV21031), (IvM_a26 (I := I21031) (A := A21031) hV21031), (IvM_s8_0 (I := I21031) (A := A21031) hV21031), (IvM_s8_1 (I := I21031) (A := A21031) hV21031), (IvM_s10_0 (I := I21031) (A := A21031) hV21031), (IvM_s10_1 (I := I21031) (A := A21031) hV21031), (IvM_s17_0 (I := I21031) (A := A21031) hV21031), (IvM_s17_164 (I := I21031) (A := A21031) hV21031), (IvM_lv (I := I21031) (A := A21031) hV21031), (IvM_sd (I := I21031) (A := A21031) hV21031), (IvM_nq (I := I21031) (A := A21031) hV21031), (IvM_hr (I := I21031) (A := A21031) hV21031), (IvM_hh (I := I21031) (A := A21031) hV21031), trivial⟩ (by first | (rw [show ((upd (upd (upd I21031 19 0) 20 (-1)) 21 2000000000) 18) = (I21031 18) from rfl] <;> omega) | omega)) (SP.same _) (fun _ h => h) (gi_V (List.mem_cons_of_mem _ (List.mem_append_left _ (List.mem_of_getElem? (i := 8) rfl))) (List.mem_cons_of_mem _ (List.mem_append_left _ (List.mem_of_getElem? (i := 9) rfl))) (List.mem_cons_of_mem _ (List.mem_append_left _ (List.mem_of_getElem? (i := 10) rfl))) (List.mem_cons_of_mem _ (List.mem_append_left _ (List.mem_of_getElem? (i := 3) rfl))) (gi_sub (fun w h => (List.mem_cons_of_mem _ (List.mem_append_right _ (List.mem_append_right _ (List.mem_append_right _ (List.mem_append_left _ h)))))) zg_j182_X12_endsOf)) rfl rfl rfl (by decide +kernel) ⟨Nat.le_of_ble_eq_true rfl, Nat.le_of_ble_eq_true rfl⟩ 0 rfl rfl rfl rfl (Nat.le_of_ble_eq_true rfl) ⟨Nat.le_of_ble_eq_true rfl, Nat.le_of_ble_eq_true rfl⟩ dX12_passes_24 (fun v ty' w' hp hk' => ?_)
  obtain ⟨y21034, rfl, rfl⟩ := hp
  show GW κ 4 0 0 (wM r g (upd (upd (upd I21031 19 0) 20 (-1)) 21 2000000000) A21031 L21031) 27 [(0, .ref (r 0)), (1, .int z1), (2, .int z2), (3, .int z3)] [.int y21034]
  refine g_iload_n hk dX12_passes_27 rfl ?_
  have b21035l := Int32.le_toInt y21034
  have b21035h := Int32.toInt_lt y21034
  have b21036l := Int32.le_toInt z3
  have b21036h := Int32.toInt_lt z3
  refine g_icmp_lt (tgt := 33) (a := y21034.toInt) (b := z3.toInt) hk dX12_passes_28 (by decide) rfl rfl (fun c21037 => ?_) (fun c21037 => ?_)
  · skip
    refine g_aload_n hk dX12_passes_33 rfl ?_
    refine g_callV (n := 0) hk (j181_X12_overOf l D zt r g (upd (upd (upd I21031 19 0) 20 (-1)) 21 2000000000) A21031 L21031  ⟨(IvM_f1 (I := I21031) (A := A21031) hV21031), (IvM_f2 (I := I21031) (A := A21031) hV21031), (IvM_f3 (I := I21031) (A := A21031) hV21031), (IvM_f4 (I := I21031) (A := A21031) hV21031), (IvM_f6 (I := I21031) (A := A21031) hV21031), (IvM_f8 (I := I21031) (A := A21031) hV21031), (IvM_f15 (I := I21031) (A := A21031) hV21031), (IvM_f16 (I := I21031) (A := A21031) hV21031), (IvM_f17 (I := I21031) (A := A21031) hV21031), (IvM_f18 (I := I21031) (A := A21031) hV21031), (IvM_f22 (I := I21031) (A := A21031) hV21031), (IvM_f23 (I := I21031) (A := A21031) hV21031), (IvM_f24 (I := I21031) (A := A21031) hV21031), (IvM_a11 (I := I21031) (A := A21031) hV21031), (IvM_a26 (I := I21031) (A := A21031) hV21031), (IvM_s8_0 (I := I21031) (A := A21031) hV21031), (IvM_s8_1 (I := I21031) (A := A21031) hV21031), (IvM_s10_0 (I := I21031) (A := A21031) hV21031), (IvM_s10_1 (I := I21031) (A := A21031) hV21031), (IvM_s17_0 (I := I21031) (A := A21031) hV21031), (IvM_s17_164 (I := I21031) (A := A21031) hV21031), (IvM_lv (I := I21031) (A := A21031) hV21031), (IvM_sd (I := I21031) (A := A21031) hV21031), (IvM_nq (I := I21031) (A := A21031) hV21031), (IvM_hr (I := I21031) (A := A21031) hV21031), (IvM_hh (I := I21031) (A := A21031) hV21031), trivial⟩) (SP.same _) (fun _ h => h) (gi_V (List.mem_cons_of_mem _ (List.mem_append_left _ (List.mem_of_getElem? (i := 11) rfl))) (List.mem_cons_of_mem _ (List.mem_append_left _ (List.mem_of_getElem? (i := 12) rfl))) (List.mem_cons_of_mem _ (List.mem_append_left _ (List.mem_of_getElem? (i := 13) rfl))) (List.mem_cons_of_mem _ (List.mem_append_left _ (List.mem_of_getElem? (i := 3) rfl))) (gi_sub (fun w h => (List.mem_cons_of_mem _ (List.mem_append_right _ (List.mem_append_right _ (List.mem_append_right _ (List.mem_append_right _ (List.mem_append_left _ h))))))) zg_j181_X12_overOf)) rfl rfl rfl (by decide +kernel) ⟨Nat.le_of_ble_eq_true rfl, Nat.le_of_ble_eq_true rfl⟩ 0 rfl rfl rfl rfl (Nat.le_of_ble_eq_true rfl) ⟨Nat.le_of_ble_eq_true rfl, Nat.le_of_ble_eq_true rfl⟩ dX12_passes_34 (fun v ty' w' hp hk' => ?_)
    obtain ⟨y21038, rfl, rfl⟩ := hp
    show GW κ 4 0 0 (wM r g (upd (upd (upd I21031 19 0) 20 (-1)) 21 2000000000) A21031 L21031) 37 [(0, .ref (r 0)), (1, .int z1), (2, .int z2), (3, .int z3)] [.int y21038]
    refine g_iload_n hk dX12_passes_37 rfl ?_
    have b21039l := Int32.le_toInt y21038
    have b21039h := Int32.toInt_lt y21038
    refine g_icmp_lt (tgt := 43) (a := y21038.toInt) (b := z3.toInt) hk dX12_passes_38 (by decide) rfl rfl (fun c21040 => ?_) (fun c21040 => ?_)
    · skip
      refine g_aload_n hk dX12_passes_43 rfl ?_
      refine g_callV (n := 0) hk (j180_X12_backOf l D zt r g (upd (upd (upd I21031 19 0) 20 (-1)) 21 2000000000) A21031 L21031  ⟨(IvM_f1 (I := I21031) (A := A21031) hV21031), (IvM_f2 (I := I21031) (A := A21031) hV21031), (IvM_f3 (I := I21031) (A := A21031) hV21031), (IvM_f4 (I := I21031) (A := A21031) hV21031), (IvM_f6 (I := I21031) (A := A21031) hV21031), (IvM_f8 (I := I21031) (A := A21031) hV21031), (IvM_f15 (I := I21031) (A := A21031) hV21031), (IvM_f16 (I := I21031) (A := A21031) hV21031), (IvM_f17 (I := I21031) (A := A21031) hV21031), (IvM_f18 (I := I21031) (A := A21031) hV21031), (IvM_f22 (I := I21031) (A := A21031) hV21031), (IvM_f23 (I := I21031) (A := A21031) hV21031), (IvM_f24 (I := I21031) (A := A21031) hV21031), (IvM_a11 (I := I21031) (A := A21031) hV21031), (IvM_a26 (I := I21031) (A := A21031) hV21031), (IvM_s8_0 (I := I21031) (A := A21031) hV21031), (IvM_s8_1 (I := I21031) (A := A21031) hV21031), (IvM_s10_0 (I := I21031) (A := A21031) hV21031), (IvM_s10_1 (I := I21031) (A := A21031) hV21031), (IvM_s17_0 (I := I21031) (A := A21031) hV21031), (IvM_s17_164 (I := I21031) (A := A21031) hV21031), (IvM_lv (I := I21031) (A := A21031) hV21031), (IvM_sd (I := I21031) (A := A21031) hV21031), (IvM_nq (I := I21031) (A := A21031) hV21031), (IvM_hr (I := I21031) (A := A21031) hV21031), (IvM_hh (I := I21031) (A := A21031) hV21031), trivial⟩) (SP.same _) (fun _ h => h) (gi_V (List.mem_cons_of_mem _ (List.mem_append_left _ (List.mem_of_getElem? (i := 14) rfl))) (List.mem_cons_of_mem _ (List.mem_append_left _ (List.mem_of_getElem? (i := 15) rfl))) (List.mem_cons_of_mem _ (List.mem_append_left _ (List.mem_of_getElem? (i := 16) rfl))) (List.mem_cons_of_mem _ (List.mem_append_left _ (List.mem_of_getElem? (i := 3) rfl))) (gi_sub (fun w h => (List.mem_cons_of_mem _ (List.mem_append_right _ (List.mem_append_right _ (List.mem_append_right _ (List.mem_append_right _ (List.mem_append_right _ (List.mem_append_left _ h)))))))) zg_j180_X12_backOf)) rfl rfl rfl (by decide +kernel) ⟨Nat.le_of_ble_eq_true rfl, Nat.le_of_ble_eq_true rfl⟩ 0 rfl rfl rfl rfl (Nat.le_of_ble_eq_true rfl) ⟨Nat.le_of_ble_eq_true rfl, Nat.le_of_ble_eq_true rfl⟩ dX12_passes_44 (fun v ty' w' hp hk' => ?_)
      obtain ⟨I21042, A21042, L21042, hI21042, hA21042, hV21042, y21041, rfl, rfl⟩ := hp
      show GW κ 4 0 0 (wM r g I21042 A21042 L21042) 47 [(0, .ref (r 0)), (1, .int z1), (2, .int z2), (3, .int z3)] [.int y21041]
      refine g_iload_n hk dX12_passes_47 rfl ?_
      have b21043l := Int32.le_toInt y21041
      have b21043h := Int32.toInt_lt y21041
      refine g_icmp_lt (tgt := 53) (a := y21041.toInt) (b := z3.toInt) hk dX12_passes_48 (by decide) rfl rfl (fun c21044 => ?_) (fun c21044 => ?_)
      · skip
        refine g_aload_n hk dX12_passes_53 rfl ?_
        refine g_aload_n hk dX12_passes_54 rfl ?_
        refine g_iload_n hk dX12_passes_55 rfl ?_
        refine g_callV (n := 1) hk (j173_X12_laysTable l D zt r g I21042 A21042 L21042 z3 hV21042) (SP.same _) (fun _ h => h) (gi_V (List.mem_cons_of_mem _ (List.mem_append_left _ (List.mem_of_getElem? (i := 17) rfl))) (List.mem_cons_of_mem _ (List.mem_append_left _ (List.mem_of_getElem? (i := 18) rfl))) (List.mem_cons_of_mem _ (List.mem_append_left _ (List.mem_of_getElem? (i := 19) rfl))) (List.mem_cons_of_mem _ (List.mem_append_left _ (List.mem_of_getElem? (i := 3) rfl))) (gi_sub (fun w h => (List.mem_cons_of_mem _ (List.mem_append_right _ (List.mem_append_right _ (List.mem_append_right _ (List.mem_append_right _ (List.mem_append_right _ (List.mem_append_right _ (List.mem_append_left _ h))))))))) zg_j173_X12_laysTable)) rfl rfl rfl (by decide +kernel) ⟨Nat.le_of_ble_eq_true rfl, Nat.le_of_ble_eq_true rfl⟩ 0 rfl rfl rfl rfl (Nat.le_of_ble_eq_true rfl) ⟨Nat.le_of_ble_eq_true rfl, Nat.le_of_ble_eq_true rfl⟩ dX12_passes_56 (fun v ty' w' hp hk' => ?_)
        obtain ⟨I21046, A21046, L21046, hI21046, hA21046, hV21046, y21045, rfl, rfl⟩ := hp
        show GW κ 4 0 0 (wM r g I21046 A21046 L21046) 59 [(0, .ref (r 0)), (1, .int z1), (2, .int z2), (3, .int z3)] [.int y21045, .ref (r 0)]
        refine pM_i21 hk hin12 (List.mem_cons_of_mem _ (List.mem_append_left _ (List.mem_of_getElem? (i := 7) rfl))) dX12_passes_59 ?_
        refine g_aload_n hk dX12_passes_62 rfl ?_
        refine gM_i20 (v := (I21046 20)) hk hin12 (List.mem_cons_of_mem _ (List.mem_append_left _ (List.mem_of_getElem? (i := 5) rfl))) dX12_passes_63 rfl ?_
        have b21047l := Int32.le_toInt (I21046 20)
        have b21047h := Int32.toInt_lt (I21046 20)
        refine g_if_lt (tgt := 73) (a := (I21046 20).toInt) hk dX12_passes_66 (by decide) rfl (fun c21048 => ?_) (fun c21048 => ?_)
        · skip
          refine g_aload_n hk dX12_passes_73 rfl ?_
          refine gM_i21 (v := y21045) hk hin12 (List.mem_cons_of_mem _ (List.mem_append_left _ (List.mem_of_getElem? (i := 7) rfl))) dX12_passes_74 rfl ?_
          refine g_iload_n hk dX12_passes_77 rfl ?_
          have b21049l := Int32.le_toInt y21045
          have b21049h := Int32.toInt_lt y21045
          refine g_icmp_lt (tgt := 85) (a := y21045.toInt) (b := z3.toInt) hk dX12_passes_78 (by decide) rfl rfl (fun c21050 => ?_) (fun c21050 => ?_)
          · skip
            refine g_iconst (v := 0) hk dX12_passes_85 (by decide) ?_
            exact g_iret hk hR rfl ⟨(upd I21046 21 y21045), A21046, L21046, (show Md [18, 19, 20, 21] I (upd I21046 21 y21045) from (Md.up (Md.tr (Md.tr (Md.up (Md.up (Md.up (Md.tr Md.rf hI21031 rfl) rfl) rfl) rfl) hI21042 rfl) hI21046 rfl) rfl)), (show Md [19, 20, 21] A A21046 from (Md.tr (Md.tr (Md.tr Md.rf hA21031 rfl) hA21042 rfl) hA21046 rfl)), ⟨(IvM_f1 (I := I21046) (A := A21046) hV21046), (IvM_f2 (I := I21046) (A := A21046) hV21046), (IvM_f3 (I := I21046) (A := A21046) hV21046), (IvM_f4 (I := I21046) (A := A21046) hV21046), (IvM_f6 (I := I21046) (A := A21046) hV21046), (IvM_f8 (I := I21046) (A := A21046) hV21046), (IvM_f15 (I := I21046) (A := A21046) hV21046), (IvM_f16 (I := I21046) (A := A21046) hV21046), (IvM_f17 (I := I21046) (A := A21046) hV21046), (IvM_f18 (I := I21046) (A := A21046) hV21046), (IvM_f22 (I := I21046) (A := A21046) hV21046), (IvM_f23 (I := I21046) (A := A21046) hV21046), (IvM_f24 (I := I21046) (A := A21046) hV21046), (IvM_a11 (I := I21046) (A := A21046) hV21046), (IvM_a26 (I := I21046) (A := A21046) hV21046), (IvM_s8_0 (I := I21046) (A := A21046) hV21046), (IvM_s8_1 (I := I21046) (A := A21046) hV21046), (IvM_s10_0 (I := I21046) (A := A21046) hV21046), (IvM_s10_1 (I := I21046) (A := A21046) hV21046), (IvM_s17_0 (I := I21046) (A := A21046) hV21046), (IvM_s17_164 (I := I21046) (A := A21046) hV21046), (IvM_lv (I := I21046) (A := A21046) hV21046), (IvM_sd (I := I21046) (A := A21046) hV21046), (IvM_nq (I := I21046) (A := A21046) hV21046), (IvM_hr (I := I21046) (A := A21046) hV21046), (IvM_hh (I := I21046) (A := A21046) hV21046), trivial⟩, 0, (by decide), (by decide), rfl, rfl⟩ dX12_passes_86
          · skip
            refine g_iconst (v := 5) hk dX12_passes_81 (by decide) ?_
            refine g_goto (tgt := 86) hk dX12_passes_82 (by decide) ?_
            exact g_iret hk hR rfl ⟨(upd I21046 21 y21045), A21046, L21046, (show Md [18, 19, 20, 21] I (upd I21046 21 y21045) from (Md.up (Md.tr (Md.tr (Md.up (Md.up (Md.up (Md.tr Md.rf hI21031 rfl) rfl) rfl) rfl) hI21042 rfl) hI21046 rfl) rfl)), (show Md [19, 20, 21] A A21046 from (Md.tr (Md.tr (Md.tr Md.rf hA21031 rfl) hA21042 rfl) hA21046 rfl)), ⟨(IvM_f1 (I := I21046) (A := A21046) hV21046), (IvM_f2 (I := I21046) (A := A21046) hV21046), (IvM_f3 (I := I21046) (A := A21046) hV21046), (IvM_f4 (I := I21046) (A := A21046) hV21046), (IvM_f6 (I := I21046) (A := A21046) hV21046), (IvM_f8 (I := I21046) (A := A21046) hV21046), (IvM_f15 (I := I21046) (A := A21046) hV21046), (IvM_f16 (I := I21046) (A := A21046) hV21046), (IvM_f17 (I := I21046) (A := A21046) hV21046), (IvM_f18 (I := I21046) (A := A21046) hV21046), (IvM_f22 (I := I21046) (A := A21046) hV21046), (IvM_f23 (I := I21046) (A := A21046) hV21046), (IvM_f24 (I := I21046) (A := A21046) hV21046), (IvM_a11 (I := I21046) (A := A21046) hV21046), (IvM_a26 (I := I21046) (A := A21046) hV21046), (IvM_s8_0 (I := I21046) (A := A21046) hV21046), (IvM_s8_1 (I := I21046) (A := A21046) hV21046), (IvM_s10_0 (I := I21046) (A := A21046) hV21046), (IvM_s10_1 (I := I21046) (A := A21046) hV21046), (IvM_s17_0 (I := I21046) (A := A21046) hV21046), (IvM_s17_164 (I := I21046) (A := A21046) hV21046), (IvM_lv (I := I21046) (A := A21046) hV21046), (IvM_sd (I := I21046) (A := A21046) hV21046), (IvM_nq (I := I21046) (A := A21046) hV21046), (IvM_hr (I := I21046) (A := A21046) hV21046), (IvM_hh (I := I21046) (A := A21046) hV21046), trivial⟩, 5, (by decide), (by decide), rfl, rfl⟩ dX12_passes_86
        · skip
          refine g_iconst (v := 4) hk dX12_passes_69 (by decide) ?_
          refine g_goto (tgt := 86) hk dX12_passes_70 (by decide) ?_
          exact g_iret hk hR rfl ⟨(upd I21046 21 y21045), A21046, L21046, (show Md [18, 19, 20, 21] I (upd I21046 21 y21045) from (Md.up (Md.tr (Md.tr (Md.up (Md.up (Md.up (Md.tr Md.rf hI21031 rfl) rfl) rfl) rfl) hI21042 rfl) hI21046 rfl) rfl)), (show Md [19, 20, 21] A A21046 from (Md.tr (Md.tr (Md.tr Md.rf hA21031 rfl) hA21042 rfl) hA21046 rfl)), ⟨(IvM_f1 (I := I21046) (A := A21046) hV21046), (IvM_f2 (I := I21046) (A := A21046) hV21046), (IvM_f3 (I := I21046) (A := A21046) hV21046), (IvM_f4 (I := I21046) (A := A21046) hV21046), (IvM_f6 (I := I21046) (A := A21046) hV21046), (IvM_f8 (I := I21046) (A := A21046) hV21046), (IvM_f15 (I := I21046) (A := A21046) hV21046), (IvM_f16 (I := I21046) (A := A21046) hV21046), (IvM_f17 (I := I21046) (A := A21046) hV21046), (IvM_f18 (I := I21046) (A := A21046) hV21046), (IvM_f22 (I := I21046) (A := A21046) hV21046), (IvM_f23 (I := I21046) (A := A21046) hV21046), (IvM_f24 (I := I21046) (A := A21046) hV21046), (IvM_a11 (I := I21046) (A := A21046) hV21046), (IvM_a26 (I := I21046) (A := A21046) hV21046), (IvM_s8_0 (I := I21046) (A := A21046) hV21046), (IvM_s8_1 (I := I21046) (A := A21046) hV21046), (IvM_s10_0 (I := I21046) (A := A21046) hV21046), (IvM_s10_1 (I := I21046) (A := A21046) hV21046), (IvM_s17_0 (I := I21046) (A := A21046) hV21046), (IvM_s17_164 (I := I21046) (A := A21046) hV21046), (IvM_lv (I := I21046) (A := A21046) hV21046), (IvM_sd (I := I21046) (A := A21046) hV21046), (IvM_nq (I := I21046) (A := A21046) hV21046), (IvM_hr (I := I21046) (A := A21046) hV21046), (IvM_hh (I := I21046) (A := A21046) hV21046), trivial⟩, 4, (by decide), (by decide), rfl, rfl⟩ dX12_passes_86
      · skip
        refine g_iconst (v := 3) hk dX12_passes_51 (by decide) ?_
        exact g_iret hk hR rfl ⟨I21042, A21042, L21042, (show Md [18, 19, 20, 21] I I21042 from (Md.tr (Md.up (Md.up (Md.up (Md.tr Md.rf hI21031 rfl) rfl) rfl) rfl) hI21042 rfl)), (show Md [19, 20, 21] A A21042 from (Md.tr (Md.tr Md.rf hA21031 rfl) hA21042 rfl)), hV21042, 3, (by decide), (by decide), rfl, rfl⟩ dX12_passes_52
    · skip
      refine g_iconst (v := 2) hk dX12_passes_41 (by decide) ?_
      exact g_iret hk hR rfl ⟨(upd (upd (upd I21031 19 0) 20 (-1)) 21 2000000000), A21031, L21031, (show Md [18, 19, 20, 21] I (upd (upd (upd I21031 19 0) 20 (-1)) 21 2000000000) from (Md.up (Md.up (Md.up (Md.tr Md.rf hI21031 rfl) rfl) rfl) rfl)), (show Md [19, 20, 21] A A21031 from (Md.tr Md.rf hA21031 rfl)), ⟨(IvM_f1 (I := I21031) (A := A21031) hV21031), (IvM_f2 (I := I21031) (A := A21031) hV21031), (IvM_f3 (I := I21031) (A := A21031) hV21031), (IvM_f4 (I := I21031) (A := A21031) hV21031), (IvM_f6 (I := I21031) (A := A21031) hV21031), (IvM_f8 (I := I21031) (A := A21031) hV21031), (IvM_f15 (I := I21031) (A := A21031) hV21031), (IvM_f16 (I := I21031) (A := A21031) hV21031), (IvM_f17 (I := I21031) (A := A21031) hV21031), (IvM_f18 (I := I21031) (A := A21031) hV21031), (IvM_f22 (I := I21031) (A := A21031) hV21031), (IvM_f23 (I := I21031) (A := A21031) hV21031), (IvM_f24 (I := I21031) (A := A21031) hV21031), (IvM_a11 (I := I21031) (A := A21031) hV21031), (IvM_a26 (I := I21031) (A := A21031) hV21031), (IvM_s8_0 (I := I21031) (A := A21031) hV21031), (IvM_s8_1 (I := I21031) (A := A21031) hV21031), (IvM_s10_0 (I := I21031) (A := A21031) hV21031), (IvM_s10_1 (I := I21031) (A := A21031) hV21031), (IvM_s17_0 (I := I21031) (A := A21031) hV21031), (IvM_s17_164 (I := I21031) (A := A21031) hV21031), (IvM_lv (I := I21031) (A := A21031) hV21031), (IvM_sd (I := I21031) (A := A21031) hV21031), (IvM_nq (I := I21031) (A := A21031) hV21031), (IvM_hr (I := I21031) (A := A21031) hV21031), (IvM_hh (I := I21031) (A := A21031) hV21031), trivial⟩, 2, (by decide), (by decide), rfl, rfl⟩ dX12_passes_42
  · skip
    refine g_iconst (v := 1) hk dX12_passes_31 (by decide) ?_
    exact g_iret hk hR rfl ⟨(upd (upd (upd I21031 19 0) 20 (-1)) 21 2000000000), A21031, L21031, (show Md [18, 19, 20, 21] I (upd (upd (upd I21031 19 0) 20 (-1)) 21 2000000000) from (Md.up (Md.up (Md.up (Md.tr Md.rf hI21031 rfl) rfl) rfl) rfl)), (show Md [19, 20, 21] A A21031 from (Md.tr Md.rf hA21031 rfl)), ⟨(IvM_f1 (I := I21031) (A := A21031) hV21031), (IvM_f2 (I := I21031) (A := A21031) hV21031), (IvM_f3 (I := I21031) (A := A21031) hV21031), (IvM_f4 (I := I21031) (A := A21031) hV21031), (IvM_f6 (I := I21031) (A := A21031) hV21031), (IvM_f8 (I := I21031) (A := A21031) hV21031), (IvM_f15 (I := I21031) (A := A21031) hV21031), (IvM_f16 (I := I21031) (A := A21031) hV21031), (IvM_f17 (I := I21031) (A := A21031) hV21031), (IvM_f18 (I := I21031) (A := A21031) hV21031), (IvM_f22 (I := I21031) (A := A21031) hV21031), (IvM_f23 (I := I21031) (A := A21031) hV21031), (IvM_f24 (I := I21031) (A := A21031) hV21031), (IvM_a11 (I := I21031) (A := A21031) hV21031), (IvM_a26 (I := I21031) (A := A21031) hV21031), (IvM_s8_0 (I := I21031) (A := A21031) hV21031), (IvM_s8_1 (I := I21031) (A := A21031) hV21031), (IvM_s10_0 (I := I21031) (A := A21031) hV21031), (IvM_s10_1 (I := I21031) (A := A21031) hV21031), (IvM_s17_0 (I := I21031) (A := A21031) hV21031), (IvM_s17_164 (I := I21031) (A := A21031) hV21031), (IvM_lv (I := I21031) (A := A21031) hV21031), (IvM_sd (I := I21031) (A := A21031) hV21031), (IvM_nq (I := I21031) (A := A21031) hV21031), (IvM_hr (I := I21031) (A := A21031) hV21031), (IvM_hh (I := I21031) (A := A21031) hV21031), trivial⟩, 1, (by decide), (by decide), rfl, rfl⟩ dX12_passes_32
def wo_j183_X12_look : List Cond := [Cond.methodLink RX12 342 yX12_isOf, Cond.instanceMethod yX12_isOf, Cond.selects RX12 yX12_isOf yX12_isOf, Cond.initialized RX12, Cond.methodLink RX12 244 yX12_in, Cond.static yX12_in, Cond.methodLink RX12 323 yX12_copies, Cond.instanceMethod yX12_copies, Cond.selects RX12 yX12_copies yX12_copies, Cond.methodLink RX12 348 yX12_passes, Cond.instanceMethod yX12_passes, Cond.selects RX12 yX12_passes yX12_passes, Cond.fieldLink RX12 295 "WarpDeskModel" "brokeAt" "I", Cond.fieldLink RX12 292 "WarpDeskModel" "laid" "I"]
def wz_j183_X12_look : List Cond := .code yX12_look cX12_look 6 (some .int) :: (wo_j183_X12_look ++ (wsX120 ++ (wz_j168_X12_isOf ++ (wz_j145_X12_in ++ (wz_j151_X12_copies ++ (wz_j184_X12_passes ++ ([] : List Cond)))))))
theorem zg_j183_X12_look : ∀ w ∈ wz_j183_X12_look, goodWord w = true := zg_cons rfl (zg_app (by decide +kernel) (zg_app zgU_wsX120 (zg_app zg_j168_X12_isOf (zg_app zg_j145_X12_in (zg_app zg_j151_X12_copies (zg_app zg_j184_X12_passes zg_nil))))))
theorem zi_j183_X12_look : ∀ w ∈ wz_j183_X12_look, w ∈ lw_tbl := zi_cons zw_1819 (zi_app (zi_cons zw_1755 (zi_cons zw_1757 (zi_cons zw_78 (zi_cons zw_115 (zi_cons zw_1656 (zi_cons zw_1657 (zi_cons zw_1679 (zi_cons zw_1681 (zi_cons zw_70 (zi_cons zw_1820 (zi_cons zw_1822 (zi_cons zw_91 (zi_cons zw_1420 (zi_cons zw_1419 zi_nil)))))))))))))) (zi_app inX12 (zi_app zi_j168_X12_isOf (zi_app zi_j145_X12_in (zi_app zi_j151_X12_copies (zi_app zi_j184_X12_passes zi_nil))))))
set_option maxHeartbeats 4000000 in
set_option maxRecDepth 100000 in
theorem j183_X12_look (l : Launch) (D : va_G) (zt : Nat × Nat × Nat × (Nat → Nat) × (Nat → Nat)) (r : Nat → Nat) (g : Nat → ClassId) (I : Nat → Int32) (A : Nat → Nat → Int32) (L : Nat → Nat → Int64) (z1 : Int32) (z2 : Int32) (z3 : Int32) (z4 : Int32) (hIv : IvM I A) : GM l D zt (tyM g) yX12_look wz_j183_X12_look ({ frames := 6, cells := 0, slots := 0, locals := 135 } : Room) [.ref (r 0), .int z1, .int z2, .int z3, .int z4] (wM r g I A L) (fun v _ w' => ∃ (I' : Nat → Int32) (A' : Nat → Nat → Int32) (L' : Nat → Nat → Int64), Md [18, 19, 20, 21] I I' ∧ Md [18, 19, 20, 21] A A' ∧ IvM I' A' ∧ ∃ y0 : Int32, v = some (.int y0) ∧ w' = wM r g I' A' L') 0 0 := by
  refine GM.of (cc := cX12_look) (maxL := 6) (ret := (some .int)) (own := RX12) (lv := [(0, .ref (r 0)), (1, .int z1), (2, .int z2), (3, .int z3), (4, .int z4)]) (by decide) rfl rfl (Nat.le_of_ble_eq_true rfl) rfl (fun κ sz hk hR hN => ?_)
  have hin12 : ∀ w ∈ u_ws RX12 TX12 55, w ∈ wz_j183_X12_look := fun w h => (List.mem_cons_of_mem _ (List.mem_append_right _ (List.mem_append_left _ h)))
  refine g_aload_n hk dX12_look_0 rfl ?_
  refine g_iload_n hk dX12_look_1 rfl ?_
  refine g_iload_n hk dX12_look_2 rfl ?_
  refine g_callV (n := 2) hk (j168_X12_isOf l D zt r g I A L z1 z2 hIv) (SP.same _) (fun _ h => h) (gi_V (List.mem_cons_of_mem _ (List.mem_append_left _ (List.mem_of_getElem? (i := 0) rfl))) (List.mem_cons_of_mem _ (List.mem_append_left _ (List.mem_of_getElem? (i := 1) rfl))) (List.mem_cons_of_mem _ (List.mem_append_left _ (List.mem_of_getElem? (i := 2) rfl))) (List.mem_cons_of_mem _ (List.mem_append_left _ (List.mem_of_getElem? (i := 3) rfl))) (gi_sub (fun w h => (List.mem_cons_of_mem _ (List.mem_append_right _ (List.mem_append_right _ (List.mem_append_left _ h))))) zg_j168_X12_isOf)) rfl rfl rfl (by decide +kernel) ⟨Nat.le_of_ble_eq_true rfl, Nat.le_of_ble_eq_true rfl⟩ 0 rfl rfl rfl rfl (Nat.le_of_ble_eq_true rfl) ⟨Nat.le_of_ble_eq_true rfl, Nat.le_of_ble_eq_true rfl⟩ dX12_look_3 (fun v ty' w' hp hk' => ?_)
  rcases hp with ⟨rfl, rfl⟩ | ⟨c21002, c21003, c21004, c21005, c21006, c21007, c21008, c21009, c21010, rfl, rfl⟩
  · skip
    show GW κ 6 0 0 (wM r g I A L) 6 [(0, .ref (r 0)), (1, .int z1), (2, .int z2), (3, .int z3), (4, .int z4)] [.int 0]
    refine g_if_eq (tgt := 23) (a := 0) hk dX12_look_6 (by decide) rfl (fun _ => ?_) (fun z9 => absurd (show (0 : Int) = (0 : Int) from by decide) z9)
    refine g_iconst (v := (-1)) hk dX12_look_23 (by decide) ?_
    exact g_iret hk hR rfl ⟨I, A, L, (show Md [18, 19, 20, 21] I I from Md.rf), (show Md [18, 19, 20, 21] A A from Md.rf), hIv, (-1), rfl, rfl⟩ dX12_look_24
  · skip
    have f21012 : 0 ≤ (A 11 (5 * (I 15) + z1).toNatClampNeg).toInt ∧ (A 11 (5 * (I 15) + z1).toNatClampNeg).toInt ≤ 16 := IvM_a11 hIv _
    show GW κ 6 0 0 (wM r g I A L) 6 [(0, .ref (r 0)), (1, .int z1), (2, .int z2), (3, .int z3), (4, .int z4)] [.int 1]
    refine g_if_eq (tgt := 23) (a := 1) hk dX12_look_6 (by decide) rfl (fun z9 => absurd z9 (show ¬ ((1 : Int) = (0 : Int)) from by decide)) (fun _ => ?_)
    refine g_iload_n hk dX12_look_9 rfl ?_
    have b21013l := Int32.le_toInt z3
    have b21013h := Int32.toInt_lt z3
    refine g_if_lt (tgt := 23) (a := z3.toInt) hk dX12_look_10 (by decide) rfl (fun c21014 => ?_) (fun c21014 => ?_)
    · skip
      refine g_iconst (v := (-1)) hk dX12_look_23 (by decide) ?_
      exact g_iret hk hR rfl ⟨I, A, L, (show Md [18, 19, 20, 21] I I from Md.rf), (show Md [18, 19, 20, 21] A A from Md.rf), hIv, (-1), rfl, rfl⟩ dX12_look_24
    · skip
      refine g_iload hk dX12_look_13 rfl ?_
      refine g_iconst (v := 0) hk dX12_look_15 (by decide) ?_
      refine g_iconst (v := 2) hk dX12_look_16 (by decide) ?_
      have k21015 : (0 : Int32).toInt = 0 := rfl
      have k21016 : (2 : Int32).toInt = 2 := rfl
      refine g_callS (n := 3) hk (j145_X12_in l D zt r g I A L z4 0 2 hIv) (SP.same _) (fun _ h => h) (gi_S (List.mem_cons_of_mem _ (List.mem_append_left _ (List.mem_of_getElem? (i := 4) rfl))) (List.mem_cons_of_mem _ (List.mem_append_left _ (List.mem_of_getElem? (i := 5) rfl))) (List.mem_cons_of_mem _ (List.mem_append_left _ (List.mem_of_getElem? (i := 3) rfl))) (gi_sub (fun w h => (List.mem_cons_of_mem _ (List.mem_append_right _ (List.mem_append_right _ (List.mem_append_right _ (List.mem_append_left _ h)))))) zg_j145_X12_in)) rfl rfl rfl (by decide +kernel) ⟨Nat.le_of_ble_eq_true rfl, Nat.le_of_ble_eq_true rfl⟩ rfl rfl (Nat.le_of_ble_eq_true rfl) ⟨Nat.le_of_ble_eq_true rfl, Nat.le_of_ble_eq_true rfl⟩ dX12_look_17 (fun v ty' w' hp hk' => ?_)
      rcases hp with ⟨c21017, rfl, rfl⟩ | ⟨c21019, c21020, rfl, rfl⟩
      · skip
        have b21022l := Int32.le_toInt z4
        have b21022h := Int32.toInt_lt z4
        show GW κ 6 0 0 (wM r g I A L) 20 [(0, .ref (r 0)), (1, .int z1), (2, .int z2), (3, .int z3), (4, .int z4)] [.int 0]
        refine g_if_ne (tgt := 25) (a := 0) hk dX12_look_20 (by decide) rfl (fun z9 => absurd z9 (show ¬ ((0 : Int) ≠ (0 : Int)) from by decide)) (fun _ => ?_)
        refine g_iconst (v := (-1)) hk dX12_look_23 (by decide) ?_
        exact g_iret hk hR rfl ⟨I, A, L, (show Md [18, 19, 20, 21] I I from Md.rf), (show Md [18, 19, 20, 21] A A from Md.rf), hIv, (-1), rfl, rfl⟩ dX12_look_24
      · skip
        show GW κ 6 0 0 (wM r g I A L) 20 [(0, .ref (r 0)), (1, .int z1), (2, .int z2), (3, .int z3), (4, .int z4)] [.int 1]
        refine g_if_ne (tgt := 25) (a := 1) hk dX12_look_20 (by decide) rfl (fun _ => ?_) (fun z9 => absurd (show (1 : Int) ≠ (0 : Int) from by decide) z9)
        refine g_aload_n hk dX12_look_25 rfl ?_
        refine g_callV (n := 0) hk (j151_X12_copies l D zt r g I A L  hIv) (SP.same _) (fun _ h => h) (gi_V (List.mem_cons_of_mem _ (List.mem_append_left _ (List.mem_of_getElem? (i := 6) rfl))) (List.mem_cons_of_mem _ (List.mem_append_left _ (List.mem_of_getElem? (i := 7) rfl))) (List.mem_cons_of_mem _ (List.mem_append_left _ (List.mem_of_getElem? (i := 8) rfl))) (List.mem_cons_of_mem _ (List.mem_append_left _ (List.mem_of_getElem? (i := 3) rfl))) (gi_sub (fun w h => (List.mem_cons_of_mem _ (List.mem_append_right _ (List.mem_append_right _ (List.mem_append_right _ (List.mem_append_right _ (List.mem_append_left _ h))))))) zg_j151_X12_copies)) rfl rfl rfl (by decide +kernel) ⟨Nat.le_of_ble_eq_true rfl, Nat.le_of_ble_eq_true rfl⟩ 0 rfl rfl rfl rfl (Nat.le_of_ble_eq_true rfl) ⟨Nat.le_of_ble_eq_true rfl, Nat.le_of_ble_eq_true rfl⟩ dX12_look_26 (fun v ty' w' hp hk' => ?_)
        obtain ⟨I21024, A21024, L21024, hI21024, hA21024, hV21024, r21025, r21026, rfl, rfl⟩ := hp
        have f21027 := IvM_s17_0 hIv
        have f21028 := IvM_s17_164 hIv
        show GW κ 6 0 0 (wM r g I21024 A21024 L21024) 29 [(0, .ref (r 0)), (1, .int z1), (2, .int z2), (3, .int z3), (4, .int z4)] []
        refine g_aload_n hk dX12_look_29 rfl ?_
        refine g_iload_n hk dX12_look_30 rfl ?_
        refine g_iload_n hk dX12_look_31 rfl ?_
        refine g_iload_n hk dX12_look_32 rfl ?_
        refine g_callV (n := 3) hk (j184_X12_passes l D zt r g I21024 A21024 L21024 z1 z2 z3 hV21024 (by omega) (by omega) (by omega) (by omega) (by first | (rw [show (A21024 11 (5 * (I21024 15) + z1).toNatClampNeg) = (A 11 (5 * (I 15) + z1).toNatClampNeg) from (by rw [show I21024 15 = (I 15) from (hI21024 15 rfl)]; exact (congrFun (hA21024 11 rfl) _))] <;> omega) | omega) (by first | (rw [show (A21024 11 (5 * (I21024 15) + z1).toNatClampNeg) = (A 11 (5 * (I 15) + z1).toNatClampNeg) from (by rw [show I21024 15 = (I 15) from (hI21024 15 rfl)]; exact (congrFun (hA21024 11 rfl) _))] <;> omega) | omega)) (SP.same _) (fun _ h => h) (gi_V (List.mem_cons_of_mem _ (List.mem_append_left _ (List.mem_of_getElem? (i := 9) rfl))) (List.mem_cons_of_mem _ (List.mem_append_left _ (List.mem_of_getElem? (i := 10) rfl))) (List.mem_cons_of_mem _ (List.mem_append_left _ (List.mem_of_getElem? (i := 11) rfl))) (List.mem_cons_of_mem _ (List.mem_append_left _ (List.mem_of_getElem? (i := 3) rfl))) (gi_sub (fun w h => (List.mem_cons_of_mem _ (List.mem_append_right _ (List.mem_append_right _ (List.mem_append_right _ (List.mem_append_right _ (List.mem_append_right _ (List.mem_append_left _ h)))))))) zg_j184_X12_passes)) rfl rfl rfl (by decide +kernel) ⟨Nat.le_of_ble_eq_true rfl, Nat.le_of_ble_eq_true rfl⟩ 0 rfl rfl rfl rfl (Nat.le_of_ble_eq_true rfl) ⟨Nat.le_of_ble_eq_true rfl, Nat.le_of_ble_eq_true rfl⟩ dX12_look_33 (fun v ty' w' hp hk' => ?_)
        obtain ⟨I21054, A21054, L21054, hI21054, hA21054, hV21054, y21051, c21052, c21053, rfl, rfl⟩ := hp
        show GW κ 6 0 0 (wM r g I21054 A21054 L21054) 36 [(0, .ref (r 0)), (1, .int z1), (2, .int z2), (3, .int z3), (4, .int z4)] [.int y21051]
        refine g_istore (lv' := [(5, .int y21051), (0, .ref (r 0)), (1, .int z1), (2, .int z2), (3, .int z3), (4, .int z4)]) hk dX12_look_36 (by decide) rfl ?_
        refine g_iload hk dX12_look_38 rfl ?_
        refine g_if_ne (tgt := 48) (a := z4.toInt) hk dX12_look_40 (by decide) rfl (fun c21055 => ?_) (fun c21055 => ?_)
        · skip
          refine g_iload hk dX12_look_48 rfl ?_
          refine g_iconst (v := 1) hk dX12_look_50 (by decide) ?_
          refine g_icmp_ne (tgt := 61) (a := z4.toInt) (b := 1) hk dX12_look_51 (by decide) rfl rfl (fun c21056 => ?_) (fun c21056 => ?_)
          · skip
            refine g_aload_n hk dX12_look_61 rfl ?_
            refine gM_i20 (v := (I21054 20)) hk hin12 (List.mem_cons_of_mem _ (List.mem_append_left _ (List.mem_of_getElem? (i := 12) rfl))) dX12_look_62 rfl ?_
            have b21057l := Int32.le_toInt (I21054 20)
            have b21057h := Int32.toInt_lt (I21054 20)
            refine g_if_lt (tgt := 75) (a := (I21054 20).toInt) hk dX12_look_65 (by decide) rfl (fun c21058 => ?_) (fun c21058 => ?_)
            · skip
              refine g_bipush (v := (-2)) hk dX12_look_75 (by decide) ?_
              exact g_iret hk hR rfl ⟨I21054, A21054, L21054, (show Md [18, 19, 20, 21] I I21054 from (Md.tr (Md.tr Md.rf hI21024 rfl) hI21054 rfl)), (show Md [18, 19, 20, 21] A A21054 from (Md.tr (Md.tr Md.rf hA21024 rfl) hA21054 rfl)), hV21054, (-2), rfl, rfl⟩ dX12_look_77
            · skip
              refine g_aload_n hk dX12_look_68 rfl ?_
              refine gM_i20 (v := (I21054 20)) hk hin12 (List.mem_cons_of_mem _ (List.mem_append_left _ (List.mem_of_getElem? (i := 12) rfl))) dX12_look_69 rfl ?_
              refine g_goto (tgt := 77) hk dX12_look_72 (by decide) ?_
              exact g_iret hk hR rfl ⟨I21054, A21054, L21054, (show Md [18, 19, 20, 21] I I21054 from (Md.tr (Md.tr Md.rf hI21024 rfl) hI21054 rfl)), (show Md [18, 19, 20, 21] A A21054 from (Md.tr (Md.tr Md.rf hA21024 rfl) hA21054 rfl)), hV21054, (I21054 20), rfl, rfl⟩ dX12_look_77
          · skip
            refine g_aload_n hk dX12_look_54 rfl ?_
            refine gM_i19 (v := (I21054 19)) hk hin12 (List.mem_cons_of_mem _ (List.mem_append_left _ (List.mem_of_getElem? (i := 13) rfl))) dX12_look_55 rfl ?_
            refine g_goto (tgt := 77) hk dX12_look_58 (by decide) ?_
            have b21059l := Int32.le_toInt (I21054 19)
            have b21059h := Int32.toInt_lt (I21054 19)
            exact g_iret hk hR rfl ⟨I21054, A21054, L21054, (show Md [18, 19, 20, 21] I I21054 from (Md.tr (Md.tr Md.rf hI21024 rfl) hI21054 rfl)), (show Md [18, 19, 20, 21] A A21054 from (Md.tr (Md.tr Md.rf hA21024 rfl) hA21054 rfl)), hV21054, (I21054 19), rfl, rfl⟩ dX12_look_77
        · skip
          refine g_iload hk dX12_look_43 rfl ?_
          refine g_goto (tgt := 77) hk dX12_look_45 (by decide) ?_
          exact g_iret hk hR rfl ⟨I21054, A21054, L21054, (show Md [18, 19, 20, 21] I I21054 from (Md.tr (Md.tr Md.rf hI21024 rfl) hI21054 rfl)), (show Md [18, 19, 20, 21] A A21054 from (Md.tr (Md.tr Md.rf hA21024 rfl) hA21054 rfl)), hV21054, y21051, rfl, rfl⟩ dX12_look_77
def wo_j186_X12_fillsFar : List Cond := [Cond.methodLink RX12 323 yX12_copies, Cond.instanceMethod yX12_copies, Cond.selects RX12 yX12_copies yX12_copies, Cond.initialized RX12, Cond.fieldLink RX12 91 "WarpDeskModel" "farBy" "[I", Cond.methodLink RX12 342 yX12_isOf, Cond.instanceMethod yX12_isOf, Cond.selects RX12 yX12_isOf yX12_isOf, Cond.methodLink RX12 345 yX12_distanceOf, Cond.instanceMethod yX12_distanceOf, Cond.selects RX12 yX12_distanceOf yX12_distanceOf]
def wz_j186_X12_fillsFar : List Cond := .code yX12_fillsFar cX12_fillsFar 3 none :: (wo_j186_X12_fillsFar ++ (wsX120 ++ (wz_j151_X12_copies ++ (wz_j168_X12_isOf ++ (wz_j169_X12_distanceOf ++ ([] : List Cond))))))
theorem zg_j186_X12_fillsFar : ∀ w ∈ wz_j186_X12_fillsFar, goodWord w = true := zg_cons rfl (zg_app (by decide +kernel) (zg_app zgU_wsX120 (zg_app zg_j151_X12_copies (zg_app zg_j168_X12_isOf (zg_app zg_j169_X12_distanceOf zg_nil)))))
theorem zi_j186_X12_fillsFar : ∀ w ∈ wz_j186_X12_fillsFar, w ∈ lw_tbl := zi_cons zw_1847 (zi_app (zi_cons zw_1679 (zi_cons zw_1681 (zi_cons zw_70 (zi_cons zw_115 (zi_cons zw_1426 (zi_cons zw_1755 (zi_cons zw_1757 (zi_cons zw_78 (zi_cons zw_1759 (zi_cons zw_1761 (zi_cons zw_79 zi_nil))))))))))) (zi_app inX12 (zi_app zi_j151_X12_copies (zi_app zi_j168_X12_isOf (zi_app zi_j169_X12_distanceOf zi_nil)))))
set_option maxHeartbeats 4000000 in
set_option maxRecDepth 100000 in
theorem j186_X12_fillsFar (l : Launch) (D : va_G) (zt : Nat × Nat × Nat × (Nat → Nat) × (Nat → Nat)) (r : Nat → Nat) (g : Nat → ClassId) (I : Nat → Int32) (A : Nat → Nat → Int32) (L : Nat → Nat → Int64) (z1 : Int32) (hIv : IvM I A) (hp0 : 0 ≤ z1.toInt) (hp1 : z1.toInt ≤ 4) : GM l D zt (tyM g) yX12_fillsFar wz_j186_X12_fillsFar ({ frames := 6, cells := 0, slots := 0, locals := 134 } : Room) [.ref (r 0), .int z1] (wM r g I A L) (fun v _ w' => ∃ (I' : Nat → Int32) (A' : Nat → Nat → Int32) (L' : Nat → Nat → Int64), Md [18, 19, 20] I I' ∧ Md [18, 19, 20, 21, 24] A A' ∧ IvM I' A' ∧ (1 ≤ (A' 18 164).toInt) ∧ v = none ∧ w' = wM r g I' A' L') 0 0 := by
  refine GM.of (cc := cX12_fillsFar) (maxL := 3) (ret := none) (own := RX12) (lv := [(0, .ref (r 0)), (1, .int z1)]) (by decide) rfl rfl (Nat.le_of_ble_eq_true rfl) rfl (fun κ sz hk hR hN => ?_)
  have hin12 : ∀ w ∈ u_ws RX12 TX12 55, w ∈ wz_j186_X12_fillsFar := fun w h => (List.mem_cons_of_mem _ (List.mem_append_right _ (List.mem_append_left _ h)))
  refine g_aload_n hk dX12_fillsFar_0 rfl ?_
  refine g_callV (n := 0) hk (j151_X12_copies l D zt r g I A L  hIv) (SP.same _) (fun _ h => h) (gi_V (List.mem_cons_of_mem _ (List.mem_append_left _ (List.mem_of_getElem? (i := 0) rfl))) (List.mem_cons_of_mem _ (List.mem_append_left _ (List.mem_of_getElem? (i := 1) rfl))) (List.mem_cons_of_mem _ (List.mem_append_left _ (List.mem_of_getElem? (i := 2) rfl))) (List.mem_cons_of_mem _ (List.mem_append_left _ (List.mem_of_getElem? (i := 3) rfl))) (gi_sub (fun w h => (List.mem_cons_of_mem _ (List.mem_append_right _ (List.mem_append_right _ (List.mem_append_left _ h))))) zg_j151_X12_copies)) rfl rfl rfl (by decide +kernel) ⟨Nat.le_of_ble_eq_true rfl, Nat.le_of_ble_eq_true rfl⟩ 0 rfl rfl rfl rfl (Nat.le_of_ble_eq_true rfl) ⟨Nat.le_of_ble_eq_true rfl, Nat.le_of_ble_eq_true rfl⟩ dX12_fillsFar_1 (fun v ty' w' hp hk' => ?_)
  obtain ⟨I21076, A21076, L21076, hI21076, hA21076, hV21076, r21077, r21078, rfl, rfl⟩ := hp
  have f21079 := IvM_s17_0 hIv
  have f21080 := IvM_s17_164 hIv
  show GW κ 3 0 0 (wM r g I21076 A21076 L21076) 4 [(0, .ref (r 0)), (1, .int z1)] []
  refine g_iconst (v := 0) hk dX12_fillsFar_4 (by decide) ?_
  refine g_istore_n (lv' := [(2, .int 0), (0, .ref (r 0)), (1, .int z1)]) hk dX12_fillsFar_5 (by decide) rfl ?_
  have lp21165 : ∀ (n21166 : Nat) (x21081 : Int32) (I21084 : Nat → Int32) (A21084 : Nat → Nat → Int32) (L21084 : Nat → Nat → Int64), (Md [18, 19, 20] I21076 I21084) → (Md [19, 20, 21, 24] A21076 A21084) → (IvM I21084 A21084) → (0 ≤ x21081.toInt) → (x21081.toInt ≤ 160) → (161 - x21081.toInt < (n21166 : Int)) → (0 < n21166) → GW κ 3 0 0 (wM r g I21084 A21084 L21084) 6 [(2, .int x21081), (0, .ref (r 0)), (1, .int z1)] [] := by
    intro n21166
    induction n21166 with
    | zero =>
      intro x21081 I21084 A21084 L21084 hI21084 hA21084 hV21084 h21163 h21164 m21167 m21167z
      exact absurd m21167z (Nat.lt_irrefl 0)
    | succ n21166 ih21168 =>
      intro x21081 I21084 A21084 L21084 hI21084 hA21084 hV21084 h21163 h21164 m21167 m21167z
      refine g_iload_n hk dX12_fillsFar_6 rfl ?_
      refine g_sipush (v := 160) hk dX12_fillsFar_7 (by decide) ?_
      refine g_icmp_ge (tgt := 44) (a := x21081.toInt) (b := 160) hk dX12_fillsFar_10 (by decide) rfl rfl (fun c21169 => ?_) (fun c21169 => ?_)
      · skip
        exact g_vret hk hR ⟨I21084, A21084, L21084, (show Md [18, 19, 20] I I21084 from (Md.tr (Md.tr Md.rf hI21076 rfl) hI21084 rfl)), (show Md [18, 19, 20, 21, 24] A A21084 from (Md.tr (Md.tr Md.rf hA21076 rfl) hA21084 rfl)), hV21084, (by rw [show (A21084 18 164) = (A21076 18 164) from (congrFun (hA21084 18 rfl) _)] <;> omega), rfl, rfl⟩ dX12_fillsFar_44
      · skip
        refine g_aload_n hk dX12_fillsFar_13 rfl ?_
        refine gM_r0_48 hk hin12 (List.mem_cons_of_mem _ (List.mem_append_left _ (List.mem_of_getElem? (i := 4) rfl))) dX12_fillsFar_14 ?_
        refine g_iload_n hk dX12_fillsFar_17 rfl ?_
        refine g_aload_n hk dX12_fillsFar_18 rfl ?_
        refine g_iload_n hk dX12_fillsFar_19 rfl ?_
        refine g_iload_n hk dX12_fillsFar_20 rfl ?_
        refine g_callV (n := 2) hk (j168_X12_isOf l D zt r g I21084 A21084 L21084 z1 x21081 hV21084) (SP.same _) (fun _ h => h) (gi_V (List.mem_cons_of_mem _ (List.mem_append_left _ (List.mem_of_getElem? (i := 5) rfl))) (List.mem_cons_of_mem _ (List.mem_append_left _ (List.mem_of_getElem? (i := 6) rfl))) (List.mem_cons_of_mem _ (List.mem_append_left _ (List.mem_of_getElem? (i := 7) rfl))) (List.mem_cons_of_mem _ (List.mem_append_left _ (List.mem_of_getElem? (i := 3) rfl))) (gi_sub (fun w h => (List.mem_cons_of_mem _ (List.mem_append_right _ (List.mem_append_right _ (List.mem_append_right _ (List.mem_append_left _ h)))))) zg_j168_X12_isOf)) rfl rfl rfl (by decide +kernel) ⟨Nat.le_of_ble_eq_true rfl, Nat.le_of_ble_eq_true rfl⟩ 0 rfl rfl rfl rfl (Nat.le_of_ble_eq_true rfl) ⟨Nat.le_of_ble_eq_true rfl, Nat.le_of_ble_eq_true rfl⟩ dX12_fillsFar_21 (fun v ty' w' hp hk' => ?_)
        rcases hp with ⟨rfl, rfl⟩ | ⟨c21171, c21172, c21173, c21174, c21175, c21176, c21177, c21178, c21179, rfl, rfl⟩
        · skip
          show GW κ 3 0 0 (wM r g I21084 A21084 L21084) 24 [(2, .int x21081), (0, .ref (r 0)), (1, .int z1)] [.int 0, .int x21081, .ref (r 25)]
          refine g_if_eq (tgt := 36) (a := 0) hk dX12_fillsFar_24 (by decide) rfl (fun _ => ?_) (fun z9 => absurd (show (0 : Int) = (0 : Int) from by decide) z9)
          refine g_iconst (v := (-1)) hk dX12_fillsFar_36 (by decide) ?_
          have k21181 : ((-1) : Int32).toInt = (-1) := rfl
          refine sM_24 (j := x21081.toNatClampNeg) hk (vp_in_iff.mpr ⟨by omega, by omega⟩) rfl dX12_fillsFar_37 ?_
          obtain ⟨y21182, ey21182⟩ : ∃ y : Int32, y = x21081 + Int32.ofInt 1 := ⟨_, rfl⟩
          have hy21182 : y21182.toInt = x21081.toInt + 1 := i32_add ey21182 rfl (by decide) (by omega) (by omega)
          refine g_iinc (v := y21182) (lv' := [(2, .int y21182), (0, .ref (r 0)), (1, .int z1)]) hk 0 dX12_fillsFar_38 rfl ey21182.symm (by decide) rfl ?_
          refine g_goto (tgt := 6) hk dX12_fillsFar_41 (by decide) ?_
          exact g_lv (List.forall_mem_cons.mpr ⟨List.mem_of_getElem? (i := 0) rfl, (List.forall_mem_cons.mpr ⟨List.mem_of_getElem? (i := 1) rfl, (List.forall_mem_cons.mpr ⟨List.mem_of_getElem? (i := 2) rfl, (fun _ h => absurd h List.not_mem_nil)⟩)⟩)⟩) (ih21168 y21182 I21084 (up3 A21084 24 (x21081.toNatClampNeg) (-1)) L21084 (show Md [18, 19, 20] I21076 I21084 from Md.tr hI21084 (show Md [18, 19, 20] I21084 I21084 from Md.rf) rfl) (show Md [19, 20, 21, 24] A21076 (up3 A21084 24 (x21081.toNatClampNeg) (-1)) from Md.tr hA21084 (show Md [19, 20, 21, 24] A21084 (up3 A21084 24 (x21081.toNatClampNeg) (-1)) from (Md.up3 Md.rf rfl)) rfl) ⟨(IvM_f1 (I := I21084) (A := A21084) hV21084), (IvM_f2 (I := I21084) (A := A21084) hV21084), (IvM_f3 (I := I21084) (A := A21084) hV21084), (IvM_f4 (I := I21084) (A := A21084) hV21084), (IvM_f6 (I := I21084) (A := A21084) hV21084), (IvM_f8 (I := I21084) (A := A21084) hV21084), (IvM_f15 (I := I21084) (A := A21084) hV21084), (IvM_f16 (I := I21084) (A := A21084) hV21084), (IvM_f17 (I := I21084) (A := A21084) hV21084), (IvM_f18 (I := I21084) (A := A21084) hV21084), (IvM_f22 (I := I21084) (A := A21084) hV21084), (IvM_f23 (I := I21084) (A := A21084) hV21084), (IvM_f24 (I := I21084) (A := A21084) hV21084), (IvM_a11 (I := I21084) (A := A21084) hV21084), (IvM_a26 (I := I21084) (A := A21084) hV21084), (IvM_s8_0 (I := I21084) (A := A21084) hV21084), (IvM_s8_1 (I := I21084) (A := A21084) hV21084), (IvM_s10_0 (I := I21084) (A := A21084) hV21084), (IvM_s10_1 (I := I21084) (A := A21084) hV21084), (IvM_s17_0 (I := I21084) (A := A21084) hV21084), (IvM_s17_164 (I := I21084) (A := A21084) hV21084), (IvM_lv (I := I21084) (A := A21084) hV21084), (IvM_sd (I := I21084) (A := A21084) hV21084), (IvM_nq (I := I21084) (A := A21084) hV21084), (IvM_hr (I := I21084) (A := A21084) hV21084), (IvM_hh (I := I21084) (A := A21084) hV21084), trivial⟩ (by omega) (by omega) (by omega) (by omega))
        · skip
          have f21183 : 0 ≤ (A 11 (5 * (I 15) + z1).toNatClampNeg).toInt ∧ (A 11 (5 * (I 15) + z1).toNatClampNeg).toInt ≤ 16 := IvM_a11 hIv _
          rw [show (A21084 11 (5 * (I21084 15) + z1).toNatClampNeg) = (A 11 (5 * (I 15) + z1).toNatClampNeg) from (by rw [show I21084 15 = (I 15) from ((hI21084 15 rfl).trans (hI21076 15 rfl))]; exact ((congrFun (hA21084 11 rfl) _).trans (congrFun (hA21076 11 rfl) _)))] at c21178
          rw [show (A21084 11 (5 * (I21084 15) + z1).toNatClampNeg) = (A 11 (5 * (I 15) + z1).toNatClampNeg) from (by rw [show I21084 15 = (I 15) from ((hI21084 15 rfl).trans (hI21076 15 rfl))]; exact ((congrFun (hA21084 11 rfl) _).trans (congrFun (hA21076 11 rfl) _)))] at c21179
          show GW κ 3 0 0 (wM r g I21084 A21084 L21084) 24 [(2, .int x21081), (0, .ref (r 0)), (1, .int z1)] [.int 1, .int x21081, .ref (r 25)]
          refine g_if_eq (tgt := 36) (a := 1) hk dX12_fillsFar_24 (by decide) rfl (fun z9 => absurd z9 (show ¬ ((1 : Int) = (0 : Int)) from by decide)) (fun _ => ?_)
          refine g_aload_n hk dX12_fillsFar_27 rfl ?_
          refine g_iload_n hk dX12_fillsFar_28 rfl ?_
          refine g_iload_n hk dX12_fillsFar_29 rfl ?_
          refine g_callV (n := 2) hk (j169_X12_distanceOf l D zt r g I21084 A21084 L21084 z1 x21081 hV21084 (by omega) (by omega) (by omega) (by omega) (by first | (rw [show (A21084 11 (5 * (I21084 15) + z1).toNatClampNeg) = (A 11 (5 * (I 15) + z1).toNatClampNeg) from (by rw [show I21084 15 = (I 15) from ((hI21084 15 rfl).trans (hI21076 15 rfl))]; exact ((congrFun (hA21084 11 rfl) _).trans (congrFun (hA21076 11 rfl) _)))] <;> omega) | omega) (by first | (rw [show (A21084 11 (5 * (I21084 15) + z1).toNatClampNeg) = (A 11 (5 * (I 15) + z1).toNatClampNeg) from (by rw [show I21084 15 = (I 15) from ((hI21084 15 rfl).trans (hI21076 15 rfl))]; exact ((congrFun (hA21084 11 rfl) _).trans (congrFun (hA21076 11 rfl) _)))] <;> omega) | omega)) (SP.same _) (fun _ h => h) (gi_V (List.mem_cons_of_mem _ (List.mem_append_left _ (List.mem_of_getElem? (i := 8) rfl))) (List.mem_cons_of_mem _ (List.mem_append_left _ (List.mem_of_getElem? (i := 9) rfl))) (List.mem_cons_of_mem _ (List.mem_append_left _ (List.mem_of_getElem? (i := 10) rfl))) (List.mem_cons_of_mem _ (List.mem_append_left _ (List.mem_of_getElem? (i := 3) rfl))) (gi_sub (fun w h => (List.mem_cons_of_mem _ (List.mem_append_right _ (List.mem_append_right _ (List.mem_append_right _ (List.mem_append_right _ (List.mem_append_left _ h))))))) zg_j169_X12_distanceOf)) rfl rfl rfl (by decide +kernel) ⟨Nat.le_of_ble_eq_true rfl, Nat.le_of_ble_eq_true rfl⟩ 0 rfl rfl rfl rfl (Nat.le_of_ble_eq_true rfl) ⟨Nat.le_of_ble_eq_true rfl, Nat.le_of_ble_eq_true rfl⟩ dX12_fillsFar_30 (fun v ty' w' hp hk' => ?_)
          obtain ⟨I21185, A21185, L21185, hI21185, hA21185, hV21185, y21184, r21186, rfl, rfl⟩ := hp
          have f21187 := IvM_f18 hV21185
          show GW κ 3 0 0 (wM r g I21185 A21185 L21185) 33 [(2, .int x21081), (0, .ref (r 0)), (1, .int z1)] [.int y21184, .int x21081, .ref (r 25)]
          refine g_goto (tgt := 37) hk dX12_fillsFar_33 (by decide) ?_
          refine sM_24 (j := x21081.toNatClampNeg) hk (vp_in_iff.mpr ⟨by omega, by omega⟩) rfl dX12_fillsFar_37 ?_
          obtain ⟨y21188, ey21188⟩ : ∃ y : Int32, y = x21081 + Int32.ofInt 1 := ⟨_, rfl⟩
          have hy21188 : y21188.toInt = x21081.toInt + 1 := i32_add ey21188 rfl (by decide) (by omega) (by omega)
          refine g_iinc (v := y21188) (lv' := [(2, .int y21188), (0, .ref (r 0)), (1, .int z1)]) hk 0 dX12_fillsFar_38 rfl ey21188.symm (by decide) rfl ?_
          refine g_goto (tgt := 6) hk dX12_fillsFar_41 (by decide) ?_
          exact g_lv (List.forall_mem_cons.mpr ⟨List.mem_of_getElem? (i := 0) rfl, (List.forall_mem_cons.mpr ⟨List.mem_of_getElem? (i := 1) rfl, (List.forall_mem_cons.mpr ⟨List.mem_of_getElem? (i := 2) rfl, (fun _ h => absurd h List.not_mem_nil)⟩)⟩)⟩) (ih21168 y21188 I21185 (up3 A21185 24 (x21081.toNatClampNeg) y21184) L21185 (show Md [18, 19, 20] I21076 I21185 from Md.tr hI21084 (show Md [18, 19, 20] I21084 I21185 from (Md.tr Md.rf hI21185 rfl)) rfl) (show Md [19, 20, 21, 24] A21076 (up3 A21185 24 (x21081.toNatClampNeg) y21184) from Md.tr hA21084 (show Md [19, 20, 21, 24] A21084 (up3 A21185 24 (x21081.toNatClampNeg) y21184) from (Md.up3 (Md.tr Md.rf hA21185 rfl) rfl)) rfl) ⟨(IvM_f1 (I := I21185) (A := A21185) hV21185), (IvM_f2 (I := I21185) (A := A21185) hV21185), (IvM_f3 (I := I21185) (A := A21185) hV21185), (IvM_f4 (I := I21185) (A := A21185) hV21185), (IvM_f6 (I := I21185) (A := A21185) hV21185), (IvM_f8 (I := I21185) (A := A21185) hV21185), (IvM_f15 (I := I21185) (A := A21185) hV21185), (IvM_f16 (I := I21185) (A := A21185) hV21185), (IvM_f17 (I := I21185) (A := A21185) hV21185), (IvM_f18 (I := I21185) (A := A21185) hV21185), (IvM_f22 (I := I21185) (A := A21185) hV21185), (IvM_f23 (I := I21185) (A := A21185) hV21185), (IvM_f24 (I := I21185) (A := A21185) hV21185), (IvM_a11 (I := I21185) (A := A21185) hV21185), (IvM_a26 (I := I21185) (A := A21185) hV21185), (IvM_s8_0 (I := I21185) (A := A21185) hV21185), (IvM_s8_1 (I := I21185) (A := A21185) hV21185), (IvM_s10_0 (I := I21185) (A := A21185) hV21185), (IvM_s10_1 (I := I21185) (A := A21185) hV21185), (IvM_s17_0 (I := I21185) (A := A21185) hV21185), (IvM_s17_164 (I := I21185) (A := A21185) hV21185), (IvM_lv (I := I21185) (A := A21185) hV21185), (IvM_sd (I := I21185) (A := A21185) hV21185), (IvM_nq (I := I21185) (A := A21185) hV21185), (IvM_hr (I := I21185) (A := A21185) hV21185), (IvM_hh (I := I21185) (A := A21185) hV21185), trivial⟩ (by omega) (by omega) (by omega) (by omega))
  have k21189 : (0 : Int32).toInt = 0 := rfl
  obtain ⟨n21190, n21190a, n21190b⟩ : ∃ n : Nat, 161 - (0 : Int32).toInt < (n : Int) ∧ 0 < n := ⟨((161 - (0 : Int32).toInt : Int)).toNat + 1, by omega, by omega⟩
  exact lp21165 n21190 0 I21076 A21076 L21076 Md.rf Md.rf hV21076 (by omega) (by omega) n21190a n21190b
def wo_j187_X12_bestWindow : List Cond := [Cond.fieldLink RX12 91 "WarpDeskModel" "farBy" "[I"]
def wz_j187_X12_bestWindow : List Cond := .code yX12_bestWindow cX12_bestWindow 3 (some .int) :: (wo_j187_X12_bestWindow ++ (wsX120 ++ ([] : List Cond)))
theorem zg_j187_X12_bestWindow : ∀ w ∈ wz_j187_X12_bestWindow, goodWord w = true := zg_cons rfl (zg_app (by decide +kernel) (zg_app zgU_wsX120 zg_nil))
theorem zi_j187_X12_bestWindow : ∀ w ∈ wz_j187_X12_bestWindow, w ∈ lw_tbl := zi_cons zw_1851 (zi_app (zi_cons zw_1426 zi_nil) (zi_app inX12 zi_nil))
set_option maxHeartbeats 4000000 in
set_option maxRecDepth 100000 in
theorem j187_X12_bestWindow (l : Launch) (D : va_G) (zt : Nat × Nat × Nat × (Nat → Nat) × (Nat → Nat)) (r : Nat → Nat) (g : Nat → ClassId) (I : Nat → Int32) (A : Nat → Nat → Int32) (L : Nat → Nat → Int64) (hIv : IvM I A) : GM l D zt (tyM g) yX12_bestWindow wz_j187_X12_bestWindow ({ frames := 0, cells := 0, slots := 0, locals := 0 } : Room) [.ref (r 0)] (wM r g I A L) (fun v _ w' => ∃ y0 : Int32, ((-2) ≤ y0.toInt) ∧ (y0.toInt ≤ 159) ∧ v = some (.int y0) ∧ w' = wM r g I A L) 0 0 := by
  refine GM.of (cc := cX12_bestWindow) (maxL := 3) (ret := (some .int)) (own := RX12) (lv := [(0, .ref (r 0))]) (by decide) rfl rfl (Nat.le_of_ble_eq_true rfl) rfl (fun κ sz hk hR hN => ?_)
  have hin12 : ∀ w ∈ u_ws RX12 TX12 55, w ∈ wz_j187_X12_bestWindow := fun w h => (List.mem_cons_of_mem _ (List.mem_append_right _ (List.mem_append_left _ h)))
  refine g_bipush (v := (-2)) hk dX12_bestWindow_0 (by decide) ?_
  refine g_istore_n (lv' := [(1, .int (-2)), (0, .ref (r 0))]) hk dX12_bestWindow_2 (by decide) rfl ?_
  refine g_iconst (v := 0) hk dX12_bestWindow_3 (by decide) ?_
  refine g_istore_n (lv' := [(2, .int 0), (1, .int (-2)), (0, .ref (r 0))]) hk dX12_bestWindow_4 (by decide) rfl ?_
  have lp21245 : ∀ (n21246 : Nat) (x21194 : Int32) (x21195 : Int32), (0 ≤ x21194.toInt) → (x21194.toInt ≤ 160) → ((-2) ≤ x21195.toInt) → (x21195.toInt ≤ 159) → (161 - x21194.toInt < (n21246 : Int)) → (0 < n21246) → GW κ 3 0 0 (wM r g I A L) 5 [(2, .int x21194), (1, .int x21195), (0, .ref (r 0))] [] := by
    intro n21246
    induction n21246 with
    | zero =>
      intro x21194 x21195 h21241 h21242 h21243 h21244 m21247 m21247z
      exact absurd m21247z (Nat.lt_irrefl 0)
    | succ n21246 ih21248 =>
      intro x21194 x21195 h21241 h21242 h21243 h21244 m21247 m21247z
      refine g_iload_n hk dX12_bestWindow_5 rfl ?_
      refine g_sipush (v := 160) hk dX12_bestWindow_6 (by decide) ?_
      refine g_icmp_ge (tgt := 48) (a := x21194.toInt) (b := 160) hk dX12_bestWindow_9 (by decide) rfl rfl (fun c21249 => ?_) (fun c21249 => ?_)
      · skip
        refine g_iload_n hk dX12_bestWindow_48 rfl ?_
        exact g_iret hk hR rfl ⟨x21195, (by omega), (by omega), rfl, rfl⟩ dX12_bestWindow_49
      · skip
        refine g_aload_n hk dX12_bestWindow_12 rfl ?_
        refine gM_r0_48 hk hin12 (List.mem_cons_of_mem _ (List.mem_append_left _ (List.mem_of_getElem? (i := 0) rfl))) dX12_bestWindow_13 ?_
        refine g_iload_n hk dX12_bestWindow_16 rfl ?_
        refine lM_24 (v := (A 24 x21194.toNatClampNeg)) hk (vp_in_iff.mpr ⟨by omega, by omega⟩) rfl dX12_bestWindow_17 ?_
        have b21250l := Int32.le_toInt (A 24 x21194.toNatClampNeg)
        have b21250h := Int32.toInt_lt (A 24 x21194.toNatClampNeg)
        refine g_if_lt (tgt := 42) (a := (A 24 x21194.toNatClampNeg).toInt) hk dX12_bestWindow_18 (by decide) rfl (fun c21251 => ?_) (fun c21251 => ?_)
        · skip
          obtain ⟨y21252, ey21252⟩ : ∃ y : Int32, y = x21194 + Int32.ofInt 1 := ⟨_, rfl⟩
          have hy21252 : y21252.toInt = x21194.toInt + 1 := i32_add ey21252 rfl (by decide) (by omega) (by omega)
          refine g_iinc (v := y21252) (lv' := [(2, .int y21252), (1, .int x21195), (0, .ref (r 0))]) hk 0 dX12_bestWindow_42 rfl ey21252.symm (by decide) rfl ?_
          refine g_goto (tgt := 5) hk dX12_bestWindow_45 (by decide) ?_
          exact g_lv (List.forall_mem_cons.mpr ⟨List.mem_of_getElem? (i := 0) rfl, (List.forall_mem_cons.mpr ⟨List.mem_of_getElem? (i := 1) rfl, (List.forall_mem_cons.mpr ⟨List.mem_of_getElem? (i := 2) rfl, (fun _ h => absurd h List.not_mem_nil)⟩)⟩)⟩) (ih21248 y21252 x21195 (by omega) (by omega) (by omega) (by omega) (by omega) (by omega))
        · skip
          refine g_iload_n hk dX12_bestWindow_21 rfl ?_
          refine g_if_lt (tgt := 40) (a := x21195.toInt) hk dX12_bestWindow_22 (by decide) rfl (fun c21253 => ?_) (fun c21253 => ?_)
          · skip
            refine g_iload_n hk dX12_bestWindow_40 rfl ?_
            refine g_istore_n (lv' := [(1, .int x21194), (2, .int x21194), (0, .ref (r 0))]) hk dX12_bestWindow_41 (by decide) rfl ?_
            obtain ⟨y21254, ey21254⟩ : ∃ y : Int32, y = x21194 + Int32.ofInt 1 := ⟨_, rfl⟩
            have hy21254 : y21254.toInt = x21194.toInt + 1 := i32_add ey21254 rfl (by decide) (by omega) (by omega)
            refine g_iinc (v := y21254) (lv' := [(2, .int y21254), (1, .int x21194), (0, .ref (r 0))]) hk 1 dX12_bestWindow_42 rfl ey21254.symm (by decide) rfl ?_
            refine g_goto (tgt := 5) hk dX12_bestWindow_45 (by decide) ?_
            exact g_lv (List.forall_mem_cons.mpr ⟨List.mem_of_getElem? (i := 0) rfl, (List.forall_mem_cons.mpr ⟨List.mem_of_getElem? (i := 1) rfl, (List.forall_mem_cons.mpr ⟨List.mem_of_getElem? (i := 2) rfl, (fun _ h => absurd h List.not_mem_nil)⟩)⟩)⟩) (ih21248 y21254 x21194 (by omega) (by omega) (by omega) (by omega) (by omega) (by omega))
          · skip
            refine g_aload_n hk dX12_bestWindow_25 rfl ?_
            refine gM_r0_48 hk hin12 (List.mem_cons_of_mem _ (List.mem_append_left _ (List.mem_of_getElem? (i := 0) rfl))) dX12_bestWindow_26 ?_
            refine g_iload_n hk dX12_bestWindow_29 rfl ?_
            refine lM_24 (v := (A 24 x21194.toNatClampNeg)) hk (vp_in_iff.mpr ⟨by omega, by omega⟩) rfl dX12_bestWindow_30 ?_
            refine g_aload_n hk dX12_bestWindow_31 rfl ?_
            refine gM_r0_48 hk hin12 (List.mem_cons_of_mem _ (List.mem_append_left _ (List.mem_of_getElem? (i := 0) rfl))) dX12_bestWindow_32 ?_
            refine g_iload_n hk dX12_bestWindow_35 rfl ?_
            refine lM_24 (v := (A 24 x21195.toNatClampNeg)) hk (vp_in_iff.mpr ⟨by omega, by omega⟩) rfl dX12_bestWindow_36 ?_
            have b21255l := Int32.le_toInt (A 24 x21195.toNatClampNeg)
            have b21255h := Int32.toInt_lt (A 24 x21195.toNatClampNeg)
            refine g_icmp_ge (tgt := 42) (a := (A 24 x21194.toNatClampNeg).toInt) (b := (A 24 x21195.toNatClampNeg).toInt) hk dX12_bestWindow_37 (by decide) rfl rfl (fun c21256 => ?_) (fun c21256 => ?_)
            · skip
              obtain ⟨y21257, ey21257⟩ : ∃ y : Int32, y = x21194 + Int32.ofInt 1 := ⟨_, rfl⟩
              have hy21257 : y21257.toInt = x21194.toInt + 1 := i32_add ey21257 rfl (by decide) (by omega) (by omega)
              refine g_iinc (v := y21257) (lv' := [(2, .int y21257), (1, .int x21195), (0, .ref (r 0))]) hk 0 dX12_bestWindow_42 rfl ey21257.symm (by decide) rfl ?_
              refine g_goto (tgt := 5) hk dX12_bestWindow_45 (by decide) ?_
              exact g_lv (List.forall_mem_cons.mpr ⟨List.mem_of_getElem? (i := 0) rfl, (List.forall_mem_cons.mpr ⟨List.mem_of_getElem? (i := 1) rfl, (List.forall_mem_cons.mpr ⟨List.mem_of_getElem? (i := 2) rfl, (fun _ h => absurd h List.not_mem_nil)⟩)⟩)⟩) (ih21248 y21257 x21195 (by omega) (by omega) (by omega) (by omega) (by omega) (by omega))
            · skip
              refine g_iload_n hk dX12_bestWindow_40 rfl ?_
              refine g_istore_n (lv' := [(1, .int x21194), (2, .int x21194), (0, .ref (r 0))]) hk dX12_bestWindow_41 (by decide) rfl ?_
              obtain ⟨y21258, ey21258⟩ : ∃ y : Int32, y = x21194 + Int32.ofInt 1 := ⟨_, rfl⟩
              have hy21258 : y21258.toInt = x21194.toInt + 1 := i32_add ey21258 rfl (by decide) (by omega) (by omega)
              refine g_iinc (v := y21258) (lv' := [(2, .int y21258), (1, .int x21194), (0, .ref (r 0))]) hk 1 dX12_bestWindow_42 rfl ey21258.symm (by decide) rfl ?_
              refine g_goto (tgt := 5) hk dX12_bestWindow_45 (by decide) ?_
              exact g_lv (List.forall_mem_cons.mpr ⟨List.mem_of_getElem? (i := 0) rfl, (List.forall_mem_cons.mpr ⟨List.mem_of_getElem? (i := 1) rfl, (List.forall_mem_cons.mpr ⟨List.mem_of_getElem? (i := 2) rfl, (fun _ h => absurd h List.not_mem_nil)⟩)⟩)⟩) (ih21248 y21258 x21194 (by omega) (by omega) (by omega) (by omega) (by omega) (by omega))
  have k21259 : (0 : Int32).toInt = 0 := rfl
  have k21260 : ((-2) : Int32).toInt = (-2) := rfl
  obtain ⟨n21261, n21261a, n21261b⟩ : ∃ n : Nat, 161 - (0 : Int32).toInt < (n : Int) ∧ 0 < n := ⟨((161 - (0 : Int32).toInt : Int)).toNat + 1, by omega, by omega⟩
  exact lp21245 n21261 0 (-2) (by omega) (by omega) (by omega) (by omega) n21261a n21261b
def wo_j185_X12_best : List Cond := [Cond.methodLink RX12 251 yX12_isQuery, Cond.instanceMethod yX12_isQuery, Cond.selects RX12 yX12_isQuery yX12_isQuery, Cond.initialized RX12, Cond.methodLink RX12 244 yX12_in, Cond.static yX12_in, Cond.methodLink RX12 357 yX12_fillsFar, Cond.instanceMethod yX12_fillsFar, Cond.selects RX12 yX12_fillsFar yX12_fillsFar, Cond.methodLink RX12 360 yX12_bestWindow, Cond.instanceMethod yX12_bestWindow, Cond.selects RX12 yX12_bestWindow yX12_bestWindow, Cond.fieldLink RX12 91 "WarpDeskModel" "farBy" "[I"]
def wz_j185_X12_best : List Cond := .code yX12_best cX12_best 4 (some .int) :: (wo_j185_X12_best ++ (wsX120 ++ (wz_j147_X12_isQuery ++ (wz_j145_X12_in ++ (wz_j186_X12_fillsFar ++ (wz_j187_X12_bestWindow ++ ([] : List Cond)))))))
theorem zg_j185_X12_best : ∀ w ∈ wz_j185_X12_best, goodWord w = true := zg_cons rfl (zg_app (by decide +kernel) (zg_app zgU_wsX120 (zg_app zg_j147_X12_isQuery (zg_app zg_j145_X12_in (zg_app zg_j186_X12_fillsFar (zg_app zg_j187_X12_bestWindow zg_nil))))))
theorem zi_j185_X12_best : ∀ w ∈ wz_j185_X12_best, w ∈ lw_tbl := zi_cons zw_1843 (zi_app (zi_cons zw_1663 (zi_cons zw_1665 (zi_cons zw_67 (zi_cons zw_115 (zi_cons zw_1656 (zi_cons zw_1657 (zi_cons zw_1844 (zi_cons zw_1846 (zi_cons zw_93 (zi_cons zw_1848 (zi_cons zw_1850 (zi_cons zw_94 (zi_cons zw_1426 zi_nil))))))))))))) (zi_app inX12 (zi_app zi_j147_X12_isQuery (zi_app zi_j145_X12_in (zi_app zi_j186_X12_fillsFar (zi_app zi_j187_X12_bestWindow zi_nil))))))
set_option maxHeartbeats 4000000 in
set_option maxRecDepth 100000 in
theorem j185_X12_best (l : Launch) (D : va_G) (zt : Nat × Nat × Nat × (Nat → Nat) × (Nat → Nat)) (r : Nat → Nat) (g : Nat → ClassId) (I : Nat → Int32) (A : Nat → Nat → Int32) (L : Nat → Nat → Int64) (z1 : Int32) (z2 : Int32) (hIv : IvM I A) : GM l D zt (tyM g) yX12_best wz_j185_X12_best ({ frames := 7, cells := 0, slots := 0, locals := 156 } : Room) [.ref (r 0), .int z1, .int z2] (wM r g I A L) (fun v _ w' => ∃ (I' : Nat → Int32) (A' : Nat → Nat → Int32) (L' : Nat → Nat → Int64), Md [18, 19, 20] I I' ∧ Md [18, 19, 20, 21, 24] A A' ∧ IvM I' A' ∧ ∃ y0 : Int32, v = some (.int y0) ∧ w' = wM r g I' A' L') 0 0 := by
  refine GM.of (cc := cX12_best) (maxL := 4) (ret := (some .int)) (own := RX12) (lv := [(0, .ref (r 0)), (1, .int z1), (2, .int z2)]) (by decide) rfl rfl (Nat.le_of_ble_eq_true rfl) rfl (fun κ sz hk hR hN => ?_)
  have hin12 : ∀ w ∈ u_ws RX12 TX12 55, w ∈ wz_j185_X12_best := fun w h => (List.mem_cons_of_mem _ (List.mem_append_right _ (List.mem_append_left _ h)))
  refine g_aload_n hk dX12_best_0 rfl ?_
  refine g_iload_n hk dX12_best_1 rfl ?_
  refine g_callV (n := 1) hk (j147_X12_isQuery l D zt r g I A L z1 hIv) (SP.same _) (fun _ h => h) (gi_V (List.mem_cons_of_mem _ (List.mem_append_left _ (List.mem_of_getElem? (i := 0) rfl))) (List.mem_cons_of_mem _ (List.mem_append_left _ (List.mem_of_getElem? (i := 1) rfl))) (List.mem_cons_of_mem _ (List.mem_append_left _ (List.mem_of_getElem? (i := 2) rfl))) (List.mem_cons_of_mem _ (List.mem_append_left _ (List.mem_of_getElem? (i := 3) rfl))) (gi_sub (fun w h => (List.mem_cons_of_mem _ (List.mem_append_right _ (List.mem_append_right _ (List.mem_append_left _ h))))) zg_j147_X12_isQuery)) rfl rfl rfl (by decide +kernel) ⟨Nat.le_of_ble_eq_true rfl, Nat.le_of_ble_eq_true rfl⟩ 0 rfl rfl rfl rfl (Nat.le_of_ble_eq_true rfl) ⟨Nat.le_of_ble_eq_true rfl, Nat.le_of_ble_eq_true rfl⟩ dX12_best_2 (fun v ty' w' hp hk' => ?_)
  rcases hp with ⟨rfl, rfl⟩ | ⟨c21061, c21062, c21063, c21064, rfl, rfl⟩
  · skip
    show GW κ 4 0 0 (wM r g I A L) 5 [(0, .ref (r 0)), (1, .int z1), (2, .int z2)] [.int 0]
    refine g_if_eq (tgt := 17) (a := 0) hk dX12_best_5 (by decide) rfl (fun _ => ?_) (fun z9 => absurd (show (0 : Int) = (0 : Int) from by decide) z9)
    refine g_iconst (v := (-1)) hk dX12_best_17 (by decide) ?_
    exact g_iret hk hR rfl ⟨I, A, L, (show Md [18, 19, 20] I I from Md.rf), (show Md [18, 19, 20, 21, 24] A A from Md.rf), hIv, (-1), rfl, rfl⟩ dX12_best_18
  · skip
    have f21066 : 0 ≤ (A 11 (5 * (I 15) + z1).toNatClampNeg).toInt ∧ (A 11 (5 * (I 15) + z1).toNatClampNeg).toInt ≤ 16 := IvM_a11 hIv _
    show GW κ 4 0 0 (wM r g I A L) 5 [(0, .ref (r 0)), (1, .int z1), (2, .int z2)] [.int 1]
    refine g_if_eq (tgt := 17) (a := 1) hk dX12_best_5 (by decide) rfl (fun z9 => absurd z9 (show ¬ ((1 : Int) = (0 : Int)) from by decide)) (fun _ => ?_)
    refine g_iload_n hk dX12_best_8 rfl ?_
    refine g_iconst (v := 0) hk dX12_best_9 (by decide) ?_
    refine g_iconst (v := 1) hk dX12_best_10 (by decide) ?_
    have k21067 : (0 : Int32).toInt = 0 := rfl
    have k21068 : (1 : Int32).toInt = 1 := rfl
    refine g_callS (n := 3) hk (j145_X12_in l D zt r g I A L z2 0 1 hIv) (SP.same _) (fun _ h => h) (gi_S (List.mem_cons_of_mem _ (List.mem_append_left _ (List.mem_of_getElem? (i := 4) rfl))) (List.mem_cons_of_mem _ (List.mem_append_left _ (List.mem_of_getElem? (i := 5) rfl))) (List.mem_cons_of_mem _ (List.mem_append_left _ (List.mem_of_getElem? (i := 3) rfl))) (gi_sub (fun w h => (List.mem_cons_of_mem _ (List.mem_append_right _ (List.mem_append_right _ (List.mem_append_right _ (List.mem_append_left _ h)))))) zg_j145_X12_in)) rfl rfl rfl (by decide +kernel) ⟨Nat.le_of_ble_eq_true rfl, Nat.le_of_ble_eq_true rfl⟩ rfl rfl (Nat.le_of_ble_eq_true rfl) ⟨Nat.le_of_ble_eq_true rfl, Nat.le_of_ble_eq_true rfl⟩ dX12_best_11 (fun v ty' w' hp hk' => ?_)
    rcases hp with ⟨c21069, rfl, rfl⟩ | ⟨c21071, c21072, rfl, rfl⟩
    · skip
      have b21074l := Int32.le_toInt z2
      have b21074h := Int32.toInt_lt z2
      show GW κ 4 0 0 (wM r g I A L) 14 [(0, .ref (r 0)), (1, .int z1), (2, .int z2)] [.int 0]
      refine g_if_ne (tgt := 19) (a := 0) hk dX12_best_14 (by decide) rfl (fun z9 => absurd z9 (show ¬ ((0 : Int) ≠ (0 : Int)) from by decide)) (fun _ => ?_)
      refine g_iconst (v := (-1)) hk dX12_best_17 (by decide) ?_
      exact g_iret hk hR rfl ⟨I, A, L, (show Md [18, 19, 20] I I from Md.rf), (show Md [18, 19, 20, 21, 24] A A from Md.rf), hIv, (-1), rfl, rfl⟩ dX12_best_18
    · skip
      show GW κ 4 0 0 (wM r g I A L) 14 [(0, .ref (r 0)), (1, .int z1), (2, .int z2)] [.int 1]
      refine g_if_ne (tgt := 19) (a := 1) hk dX12_best_14 (by decide) rfl (fun _ => ?_) (fun z9 => absurd (show (1 : Int) ≠ (0 : Int) from by decide) z9)
      refine g_aload_n hk dX12_best_19 rfl ?_
      refine g_iload_n hk dX12_best_20 rfl ?_
      refine g_callV (n := 1) hk (j186_X12_fillsFar l D zt r g I A L z1 hIv (by omega) (by omega)) (SP.same _) (fun _ h => h) (gi_V (List.mem_cons_of_mem _ (List.mem_append_left _ (List.mem_of_getElem? (i := 6) rfl))) (List.mem_cons_of_mem _ (List.mem_append_left _ (List.mem_of_getElem? (i := 7) rfl))) (List.mem_cons_of_mem _ (List.mem_append_left _ (List.mem_of_getElem? (i := 8) rfl))) (List.mem_cons_of_mem _ (List.mem_append_left _ (List.mem_of_getElem? (i := 3) rfl))) (gi_sub (fun w h => (List.mem_cons_of_mem _ (List.mem_append_right _ (List.mem_append_right _ (List.mem_append_right _ (List.mem_append_right _ (List.mem_append_left _ h))))))) zg_j186_X12_fillsFar)) rfl rfl rfl (by decide +kernel) ⟨Nat.le_of_ble_eq_true rfl, Nat.le_of_ble_eq_true rfl⟩ 0 rfl rfl rfl rfl (Nat.le_of_ble_eq_true rfl) ⟨Nat.le_of_ble_eq_true rfl, Nat.le_of_ble_eq_true rfl⟩ dX12_best_21 (fun v ty' w' hp hk' => ?_)
      obtain ⟨I21192, A21192, L21192, hI21192, hA21192, hV21192, r21193, rfl, rfl⟩ := hp
      show GW κ 4 0 0 (wM r g I21192 A21192 L21192) 24 [(0, .ref (r 0)), (1, .int z1), (2, .int z2)] []
      refine g_aload_n hk dX12_best_24 rfl ?_
      refine g_callV (n := 0) hk (j187_X12_bestWindow l D zt r g I21192 A21192 L21192  hV21192) (SP.same _) (fun _ h => h) (gi_V (List.mem_cons_of_mem _ (List.mem_append_left _ (List.mem_of_getElem? (i := 9) rfl))) (List.mem_cons_of_mem _ (List.mem_append_left _ (List.mem_of_getElem? (i := 10) rfl))) (List.mem_cons_of_mem _ (List.mem_append_left _ (List.mem_of_getElem? (i := 11) rfl))) (List.mem_cons_of_mem _ (List.mem_append_left _ (List.mem_of_getElem? (i := 3) rfl))) (gi_sub (fun w h => (List.mem_cons_of_mem _ (List.mem_append_right _ (List.mem_append_right _ (List.mem_append_right _ (List.mem_append_right _ (List.mem_append_right _ (List.mem_append_left _ h)))))))) zg_j187_X12_bestWindow)) rfl rfl rfl (by decide +kernel) ⟨Nat.le_of_ble_eq_true rfl, Nat.le_of_ble_eq_true rfl⟩ 0 rfl rfl rfl rfl (Nat.le_of_ble_eq_true rfl) ⟨Nat.le_of_ble_eq_true rfl, Nat.le_of_ble_eq_true rfl⟩ dX12_best_25 (fun v ty' w' hp hk' => ?_)
      obtain ⟨y21262, c21263, c21264, rfl, rfl⟩ := hp
      show GW κ 4 0 0 (wM r g I21192 A21192 L21192) 28 [(0, .ref (r 0)), (1, .int z1), (2, .int z2)] [.int y21262]
      refine g_istore_n (lv' := [(3, .int y21262), (0, .ref (r 0)), (1, .int z1), (2, .int z2)]) hk dX12_best_28 (by decide) rfl ?_
      refine g_iload_n hk dX12_best_29 rfl ?_
      refine g_if_lt (tgt := 37) (a := y21262.toInt) hk dX12_best_30 (by decide) rfl (fun c21265 => ?_) (fun c21265 => ?_)
      · skip
        refine g_iload_n hk dX12_best_37 rfl ?_
        refine g_goto (tgt := 47) hk dX12_best_38 (by decide) ?_
        exact g_iret hk hR rfl ⟨I21192, A21192, L21192, (show Md [18, 19, 20] I I21192 from (Md.tr Md.rf hI21192 rfl)), (show Md [18, 19, 20, 21, 24] A A21192 from (Md.tr Md.rf hA21192 rfl)), hV21192, y21262, rfl, rfl⟩ dX12_best_47
      · skip
        refine g_iload_n hk dX12_best_33 rfl ?_
        refine g_if_ne (tgt := 41) (a := z2.toInt) hk dX12_best_34 (by decide) rfl (fun c21266 => ?_) (fun c21266 => ?_)
        · skip
          refine g_aload_n hk dX12_best_41 rfl ?_
          refine gM_r0_48 hk hin12 (List.mem_cons_of_mem _ (List.mem_append_left _ (List.mem_of_getElem? (i := 12) rfl))) dX12_best_42 ?_
          refine g_iload_n hk dX12_best_45 rfl ?_
          refine lM_24 (v := (A21192 24 y21262.toNatClampNeg)) hk (vp_in_iff.mpr ⟨by omega, by omega⟩) rfl dX12_best_46 ?_
          have b21267l := Int32.le_toInt (A21192 24 y21262.toNatClampNeg)
          have b21267h := Int32.toInt_lt (A21192 24 y21262.toNatClampNeg)
          exact g_iret hk hR rfl ⟨I21192, A21192, L21192, (show Md [18, 19, 20] I I21192 from (Md.tr Md.rf hI21192 rfl)), (show Md [18, 19, 20, 21, 24] A A21192 from (Md.tr Md.rf hA21192 rfl)), hV21192, (A21192 24 y21262.toNatClampNeg), rfl, rfl⟩ dX12_best_47
        · skip
          refine g_iload_n hk dX12_best_37 rfl ?_
          refine g_goto (tgt := 47) hk dX12_best_38 (by decide) ?_
          exact g_iret hk hR rfl ⟨I21192, A21192, L21192, (show Md [18, 19, 20] I I21192 from (Md.tr Md.rf hI21192 rfl)), (show Md [18, 19, 20, 21, 24] A A21192 from (Md.tr Md.rf hA21192 rfl)), hV21192, y21262, rfl, rfl⟩ dX12_best_47
def wo_j189_X12_fillsSearch : List Cond := [Cond.methodLink RX12 323 yX12_copies, Cond.instanceMethod yX12_copies, Cond.selects RX12 yX12_copies yX12_copies, Cond.initialized RX12, Cond.fieldLink RX12 94 "WarpDeskModel" "searchBy" "[I", Cond.constant RX12 282 (2000000000), Cond.methodLink RX12 342 yX12_isOf, Cond.instanceMethod yX12_isOf, Cond.selects RX12 yX12_isOf yX12_isOf, Cond.methodLink RX12 348 yX12_passes, Cond.instanceMethod yX12_passes, Cond.selects RX12 yX12_passes yX12_passes, Cond.fieldLink RX12 292 "WarpDeskModel" "laid" "I", Cond.fieldLink RX12 295 "WarpDeskModel" "brokeAt" "I", Cond.fieldLink RX12 311 "WarpDeskModel" "looksAt" "I"]
def wz_j189_X12_fillsSearch : List Cond := .code yX12_fillsSearch cX12_fillsSearch 5 none :: (wo_j189_X12_fillsSearch ++ (wsX120 ++ (wz_j151_X12_copies ++ (wz_j168_X12_isOf ++ (wz_j184_X12_passes ++ ([] : List Cond))))))
theorem zg_j189_X12_fillsSearch : ∀ w ∈ wz_j189_X12_fillsSearch, goodWord w = true := zg_cons rfl (zg_app (by decide +kernel) (zg_app zgU_wsX120 (zg_app zg_j151_X12_copies (zg_app zg_j168_X12_isOf (zg_app zg_j184_X12_passes zg_nil)))))
theorem zi_j189_X12_fillsSearch : ∀ w ∈ wz_j189_X12_fillsSearch, w ∈ lw_tbl := zi_cons zw_1863 (zi_app (zi_cons zw_1679 (zi_cons zw_1681 (zi_cons zw_70 (zi_cons zw_115 (zi_cons zw_1427 (zi_cons zw_1775 (zi_cons zw_1755 (zi_cons zw_1757 (zi_cons zw_78 (zi_cons zw_1820 (zi_cons zw_1822 (zi_cons zw_91 (zi_cons zw_1419 (zi_cons zw_1420 (zi_cons zw_1421 zi_nil))))))))))))))) (zi_app inX12 (zi_app zi_j151_X12_copies (zi_app zi_j168_X12_isOf (zi_app zi_j184_X12_passes zi_nil)))))
set_option maxHeartbeats 4000000 in
set_option maxRecDepth 100000 in
theorem j189_X12_fillsSearch (l : Launch) (D : va_G) (zt : Nat × Nat × Nat × (Nat → Nat) × (Nat → Nat)) (r : Nat → Nat) (g : Nat → ClassId) (I : Nat → Int32) (A : Nat → Nat → Int32) (L : Nat → Nat → Int64) (z1 : Int32) (hIv : IvM I A) (hp0 : 0 ≤ z1.toInt) (hp1 : z1.toInt ≤ 4) : GM l D zt (tyM g) yX12_fillsSearch wz_j189_X12_fillsSearch ({ frames := 6, cells := 0, slots := 0, locals := 135 } : Room) [.ref (r 0), .int z1] (wM r g I A L) (fun v _ w' => ∃ (I' : Nat → Int32) (A' : Nat → Nat → Int32) (L' : Nat → Nat → Int64), Md [18, 19, 20, 21] I I' ∧ Md [18, 19, 20, 21, 25] A A' ∧ IvM I' A' ∧ v = none ∧ w' = wM r g I' A' L') 0 0 := by
  refine GM.of (cc := cX12_fillsSearch) (maxL := 5) (ret := none) (own := RX12) (lv := [(0, .ref (r 0)), (1, .int z1)]) (by decide) rfl rfl (Nat.le_of_ble_eq_true rfl) rfl (fun κ sz hk hR hN => ?_)
  have hin12 : ∀ w ∈ u_ws RX12 TX12 55, w ∈ wz_j189_X12_fillsSearch := fun w h => (List.mem_cons_of_mem _ (List.mem_append_right _ (List.mem_append_left _ h)))
  refine g_aload_n hk dX12_fillsSearch_0 rfl ?_
  refine g_callV (n := 0) hk (j151_X12_copies l D zt r g I A L  hIv) (SP.same _) (fun _ h => h) (gi_V (List.mem_cons_of_mem _ (List.mem_append_left _ (List.mem_of_getElem? (i := 0) rfl))) (List.mem_cons_of_mem _ (List.mem_append_left _ (List.mem_of_getElem? (i := 1) rfl))) (List.mem_cons_of_mem _ (List.mem_append_left _ (List.mem_of_getElem? (i := 2) rfl))) (List.mem_cons_of_mem _ (List.mem_append_left _ (List.mem_of_getElem? (i := 3) rfl))) (gi_sub (fun w h => (List.mem_cons_of_mem _ (List.mem_append_right _ (List.mem_append_right _ (List.mem_append_left _ h))))) zg_j151_X12_copies)) rfl rfl rfl (by decide +kernel) ⟨Nat.le_of_ble_eq_true rfl, Nat.le_of_ble_eq_true rfl⟩ 0 rfl rfl rfl rfl (Nat.le_of_ble_eq_true rfl) ⟨Nat.le_of_ble_eq_true rfl, Nat.le_of_ble_eq_true rfl⟩ dX12_fillsSearch_1 (fun v ty' w' hp hk' => ?_)
  obtain ⟨I21284, A21284, L21284, hI21284, hA21284, hV21284, r21285, r21286, rfl, rfl⟩ := hp
  have f21287 := IvM_s17_0 hIv
  have f21288 := IvM_s17_164 hIv
  show GW κ 5 0 0 (wM r g I21284 A21284 L21284) 4 [(0, .ref (r 0)), (1, .int z1)] []
  refine g_iconst (v := 0) hk dX12_fillsSearch_4 (by decide) ?_
  refine g_istore_n (lv' := [(2, .int 0), (0, .ref (r 0)), (1, .int z1)]) hk dX12_fillsSearch_5 (by decide) rfl ?_
  have lp21785 : ∀ (n21786 : Nat) (x21289 : Int32) (I21292 : Nat → Int32) (A21292 : Nat → Nat → Int32) (L21292 : Nat → Nat → Int64), (Md [] I21284 I21292) → (Md [25] A21284 A21292) → (IvM I21292 A21292) → (0 ≤ x21289.toInt) → (x21289.toInt ≤ 9) → (10 - x21289.toInt < (n21786 : Int)) → (0 < n21786) → GW κ 5 0 0 (wM r g I21292 A21292 L21292) 6 [(2, .int x21289), (0, .ref (r 0)), (1, .int z1)] [] := by
    intro n21786
    induction n21786 with
    | zero =>
      intro x21289 I21292 A21292 L21292 hI21292 hA21292 hV21292 h21783 h21784 m21787 m21787z
      exact absurd m21787z (Nat.lt_irrefl 0)
    | succ n21786 ih21788 =>
      intro x21289 I21292 A21292 L21292 hI21292 hA21292 hV21292 h21783 h21784 m21787 m21787z
      refine g_iload_n hk dX12_fillsSearch_6 rfl ?_
      refine g_bipush (v := 9) hk dX12_fillsSearch_7 (by decide) ?_
      refine g_icmp_ge (tgt := 25) (a := x21289.toInt) (b := 9) hk dX12_fillsSearch_9 (by decide) rfl rfl (fun c21789 => ?_) (fun c21789 => ?_)
      · skip
        refine g_ldcw (v := 2000000000) hk (List.mem_cons_of_mem _ (List.mem_append_left _ (List.mem_of_getElem? (i := 5) rfl))) dX12_fillsSearch_25 ?_
        refine g_istore_n (lv' := [(2, .int 2000000000), (0, .ref (r 0)), (1, .int z1)]) hk dX12_fillsSearch_28 (by decide) rfl ?_
        refine g_iconst (v := 0) hk dX12_fillsSearch_29 (by decide) ?_
        refine g_istore_n (lv' := [(3, .int 0), (2, .int 2000000000), (0, .ref (r 0)), (1, .int z1)]) hk dX12_fillsSearch_30 (by decide) rfl ?_
        have lp21974 : ∀ (n21975 : Nat) (x21790 : Int32) (x21791 : Int32) (I21794 : Nat → Int32) (A21794 : Nat → Nat → Int32) (L21794 : Nat → Nat → Int64), (Md [18, 19, 20, 21] I21292 I21794) → (Md [19, 20, 21, 25] A21292 A21794) → (IvM I21794 A21794) → (0 ≤ x21790.toInt) → (x21790.toInt ≤ 160) → (161 - x21790.toInt < (n21975 : Int)) → (0 < n21975) → GW κ 5 0 0 (wM r g I21794 A21794 L21794) 31 [(3, .int x21790), (2, .int x21791), (0, .ref (r 0)), (1, .int z1)] [] := by
          intro n21975
          induction n21975 with
          | zero =>
            intro x21790 x21791 I21794 A21794 L21794 hI21794 hA21794 hV21794 h21972 h21973 m21976 m21976z
            exact absurd m21976z (Nat.lt_irrefl 0)
          | succ n21975 ih21977 =>
            intro x21790 x21791 I21794 A21794 L21794 hI21794 hA21794 hV21794 h21972 h21973 m21976 m21976z
            refine g_iload_n hk dX12_fillsSearch_31 rfl ?_
            refine g_sipush (v := 160) hk dX12_fillsSearch_32 (by decide) ?_
            refine g_icmp_ge (tgt := 142) (a := x21790.toInt) (b := 160) hk dX12_fillsSearch_35 (by decide) rfl rfl (fun c21978 => ?_) (fun c21978 => ?_)
            · skip
              exact g_vret hk hR ⟨I21794, A21794, L21794, (show Md [18, 19, 20, 21] I I21794 from (Md.tr (Md.tr (Md.tr Md.rf hI21284 rfl) hI21292 rfl) hI21794 rfl)), (show Md [18, 19, 20, 21, 25] A A21794 from (Md.tr (Md.tr (Md.tr Md.rf hA21284 rfl) hA21292 rfl) hA21794 rfl)), hV21794, rfl, rfl⟩ dX12_fillsSearch_142
            · skip
              refine g_aload_n hk dX12_fillsSearch_38 rfl ?_
              refine g_iload_n hk dX12_fillsSearch_39 rfl ?_
              refine g_iload_n hk dX12_fillsSearch_40 rfl ?_
              refine g_callV (n := 2) hk (j168_X12_isOf l D zt r g I21794 A21794 L21794 z1 x21790 hV21794) (SP.same _) (fun _ h => h) (gi_V (List.mem_cons_of_mem _ (List.mem_append_left _ (List.mem_of_getElem? (i := 6) rfl))) (List.mem_cons_of_mem _ (List.mem_append_left _ (List.mem_of_getElem? (i := 7) rfl))) (List.mem_cons_of_mem _ (List.mem_append_left _ (List.mem_of_getElem? (i := 8) rfl))) (List.mem_cons_of_mem _ (List.mem_append_left _ (List.mem_of_getElem? (i := 3) rfl))) (gi_sub (fun w h => (List.mem_cons_of_mem _ (List.mem_append_right _ (List.mem_append_right _ (List.mem_append_right _ (List.mem_append_left _ h)))))) zg_j168_X12_isOf)) rfl rfl rfl (by decide +kernel) ⟨Nat.le_of_ble_eq_true rfl, Nat.le_of_ble_eq_true rfl⟩ 0 rfl rfl rfl rfl (Nat.le_of_ble_eq_true rfl) ⟨Nat.le_of_ble_eq_true rfl, Nat.le_of_ble_eq_true rfl⟩ dX12_fillsSearch_41 (fun v ty' w' hp hk' => ?_)
              rcases hp with ⟨rfl, rfl⟩ | ⟨c21980, c21981, c21982, c21983, c21984, c21985, c21986, c21987, c21988, rfl, rfl⟩
              · skip
                show GW κ 5 0 0 (wM r g I21794 A21794 L21794) 44 [(3, .int x21790), (2, .int x21791), (0, .ref (r 0)), (1, .int z1)] [.int 0]
                refine g_if_ne (tgt := 50) (a := 0) hk dX12_fillsSearch_44 (by decide) rfl (fun z9 => absurd z9 (show ¬ ((0 : Int) ≠ (0 : Int)) from by decide)) (fun _ => ?_)
                refine g_goto (tgt := 136) hk dX12_fillsSearch_47 (by decide) ?_
                obtain ⟨y21990, ey21990⟩ : ∃ y : Int32, y = x21790 + Int32.ofInt 1 := ⟨_, rfl⟩
                have hy21990 : y21990.toInt = x21790.toInt + 1 := i32_add ey21990 rfl (by decide) (by omega) (by omega)
                refine g_iinc (v := y21990) (lv' := [(3, .int y21990), (2, .int x21791), (0, .ref (r 0)), (1, .int z1)]) hk 0 dX12_fillsSearch_136 rfl ey21990.symm (by decide) rfl ?_
                refine g_goto (tgt := 31) hk dX12_fillsSearch_139 (by decide) ?_
                have b21991l := Int32.le_toInt x21791
                have b21991h := Int32.toInt_lt x21791
                exact g_lv (List.forall_mem_cons.mpr ⟨List.mem_of_getElem? (i := 0) rfl, (List.forall_mem_cons.mpr ⟨List.mem_of_getElem? (i := 1) rfl, (List.forall_mem_cons.mpr ⟨List.mem_of_getElem? (i := 2) rfl, (List.forall_mem_cons.mpr ⟨List.mem_of_getElem? (i := 3) rfl, (fun _ h => absurd h List.not_mem_nil)⟩)⟩)⟩)⟩) (ih21977 y21990 x21791 I21794 A21794 L21794 (show Md [18, 19, 20, 21] I21292 I21794 from Md.tr hI21794 (show Md [18, 19, 20, 21] I21794 I21794 from Md.rf) rfl) (show Md [19, 20, 21, 25] A21292 A21794 from Md.tr hA21794 (show Md [19, 20, 21, 25] A21794 A21794 from Md.rf) rfl) hV21794 (by omega) (by omega) (by omega) (by omega))
              · skip
                have f21992 : 0 ≤ (A 11 (5 * (I 15) + z1).toNatClampNeg).toInt ∧ (A 11 (5 * (I 15) + z1).toNatClampNeg).toInt ≤ 16 := IvM_a11 hIv _
                rw [show (A21794 11 (5 * (I21794 15) + z1).toNatClampNeg) = (A 11 (5 * (I 15) + z1).toNatClampNeg) from (by rw [show I21794 15 = (I 15) from ((hI21794 15 rfl).trans ((hI21292 15 rfl).trans (hI21284 15 rfl)))]; exact ((congrFun (hA21794 11 rfl) _).trans ((congrFun (hA21292 11 rfl) _).trans (congrFun (hA21284 11 rfl) _))))] at c21987
                rw [show (A21794 11 (5 * (I21794 15) + z1).toNatClampNeg) = (A 11 (5 * (I 15) + z1).toNatClampNeg) from (by rw [show I21794 15 = (I 15) from ((hI21794 15 rfl).trans ((hI21292 15 rfl).trans (hI21284 15 rfl)))]; exact ((congrFun (hA21794 11 rfl) _).trans ((congrFun (hA21292 11 rfl) _).trans (congrFun (hA21284 11 rfl) _))))] at c21988
                show GW κ 5 0 0 (wM r g I21794 A21794 L21794) 44 [(3, .int x21790), (2, .int x21791), (0, .ref (r 0)), (1, .int z1)] [.int 1]
                refine g_if_ne (tgt := 50) (a := 1) hk dX12_fillsSearch_44 (by decide) rfl (fun _ => ?_) (fun z9 => absurd (show (1 : Int) ≠ (0 : Int) from by decide) z9)
                refine g_aload_n hk dX12_fillsSearch_50 rfl ?_
                refine g_iload_n hk dX12_fillsSearch_51 rfl ?_
                refine g_iload_n hk dX12_fillsSearch_52 rfl ?_
                refine g_iload_n hk dX12_fillsSearch_53 rfl ?_
                refine g_callV (n := 3) hk (j184_X12_passes l D zt r g I21794 A21794 L21794 z1 x21790 x21791 hV21794 (by omega) (by omega) (by omega) (by omega) (by first | (rw [show (A21794 11 (5 * (I21794 15) + z1).toNatClampNeg) = (A 11 (5 * (I 15) + z1).toNatClampNeg) from (by rw [show I21794 15 = (I 15) from ((hI21794 15 rfl).trans ((hI21292 15 rfl).trans (hI21284 15 rfl)))]; exact ((congrFun (hA21794 11 rfl) _).trans ((congrFun (hA21292 11 rfl) _).trans (congrFun (hA21284 11 rfl) _))))] <;> omega) | omega) (by first | (rw [show (A21794 11 (5 * (I21794 15) + z1).toNatClampNeg) = (A 11 (5 * (I 15) + z1).toNatClampNeg) from (by rw [show I21794 15 = (I 15) from ((hI21794 15 rfl).trans ((hI21292 15 rfl).trans (hI21284 15 rfl)))]; exact ((congrFun (hA21794 11 rfl) _).trans ((congrFun (hA21292 11 rfl) _).trans (congrFun (hA21284 11 rfl) _))))] <;> omega) | omega)) (SP.same _) (fun _ h => h) (gi_V (List.mem_cons_of_mem _ (List.mem_append_left _ (List.mem_of_getElem? (i := 9) rfl))) (List.mem_cons_of_mem _ (List.mem_append_left _ (List.mem_of_getElem? (i := 10) rfl))) (List.mem_cons_of_mem _ (List.mem_append_left _ (List.mem_of_getElem? (i := 11) rfl))) (List.mem_cons_of_mem _ (List.mem_append_left _ (List.mem_of_getElem? (i := 3) rfl))) (gi_sub (fun w h => (List.mem_cons_of_mem _ (List.mem_append_right _ (List.mem_append_right _ (List.mem_append_right _ (List.mem_append_right _ (List.mem_append_left _ h))))))) zg_j184_X12_passes)) rfl rfl rfl (by decide +kernel) ⟨Nat.le_of_ble_eq_true rfl, Nat.le_of_ble_eq_true rfl⟩ 0 rfl rfl rfl rfl (Nat.le_of_ble_eq_true rfl) ⟨Nat.le_of_ble_eq_true rfl, Nat.le_of_ble_eq_true rfl⟩ dX12_fillsSearch_54 (fun v ty' w' hp hk' => ?_)
                obtain ⟨I21996, A21996, L21996, hI21996, hA21996, hV21996, y21993, c21994, c21995, rfl, rfl⟩ := hp
                show GW κ 5 0 0 (wM r g I21996 A21996 L21996) 57 [(3, .int x21790), (2, .int x21791), (0, .ref (r 0)), (1, .int z1)] [.int y21993]
                refine g_istore (lv' := [(4, .int y21993), (3, .int x21790), (2, .int x21791), (0, .ref (r 0)), (1, .int z1)]) hk dX12_fillsSearch_57 (by decide) rfl ?_
                refine g_aload_n hk dX12_fillsSearch_59 rfl ?_
                refine gM_r0_49 hk hin12 (List.mem_cons_of_mem _ (List.mem_append_left _ (List.mem_of_getElem? (i := 4) rfl))) dX12_fillsSearch_60 ?_
                refine g_iconst (v := 0) hk dX12_fillsSearch_63 (by decide) ?_
                refine g_dup2 hk dX12_fillsSearch_64 rfl rfl ?_
                refine lM_25 (v := (A21794 25 0)) hk (vp_in_iff.mpr ⟨by decide, by decide⟩) (congrFun (hA21996 25 rfl) _) dX12_fillsSearch_65 ?_
                refine g_iconst (v := 1) hk dX12_fillsSearch_66 (by decide) ?_
                have b21997l := Int32.le_toInt (A21794 25 0)
                have b21997h := Int32.toInt_lt (A21794 25 0)
                refine g_iadd hk dX12_fillsSearch_67 ?_
                refine g_topi (fun y21998 ey21998 => ?_)
                refine sM_25 (j := 0) hk (vp_in_iff.mpr ⟨by decide, by decide⟩) (by decide) dX12_fillsSearch_68 ?_
                refine g_aload_n hk dX12_fillsSearch_69 rfl ?_
                refine gM_r0_49 hk hin12 (List.mem_cons_of_mem _ (List.mem_append_left _ (List.mem_of_getElem? (i := 4) rfl))) dX12_fillsSearch_70 ?_
                refine g_iload hk dX12_fillsSearch_73 rfl ?_
                refine g_if_ne (tgt := 83) (a := y21993.toInt) hk dX12_fillsSearch_75 (by decide) rfl (fun c21999 => ?_) (fun c21999 => ?_)
                · skip
                  refine g_iload hk dX12_fillsSearch_83 rfl ?_
                  refine g_dup2 hk dX12_fillsSearch_85 rfl rfl ?_
                  refine lM_25 hk (vp_in_iff.mpr ⟨by omega, by omega⟩) rfl dX12_fillsSearch_86 ?_
                  refine g_topi (fun y22000 ey22000 => ?_)
                  refine g_iconst (v := 1) hk dX12_fillsSearch_87 (by decide) ?_
                  have b22001l := Int32.le_toInt y22000
                  have b22001h := Int32.toInt_lt y22000
                  refine g_iadd hk dX12_fillsSearch_88 ?_
                  refine g_topi (fun y22002 ey22002 => ?_)
                  refine sM_25 (j := y21993.toNatClampNeg) hk (vp_in_iff.mpr ⟨by omega, by omega⟩) rfl dX12_fillsSearch_89 ?_
                  refine g_aload_n hk dX12_fillsSearch_90 rfl ?_
                  refine gM_r0_49 hk hin12 (List.mem_cons_of_mem _ (List.mem_append_left _ (List.mem_of_getElem? (i := 4) rfl))) dX12_fillsSearch_91 ?_
                  refine g_bipush (v := 6) hk dX12_fillsSearch_94 (by decide) ?_
                  refine g_dup2 hk dX12_fillsSearch_96 rfl rfl ?_
                  refine lM_25 hk (vp_in_iff.mpr ⟨by decide, by decide⟩) rfl dX12_fillsSearch_97 ?_
                  refine g_topi (fun y22003 ey22003 => ?_)
                  refine g_aload_n hk dX12_fillsSearch_98 rfl ?_
                  refine gM_i19 (v := (I21996 19)) hk hin12 (List.mem_cons_of_mem _ (List.mem_append_left _ (List.mem_of_getElem? (i := 12) rfl))) dX12_fillsSearch_99 rfl ?_
                  have b22004l := Int32.le_toInt y22003
                  have b22004h := Int32.toInt_lt y22003
                  have b22005l := Int32.le_toInt (I21996 19)
                  have b22005h := Int32.toInt_lt (I21996 19)
                  refine g_iadd hk dX12_fillsSearch_102 ?_
                  refine g_topi (fun y22006 ey22006 => ?_)
                  refine sM_25 (j := 6) hk (vp_in_iff.mpr ⟨by decide, by decide⟩) (by decide) dX12_fillsSearch_103 ?_
                  refine g_iload hk dX12_fillsSearch_104 rfl ?_
                  refine g_iconst (v := 4) hk dX12_fillsSearch_106 (by decide) ?_
                  refine g_icmp_ne (tgt := 126) (a := y21993.toInt) (b := 4) hk dX12_fillsSearch_107 (by decide) rfl rfl (fun c22007 => ?_) (fun c22007 => ?_)
                  · skip
                    refine g_iload hk dX12_fillsSearch_126 rfl ?_
                    refine g_if_ne (tgt := 136) (a := y21993.toInt) hk dX12_fillsSearch_128 (by decide) rfl (fun _ => ?_) (fun z9 => absurd (show y21993.toInt ≠ 0 from by omega) z9)
                    obtain ⟨y22008, ey22008⟩ : ∃ y : Int32, y = x21790 + Int32.ofInt 1 := ⟨_, rfl⟩
                    have hy22008 : y22008.toInt = x21790.toInt + 1 := i32_add ey22008 rfl (by decide) (by omega) (by omega)
                    refine g_iinc (v := y22008) (lv' := [(3, .int y22008), (4, .int y21993), (2, .int x21791), (0, .ref (r 0)), (1, .int z1)]) hk 1 dX12_fillsSearch_136 rfl ey22008.symm (by decide) rfl ?_
                    refine g_goto (tgt := 31) hk dX12_fillsSearch_139 (by decide) ?_
                    have b22009l := Int32.le_toInt x21791
                    have b22009h := Int32.toInt_lt x21791
                    exact g_lv (List.forall_mem_cons.mpr ⟨List.mem_of_getElem? (i := 0) rfl, (List.forall_mem_cons.mpr ⟨List.mem_of_getElem? (i := 2) rfl, (List.forall_mem_cons.mpr ⟨List.mem_of_getElem? (i := 3) rfl, (List.forall_mem_cons.mpr ⟨List.mem_of_getElem? (i := 4) rfl, (fun _ h => absurd h List.not_mem_nil)⟩)⟩)⟩)⟩) (ih21977 y22008 x21791 I21996 (up3 (up3 (up3 A21996 25 0 y21998) 25 (y21993.toNatClampNeg) y22002) 25 6 y22006) L21996 (show Md [18, 19, 20, 21] I21292 I21996 from Md.tr hI21794 (show Md [18, 19, 20, 21] I21794 I21996 from (Md.tr Md.rf hI21996 rfl)) rfl) (show Md [19, 20, 21, 25] A21292 (up3 (up3 (up3 A21996 25 0 y21998) 25 (y21993.toNatClampNeg) y22002) 25 6 y22006) from Md.tr hA21794 (show Md [19, 20, 21, 25] A21794 (up3 (up3 (up3 A21996 25 0 y21998) 25 (y21993.toNatClampNeg) y22002) 25 6 y22006) from (Md.up3 (Md.up3 (Md.up3 (Md.tr Md.rf hA21996 rfl) rfl) rfl) rfl)) rfl) ⟨(IvM_f1 (I := I21996) (A := A21996) hV21996), (IvM_f2 (I := I21996) (A := A21996) hV21996), (IvM_f3 (I := I21996) (A := A21996) hV21996), (IvM_f4 (I := I21996) (A := A21996) hV21996), (IvM_f6 (I := I21996) (A := A21996) hV21996), (IvM_f8 (I := I21996) (A := A21996) hV21996), (IvM_f15 (I := I21996) (A := A21996) hV21996), (IvM_f16 (I := I21996) (A := A21996) hV21996), (IvM_f17 (I := I21996) (A := A21996) hV21996), (IvM_f18 (I := I21996) (A := A21996) hV21996), (IvM_f22 (I := I21996) (A := A21996) hV21996), (IvM_f23 (I := I21996) (A := A21996) hV21996), (IvM_f24 (I := I21996) (A := A21996) hV21996), (IvM_a11 (I := I21996) (A := A21996) hV21996), (IvM_a26 (I := I21996) (A := A21996) hV21996), (IvM_s8_0 (I := I21996) (A := A21996) hV21996), (IvM_s8_1 (I := I21996) (A := A21996) hV21996), (IvM_s10_0 (I := I21996) (A := A21996) hV21996), (IvM_s10_1 (I := I21996) (A := A21996) hV21996), (IvM_s17_0 (I := I21996) (A := A21996) hV21996), (IvM_s17_164 (I := I21996) (A := A21996) hV21996), (IvM_lv (I := I21996) (A := A21996) hV21996), (IvM_sd (I := I21996) (A := A21996) hV21996), (IvM_nq (I := I21996) (A := A21996) hV21996), (IvM_hr (I := I21996) (A := A21996) hV21996), (IvM_hh (I := I21996) (A := A21996) hV21996), trivial⟩ (by omega) (by omega) (by omega) (by omega))
                  · skip
                    refine g_aload_n hk dX12_fillsSearch_110 rfl ?_
                    refine gM_r0_49 hk hin12 (List.mem_cons_of_mem _ (List.mem_append_left _ (List.mem_of_getElem? (i := 4) rfl))) dX12_fillsSearch_111 ?_
                    refine g_bipush (v := 8) hk dX12_fillsSearch_114 (by decide) ?_
                    refine g_dup2 hk dX12_fillsSearch_116 rfl rfl ?_
                    refine lM_25 hk (vp_in_iff.mpr ⟨by decide, by decide⟩) rfl dX12_fillsSearch_117 ?_
                    refine g_topi (fun y22010 ey22010 => ?_)
                    refine g_aload_n hk dX12_fillsSearch_118 rfl ?_
                    refine gM_i20 (v := (I21996 20)) hk hin12 (List.mem_cons_of_mem _ (List.mem_append_left _ (List.mem_of_getElem? (i := 13) rfl))) dX12_fillsSearch_119 rfl ?_
                    refine g_iconst (v := 1) hk dX12_fillsSearch_122 (by decide) ?_
                    have b22011l := Int32.le_toInt (I21996 20)
                    have b22011h := Int32.toInt_lt (I21996 20)
                    refine g_iadd hk dX12_fillsSearch_123 ?_
                    refine g_topi (fun y22012 ey22012 => ?_)
                    have b22013l := Int32.le_toInt y22010
                    have b22013h := Int32.toInt_lt y22010
                    have b22014l := Int32.le_toInt y22012
                    have b22014h := Int32.toInt_lt y22012
                    refine g_iadd hk dX12_fillsSearch_124 ?_
                    refine g_topi (fun y22015 ey22015 => ?_)
                    refine sM_25 (j := 8) hk (vp_in_iff.mpr ⟨by decide, by decide⟩) (by decide) dX12_fillsSearch_125 ?_
                    refine g_iload hk dX12_fillsSearch_126 rfl ?_
                    refine g_if_ne (tgt := 136) (a := y21993.toInt) hk dX12_fillsSearch_128 (by decide) rfl (fun _ => ?_) (fun z9 => absurd (show y21993.toInt ≠ 0 from by omega) z9)
                    obtain ⟨y22016, ey22016⟩ : ∃ y : Int32, y = x21790 + Int32.ofInt 1 := ⟨_, rfl⟩
                    have hy22016 : y22016.toInt = x21790.toInt + 1 := i32_add ey22016 rfl (by decide) (by omega) (by omega)
                    refine g_iinc (v := y22016) (lv' := [(3, .int y22016), (4, .int y21993), (2, .int x21791), (0, .ref (r 0)), (1, .int z1)]) hk 1 dX12_fillsSearch_136 rfl ey22016.symm (by decide) rfl ?_
                    refine g_goto (tgt := 31) hk dX12_fillsSearch_139 (by decide) ?_
                    have b22017l := Int32.le_toInt x21791
                    have b22017h := Int32.toInt_lt x21791
                    exact g_lv (List.forall_mem_cons.mpr ⟨List.mem_of_getElem? (i := 0) rfl, (List.forall_mem_cons.mpr ⟨List.mem_of_getElem? (i := 2) rfl, (List.forall_mem_cons.mpr ⟨List.mem_of_getElem? (i := 3) rfl, (List.forall_mem_cons.mpr ⟨List.mem_of_getElem? (i := 4) rfl, (fun _ h => absurd h List.not_mem_nil)⟩)⟩)⟩)⟩) (ih21977 y22016 x21791 I21996 (up3 (up3 (up3 (up3 A21996 25 0 y21998) 25 (y21993.toNatClampNeg) y22002) 25 6 y22006) 25 8 y22015) L21996 (show Md [18, 19, 20, 21] I21292 I21996 from Md.tr hI21794 (show Md [18, 19, 20, 21] I21794 I21996 from (Md.tr Md.rf hI21996 rfl)) rfl) (show Md [19, 20, 21, 25] A21292 (up3 (up3 (up3 (up3 A21996 25 0 y21998) 25 (y21993.toNatClampNeg) y22002) 25 6 y22006) 25 8 y22015) from Md.tr hA21794 (show Md [19, 20, 21, 25] A21794 (up3 (up3 (up3 (up3 A21996 25 0 y21998) 25 (y21993.toNatClampNeg) y22002) 25 6 y22006) 25 8 y22015) from (Md.up3 (Md.up3 (Md.up3 (Md.up3 (Md.tr Md.rf hA21996 rfl) rfl) rfl) rfl) rfl)) rfl) ⟨(IvM_f1 (I := I21996) (A := A21996) hV21996), (IvM_f2 (I := I21996) (A := A21996) hV21996), (IvM_f3 (I := I21996) (A := A21996) hV21996), (IvM_f4 (I := I21996) (A := A21996) hV21996), (IvM_f6 (I := I21996) (A := A21996) hV21996), (IvM_f8 (I := I21996) (A := A21996) hV21996), (IvM_f15 (I := I21996) (A := A21996) hV21996), (IvM_f16 (I := I21996) (A := A21996) hV21996), (IvM_f17 (I := I21996) (A := A21996) hV21996), (IvM_f18 (I := I21996) (A := A21996) hV21996), (IvM_f22 (I := I21996) (A := A21996) hV21996), (IvM_f23 (I := I21996) (A := A21996) hV21996), (IvM_f24 (I := I21996) (A := A21996) hV21996), (IvM_a11 (I := I21996) (A := A21996) hV21996), (IvM_a26 (I := I21996) (A := A21996) hV21996), (IvM_s8_0 (I := I21996) (A := A21996) hV21996), (IvM_s8_1 (I := I21996) (A := A21996) hV21996), (IvM_s10_0 (I := I21996) (A := A21996) hV21996), (IvM_s10_1 (I := I21996) (A := A21996) hV21996), (IvM_s17_0 (I := I21996) (A := A21996) hV21996), (IvM_s17_164 (I := I21996) (A := A21996) hV21996), (IvM_lv (I := I21996) (A := A21996) hV21996), (IvM_sd (I := I21996) (A := A21996) hV21996), (IvM_nq (I := I21996) (A := A21996) hV21996), (IvM_hr (I := I21996) (A := A21996) hV21996), (IvM_hh (I := I21996) (A := A21996) hV21996), trivial⟩ (by omega) (by omega) (by omega) (by omega))
                · skip
                  refine g_bipush (v := 7) hk dX12_fillsSearch_78 (by decide) ?_
                  refine g_goto (tgt := 85) hk dX12_fillsSearch_80 (by decide) ?_
                  refine g_dup2 hk dX12_fillsSearch_85 rfl rfl ?_
                  refine lM_25 hk (vp_in_iff.mpr ⟨by decide, by decide⟩) rfl dX12_fillsSearch_86 ?_
                  refine g_topi (fun y22018 ey22018 => ?_)
                  refine g_iconst (v := 1) hk dX12_fillsSearch_87 (by decide) ?_
                  have b22019l := Int32.le_toInt y22018
                  have b22019h := Int32.toInt_lt y22018
                  refine g_iadd hk dX12_fillsSearch_88 ?_
                  refine g_topi (fun y22020 ey22020 => ?_)
                  refine sM_25 (j := 7) hk (vp_in_iff.mpr ⟨by decide, by decide⟩) (by decide) dX12_fillsSearch_89 ?_
                  refine g_aload_n hk dX12_fillsSearch_90 rfl ?_
                  refine gM_r0_49 hk hin12 (List.mem_cons_of_mem _ (List.mem_append_left _ (List.mem_of_getElem? (i := 4) rfl))) dX12_fillsSearch_91 ?_
                  refine g_bipush (v := 6) hk dX12_fillsSearch_94 (by decide) ?_
                  refine g_dup2 hk dX12_fillsSearch_96 rfl rfl ?_
                  refine lM_25 hk (vp_in_iff.mpr ⟨by decide, by decide⟩) rfl dX12_fillsSearch_97 ?_
                  refine g_topi (fun y22021 ey22021 => ?_)
                  refine g_aload_n hk dX12_fillsSearch_98 rfl ?_
                  refine gM_i19 (v := (I21996 19)) hk hin12 (List.mem_cons_of_mem _ (List.mem_append_left _ (List.mem_of_getElem? (i := 12) rfl))) dX12_fillsSearch_99 rfl ?_
                  have b22022l := Int32.le_toInt y22021
                  have b22022h := Int32.toInt_lt y22021
                  have b22023l := Int32.le_toInt (I21996 19)
                  have b22023h := Int32.toInt_lt (I21996 19)
                  refine g_iadd hk dX12_fillsSearch_102 ?_
                  refine g_topi (fun y22024 ey22024 => ?_)
                  refine sM_25 (j := 6) hk (vp_in_iff.mpr ⟨by decide, by decide⟩) (by decide) dX12_fillsSearch_103 ?_
                  refine g_iload hk dX12_fillsSearch_104 rfl ?_
                  refine g_iconst (v := 4) hk dX12_fillsSearch_106 (by decide) ?_
                  refine g_icmp_ne (tgt := 126) (a := y21993.toInt) (b := 4) hk dX12_fillsSearch_107 (by decide) rfl rfl (fun _ => ?_) (fun z9 => absurd (show y21993.toInt ≠ 4 from by omega) z9)
                  refine g_iload hk dX12_fillsSearch_126 rfl ?_
                  refine g_if_ne (tgt := 136) (a := y21993.toInt) hk dX12_fillsSearch_128 (by decide) rfl (fun z9 => absurd z9 (show ¬ (y21993.toInt ≠ 0) from by omega)) (fun _ => ?_)
                  refine g_aload_n hk dX12_fillsSearch_131 rfl ?_
                  refine gM_i21 (v := (I21996 21)) hk hin12 (List.mem_cons_of_mem _ (List.mem_append_left _ (List.mem_of_getElem? (i := 14) rfl))) dX12_fillsSearch_132 rfl ?_
                  refine g_istore_n (lv' := [(2, .int (I21996 21)), (4, .int y21993), (3, .int x21790), (0, .ref (r 0)), (1, .int z1)]) hk dX12_fillsSearch_135 (by decide) rfl ?_
                  obtain ⟨y22025, ey22025⟩ : ∃ y : Int32, y = x21790 + Int32.ofInt 1 := ⟨_, rfl⟩
                  have hy22025 : y22025.toInt = x21790.toInt + 1 := i32_add ey22025 rfl (by decide) (by omega) (by omega)
                  refine g_iinc (v := y22025) (lv' := [(3, .int y22025), (2, .int (I21996 21)), (4, .int y21993), (0, .ref (r 0)), (1, .int z1)]) hk 2 dX12_fillsSearch_136 rfl ey22025.symm (by decide) rfl ?_
                  refine g_goto (tgt := 31) hk dX12_fillsSearch_139 (by decide) ?_
                  have b22026l := Int32.le_toInt (I21996 21)
                  have b22026h := Int32.toInt_lt (I21996 21)
                  exact g_lv (List.forall_mem_cons.mpr ⟨List.mem_of_getElem? (i := 0) rfl, (List.forall_mem_cons.mpr ⟨List.mem_of_getElem? (i := 1) rfl, (List.forall_mem_cons.mpr ⟨List.mem_of_getElem? (i := 3) rfl, (List.forall_mem_cons.mpr ⟨List.mem_of_getElem? (i := 4) rfl, (fun _ h => absurd h List.not_mem_nil)⟩)⟩)⟩)⟩) (ih21977 y22025 (I21996 21) I21996 (up3 (up3 (up3 A21996 25 0 y21998) 25 7 y22020) 25 6 y22024) L21996 (show Md [18, 19, 20, 21] I21292 I21996 from Md.tr hI21794 (show Md [18, 19, 20, 21] I21794 I21996 from (Md.tr Md.rf hI21996 rfl)) rfl) (show Md [19, 20, 21, 25] A21292 (up3 (up3 (up3 A21996 25 0 y21998) 25 7 y22020) 25 6 y22024) from Md.tr hA21794 (show Md [19, 20, 21, 25] A21794 (up3 (up3 (up3 A21996 25 0 y21998) 25 7 y22020) 25 6 y22024) from (Md.up3 (Md.up3 (Md.up3 (Md.tr Md.rf hA21996 rfl) rfl) rfl) rfl)) rfl) ⟨(IvM_f1 (I := I21996) (A := A21996) hV21996), (IvM_f2 (I := I21996) (A := A21996) hV21996), (IvM_f3 (I := I21996) (A := A21996) hV21996), (IvM_f4 (I := I21996) (A := A21996) hV21996), (IvM_f6 (I := I21996) (A := A21996) hV21996), (IvM_f8 (I := I21996) (A := A21996) hV21996), (IvM_f15 (I := I21996) (A := A21996) hV21996), (IvM_f16 (I := I21996) (A := A21996) hV21996), (IvM_f17 (I := I21996) (A := A21996) hV21996), (IvM_f18 (I := I21996) (A := A21996) hV21996), (IvM_f22 (I := I21996) (A := A21996) hV21996), (IvM_f23 (I := I21996) (A := A21996) hV21996), (IvM_f24 (I := I21996) (A := A21996) hV21996), (IvM_a11 (I := I21996) (A := A21996) hV21996), (IvM_a26 (I := I21996) (A := A21996) hV21996), (IvM_s8_0 (I := I21996) (A := A21996) hV21996), (IvM_s8_1 (I := I21996) (A := A21996) hV21996), (IvM_s10_0 (I := I21996) (A := A21996) hV21996), (IvM_s10_1 (I := I21996) (A := A21996) hV21996), (IvM_s17_0 (I := I21996) (A := A21996) hV21996), (IvM_s17_164 (I := I21996) (A := A21996) hV21996), (IvM_lv (I := I21996) (A := A21996) hV21996), (IvM_sd (I := I21996) (A := A21996) hV21996), (IvM_nq (I := I21996) (A := A21996) hV21996), (IvM_hr (I := I21996) (A := A21996) hV21996), (IvM_hh (I := I21996) (A := A21996) hV21996), trivial⟩ (by omega) (by omega) (by omega) (by omega))
        have k22027 : (0 : Int32).toInt = 0 := rfl
        have k22028 : (2000000000 : Int32).toInt = 2000000000 := rfl
        obtain ⟨n22029, n22029a, n22029b⟩ : ∃ n : Nat, 161 - (0 : Int32).toInt < (n : Int) ∧ 0 < n := ⟨((161 - (0 : Int32).toInt : Int)).toNat + 1, by omega, by omega⟩
        exact lp21974 n22029 0 2000000000 I21292 A21292 L21292 Md.rf Md.rf hV21292 (by omega) (by omega) n22029a n22029b
      · skip
        refine g_aload_n hk dX12_fillsSearch_12 rfl ?_
        refine gM_r0_49 hk hin12 (List.mem_cons_of_mem _ (List.mem_append_left _ (List.mem_of_getElem? (i := 4) rfl))) dX12_fillsSearch_13 ?_
        refine g_iload_n hk dX12_fillsSearch_16 rfl ?_
        refine g_iconst (v := 0) hk dX12_fillsSearch_17 (by decide) ?_
        have k22030 : (0 : Int32).toInt = 0 := rfl
        refine sM_25 (j := x21289.toNatClampNeg) hk (vp_in_iff.mpr ⟨by omega, by omega⟩) rfl dX12_fillsSearch_18 ?_
        obtain ⟨y22031, ey22031⟩ : ∃ y : Int32, y = x21289 + Int32.ofInt 1 := ⟨_, rfl⟩
        have hy22031 : y22031.toInt = x21289.toInt + 1 := i32_add ey22031 rfl (by decide) (by omega) (by omega)
        refine g_iinc (v := y22031) (lv' := [(2, .int y22031), (0, .ref (r 0)), (1, .int z1)]) hk 0 dX12_fillsSearch_19 rfl ey22031.symm (by decide) rfl ?_
        refine g_goto (tgt := 6) hk dX12_fillsSearch_22 (by decide) ?_
        exact g_lv (List.forall_mem_cons.mpr ⟨List.mem_of_getElem? (i := 0) rfl, (List.forall_mem_cons.mpr ⟨List.mem_of_getElem? (i := 1) rfl, (List.forall_mem_cons.mpr ⟨List.mem_of_getElem? (i := 2) rfl, (fun _ h => absurd h List.not_mem_nil)⟩)⟩)⟩) (ih21788 y22031 I21292 (up3 A21292 25 (x21289.toNatClampNeg) 0) L21292 (show Md [] I21284 I21292 from Md.tr hI21292 (show Md [] I21292 I21292 from Md.rf) rfl) (show Md [25] A21284 (up3 A21292 25 (x21289.toNatClampNeg) 0) from Md.tr hA21292 (show Md [25] A21292 (up3 A21292 25 (x21289.toNatClampNeg) 0) from (Md.up3 Md.rf rfl)) rfl) ⟨(IvM_f1 (I := I21292) (A := A21292) hV21292), (IvM_f2 (I := I21292) (A := A21292) hV21292), (IvM_f3 (I := I21292) (A := A21292) hV21292), (IvM_f4 (I := I21292) (A := A21292) hV21292), (IvM_f6 (I := I21292) (A := A21292) hV21292), (IvM_f8 (I := I21292) (A := A21292) hV21292), (IvM_f15 (I := I21292) (A := A21292) hV21292), (IvM_f16 (I := I21292) (A := A21292) hV21292), (IvM_f17 (I := I21292) (A := A21292) hV21292), (IvM_f18 (I := I21292) (A := A21292) hV21292), (IvM_f22 (I := I21292) (A := A21292) hV21292), (IvM_f23 (I := I21292) (A := A21292) hV21292), (IvM_f24 (I := I21292) (A := A21292) hV21292), (IvM_a11 (I := I21292) (A := A21292) hV21292), (IvM_a26 (I := I21292) (A := A21292) hV21292), (IvM_s8_0 (I := I21292) (A := A21292) hV21292), (IvM_s8_1 (I := I21292) (A := A21292) hV21292), (IvM_s10_0 (I := I21292) (A := A21292) hV21292), (IvM_s10_1 (I := I21292) (A := A21292) hV21292), (IvM_s17_0 (I := I21292) (A := A21292) hV21292), (IvM_s17_164 (I := I21292) (A := A21292) hV21292), (IvM_lv (I := I21292) (A := A21292) hV21292), (IvM_sd (I := I21292) (A := A21292) hV21292), (IvM_nq (I := I21292) (A := A21292) hV21292), (IvM_hr (I := I21292) (A := A21292) hV21292), (IvM_hh (I := I21292) (A := A21292) hV21292), trivial⟩ (by omega) (by omega) (by omega) (by omega))
  have k22032 : (0 : Int32).toInt = 0 := rfl
  obtain ⟨n22033, n22033a, n22033b⟩ : ∃ n : Nat, 10 - (0 : Int32).toInt < (n : Int) ∧ 0 < n := ⟨((10 - (0 : Int32).toInt : Int)).toNat + 1, by omega, by omega⟩
  exact lp21785 n22033 0 I21284 A21284 L21284 Md.rf Md.rf hV21284 (by omega) (by omega) n22033a n22033b
def wo_j188_X12_search : List Cond := [Cond.methodLink RX12 251 yX12_isQuery, Cond.instanceMethod yX12_isQuery, Cond.selects RX12 yX12_isQuery yX12_isQuery, Cond.initialized RX12, Cond.methodLink RX12 244 yX12_in, Cond.static yX12_in, Cond.methodLink RX12 363 yX12_fillsSearch, Cond.instanceMethod yX12_fillsSearch, Cond.selects RX12 yX12_fillsSearch yX12_fillsSearch, Cond.fieldLink RX12 94 "WarpDeskModel" "searchBy" "[I"]
def wz_j188_X12_search : List Cond := .code yX12_search cX12_search 3 (some .int) :: (wo_j188_X12_search ++ (wsX120 ++ (wz_j147_X12_isQuery ++ (wz_j145_X12_in ++ (wz_j189_X12_fillsSearch ++ ([] : List Cond))))))
theorem zg_j188_X12_search : ∀ w ∈ wz_j188_X12_search, goodWord w = true := zg_cons rfl (zg_app (by decide +kernel) (zg_app zgU_wsX120 (zg_app zg_j147_X12_isQuery (zg_app zg_j145_X12_in (zg_app zg_j189_X12_fillsSearch zg_nil)))))
theorem zi_j188_X12_search : ∀ w ∈ wz_j188_X12_search, w ∈ lw_tbl := zi_cons zw_1859 (zi_app (zi_cons zw_1663 (zi_cons zw_1665 (zi_cons zw_67 (zi_cons zw_115 (zi_cons zw_1656 (zi_cons zw_1657 (zi_cons zw_1860 (zi_cons zw_1862 (zi_cons zw_95 (zi_cons zw_1427 zi_nil)))))))))) (zi_app inX12 (zi_app zi_j147_X12_isQuery (zi_app zi_j145_X12_in (zi_app zi_j189_X12_fillsSearch zi_nil)))))
set_option maxHeartbeats 4000000 in
set_option maxRecDepth 100000 in
theorem j188_X12_search (l : Launch) (D : va_G) (zt : Nat × Nat × Nat × (Nat → Nat) × (Nat → Nat)) (r : Nat → Nat) (g : Nat → ClassId) (I : Nat → Int32) (A : Nat → Nat → Int32) (L : Nat → Nat → Int64) (z1 : Int32) (z2 : Int32) (hIv : IvM I A) : GM l D zt (tyM g) yX12_search wz_j188_X12_search ({ frames := 7, cells := 0, slots := 0, locals := 159 } : Room) [.ref (r 0), .int z1, .int z2] (wM r g I A L) (fun v _ w' => ∃ (I' : Nat → Int32) (A' : Nat → Nat → Int32) (L' : Nat → Nat → Int64), Md [18, 19, 20, 21] I I' ∧ Md [18, 19, 20, 21, 25] A A' ∧ IvM I' A' ∧ ∃ y0 : Int32, v = some (.int y0) ∧ w' = wM r g I' A' L') 0 0 := by
  refine GM.of (cc := cX12_search) (maxL := 3) (ret := (some .int)) (own := RX12) (lv := [(0, .ref (r 0)), (1, .int z1), (2, .int z2)]) (by decide) rfl rfl (Nat.le_of_ble_eq_true rfl) rfl (fun κ sz hk hR hN => ?_)
  have hin12 : ∀ w ∈ u_ws RX12 TX12 55, w ∈ wz_j188_X12_search := fun w h => (List.mem_cons_of_mem _ (List.mem_append_right _ (List.mem_append_left _ h)))
  refine g_aload_n hk dX12_search_0 rfl ?_
  refine g_iload_n hk dX12_search_1 rfl ?_
  refine g_callV (n := 1) hk (j147_X12_isQuery l D zt r g I A L z1 hIv) (SP.same _) (fun _ h => h) (gi_V (List.mem_cons_of_mem _ (List.mem_append_left _ (List.mem_of_getElem? (i := 0) rfl))) (List.mem_cons_of_mem _ (List.mem_append_left _ (List.mem_of_getElem? (i := 1) rfl))) (List.mem_cons_of_mem _ (List.mem_append_left _ (List.mem_of_getElem? (i := 2) rfl))) (List.mem_cons_of_mem _ (List.mem_append_left _ (List.mem_of_getElem? (i := 3) rfl))) (gi_sub (fun w h => (List.mem_cons_of_mem _ (List.mem_append_right _ (List.mem_append_right _ (List.mem_append_left _ h))))) zg_j147_X12_isQuery)) rfl rfl rfl (by decide +kernel) ⟨Nat.le_of_ble_eq_true rfl, Nat.le_of_ble_eq_true rfl⟩ 0 rfl rfl rfl rfl (Nat.le_of_ble_eq_true rfl) ⟨Nat.le_of_ble_eq_true rfl, Nat.le_of_ble_eq_true rfl⟩ dX12_search_2 (fun v ty' w' hp hk' => ?_)
  rcases hp with ⟨rfl, rfl⟩ | ⟨c21269, c21270, c21271, c21272, rfl, rfl⟩
  · skip
    show GW κ 3 0 0 (wM r g I A L) 5 [(0, .ref (r 0)), (1, .int z1), (2, .int z2)] [.int 0]
    refine g_if_eq (tgt := 18) (a := 0) hk dX12_search_5 (by decide) rfl (fun _ => ?_) (fun z9 => absurd (show (0 : Int) = (0 : Int) from by decide) z9)
    refine g_iconst (v := (-1)) hk dX12_search_18 (by decide) ?_
    exact g_iret hk hR rfl ⟨I, A, L, (show Md [18, 19, 20, 21] I I from Md.rf), (show Md [18, 19, 20, 21, 25] A A from Md.rf), hIv, (-1), rfl, rfl⟩ dX12_search_19
  · skip
    have f21274 : 0 ≤ (A 11 (5 * (I 15) + z1).toNatClampNeg).toInt ∧ (A 11 (5 * (I 15) + z1).toNatClampNeg).toInt ≤ 16 := IvM_a11 hIv _
    show GW κ 3 0 0 (wM r g I A L) 5 [(0, .ref (r 0)), (1, .int z1), (2, .int z2)] [.int 1]
    refine g_if_eq (tgt := 18) (a := 1) hk dX12_search_5 (by decide) rfl (fun z9 => absurd z9 (show ¬ ((1 : Int) = (0 : Int)) from by decide)) (fun _ => ?_)
    refine g_iload_n hk dX12_search_8 rfl ?_
    refine g_iconst (v := 0) hk dX12_search_9 (by decide) ?_
    refine g_bipush (v := 8) hk dX12_search_10 (by decide) ?_
    have k21275 : (0 : Int32).toInt = 0 := rfl
    have k21276 : (8 : Int32).toInt = 8 := rfl
    refine g_callS (n := 3) hk (j145_X12_in l D zt r g I A L z2 0 8 hIv) (SP.same _) (fun _ h => h) (gi_S (List.mem_cons_of_mem _ (List.mem_append_left _ (List.mem_of_getElem? (i := 4) rfl))) (List.mem_cons_of_mem _ (List.mem_append_left _ (List.mem_of_getElem? (i := 5) rfl))) (List.mem_cons_of_mem _ (List.mem_append_left _ (List.mem_of_getElem? (i := 3) rfl))) (gi_sub (fun w h => (List.mem_cons_of_mem _ (List.mem_append_right _ (List.mem_append_right _ (List.mem_append_right _ (List.mem_append_left _ h)))))) zg_j145_X12_in)) rfl rfl rfl (by decide +kernel) ⟨Nat.le_of_ble_eq_true rfl, Nat.le_of_ble_eq_true rfl⟩ rfl rfl (Nat.le_of_ble_eq_true rfl) ⟨Nat.le_of_ble_eq_true rfl, Nat.le_of_ble_eq_true rfl⟩ dX12_search_12 (fun v ty' w' hp hk' => ?_)
    rcases hp with ⟨c21277, rfl, rfl⟩ | ⟨c21279, c21280, rfl, rfl⟩
    · skip
      have b21282l := Int32.le_toInt z2
      have b21282h := Int32.toInt_lt z2
      show GW κ 3 0 0 (wM r g I A L) 15 [(0, .ref (r 0)), (1, .int z1), (2, .int z2)] [.int 0]
      refine g_if_ne (tgt := 20) (a := 0) hk dX12_search_15 (by decide) rfl (fun z9 => absurd z9 (show ¬ ((0 : Int) ≠ (0 : Int)) from by decide)) (fun _ => ?_)
      refine g_iconst (v := (-1)) hk dX12_search_18 (by decide) ?_
      exact g_iret hk hR rfl ⟨I, A, L, (show Md [18, 19, 20, 21] I I from Md.rf), (show Md [18, 19, 20, 21, 25] A A from Md.rf), hIv, (-1), rfl, rfl⟩ dX12_search_19
    · skip
      show GW κ 3 0 0 (wM r g I A L) 15 [(0, .ref (r 0)), (1, .int z1), (2, .int z2)] [.int 1]
      refine g_if_ne (tgt := 20) (a := 1) hk dX12_search_15 (by decide) rfl (fun _ => ?_) (fun z9 => absurd (show (1 : Int) ≠ (0 : Int) from by decide) z9)
      refine g_aload_n hk dX12_search_20 rfl ?_
      refine g_iload_n hk dX12_search_21 rfl ?_
      refine g_callV (n := 1) hk (j189_X12_fillsSearch l D zt r g I A L z1 hIv (by omega) (by omega)) (SP.same _) (fun _ h => h) (gi_V (List.mem_cons_of_mem _ (List.mem_append_left _ (List.mem_of_getElem? (i := 6) rfl))) (List.mem_cons_of_mem _ (List.mem_append_left _ (List.mem_of_getElem? (i := 7) rfl))) (List.mem_cons_of_mem _ (List.mem_append_left _ (List.mem_of_getElem? (i := 8) rfl))) (List.mem_cons_of_mem _ (List.mem_append_left _ (List.mem_of_getElem? (i := 3) rfl))) (gi_sub (fun w h => (List.mem_cons_of_mem _ (List.mem_append_right _ (List.mem_append_right _ (List.mem_append_right _ (List.mem_append_right _ (List.mem_append_left _ h))))))) zg_j189_X12_fillsSearch)) rfl rfl rfl (by decide +kernel) ⟨Nat.le_of_ble_eq_true rfl, Nat.le_of_ble_eq_true rfl⟩ 0 rfl rfl rfl rfl (Nat.le_of_ble_eq_true rfl) ⟨Nat.le_of_ble_eq_true rfl, Nat.le_of_ble_eq_true rfl⟩ dX12_search_22 (fun v ty' w' hp hk' => ?_)
      obtain ⟨I22035, A22035, L22035, hI22035, hA22035, hV22035, rfl, rfl⟩ := hp
      show GW κ 3 0 0 (wM r g I22035 A22035 L22035) 25 [(0, .ref (r 0)), (1, .int z1), (2, .int z2)] []
      refine g_aload_n hk dX12_search_25 rfl ?_
      refine gM_r0_49 hk hin12 (List.mem_cons_of_mem _ (List.mem_append_left _ (List.mem_of_getElem? (i := 9) rfl))) dX12_search_26 ?_
      refine g_iload_n hk dX12_search_29 rfl ?_
      refine lM_25 (v := (A22035 25 z2.toNatClampNeg)) hk (vp_in_iff.mpr ⟨by omega, by omega⟩) rfl dX12_search_30 ?_
      have b22036l := Int32.le_toInt (A22035 25 z2.toNatClampNeg)
      have b22036h := Int32.toInt_lt (A22035 25 z2.toNatClampNeg)
      exact g_iret hk hR rfl ⟨I22035, A22035, L22035, (show Md [18, 19, 20, 21] I I22035 from (Md.tr Md.rf hI22035 rfl)), (show Md [18, 19, 20, 21, 25] A A22035 from (Md.tr Md.rf hA22035 rfl)), hV22035, (A22035 25 z2.toNatClampNeg), rfl, rfl⟩ dX12_search_31
def wo_j192_X12_isApart : List Cond := [Cond.fieldLink RX12 366 "WarpDeskModel" "matchMany" "I", Cond.fieldLink RX12 97 "WarpDeskModel" "matchAt" "[I", Cond.fieldLink RX12 73 "WarpDeskModel" "row" "[I", Cond.methodLink RX12 244 yX12_in, Cond.static yX12_in, Cond.initialized RX12]
def wz_j192_X12_isApart : List Cond := .code yX12_isApart cX12_isApart 3 (some .boolean) :: (wo_j192_X12_isApart ++ (wsX120 ++ (wz_j145_X12_in ++ ([] : List Cond))))
theorem zg_j192_X12_isApart : ∀ w ∈ wz_j192_X12_isApart, goodWord w = true := zg_cons rfl (zg_app (by decide +kernel) (zg_app zgU_wsX120 (zg_app zg_j145_X12_in zg_nil)))
theorem zi_j192_X12_isApart : ∀ w ∈ wz_j192_X12_isApart, w ∈ lw_tbl := zi_cons zw_1875 (zi_app (zi_cons zw_1428 (zi_cons zw_1429 (zi_cons zw_1414 (zi_cons zw_1656 (zi_cons zw_1657 (zi_cons zw_115 zi_nil)))))) (zi_app inX12 (zi_app zi_j145_X12_in zi_nil)))
set_option maxHeartbeats 4000000 in
set_option maxRecDepth 100000 in
theorem j192_X12_isApart (l : Launch) (D : va_G) (zt : Nat × Nat × Nat × (Nat → Nat) × (Nat → Nat)) (r : Nat → Nat) (g : Nat → ClassId) (I : Nat → Int32) (A : Nat → Nat → Int32) (L : Nat → Nat → Int64) (z1 : Int32) (hIv : IvM I A) (hp0 : 0 ≤ z1.toInt) (hp1 : z1.toInt ≤ 159) (hp2 : 1 ≤ (A 18 164).toInt) : GM l D zt (tyM g) yX12_isApart wz_j192_X12_isApart ({ frames := 1, cells := 0, slots := 0, locals := 22 } : Room) [.ref (r 0), .int z1] (wM r g I A L) (fun v _ w' => (v = some (.int 0) ∧ w' = wM r g I A L) ∨ ((∀ j : Nat, (j : Int) < (I 24).toInt → (A 26 j).toInt ≠ z1.toInt) ∧ v = some (.int 1) ∧ w' = wM r g I A L)) 0 0 := by
  refine GM.of (cc := cX12_isApart) (maxL := 3) (ret := (some .boolean)) (own := RX12) (lv := [(0, .ref (r 0)), (1, .int z1)]) (by decide) rfl rfl (Nat.le_of_ble_eq_true rfl) rfl (fun κ sz hk hR hN => ?_)
  have hin12 : ∀ w ∈ u_ws RX12 TX12 55, w ∈ wz_j192_X12_isApart := fun w h => (List.mem_cons_of_mem _ (List.mem_append_right _ (List.mem_append_left _ h)))
  refine g_iconst (v := 0) hk dX12_isApart_0 (by decide) ?_
  refine g_istore_n (lv' := [(2, .int 0), (0, .ref (r 0)), (1, .int z1)]) hk dX12_isApart_1 (by decide) rfl ?_
  have lp22135 : ∀ (n22136 : Nat) (x22068 : Int32), (0 ≤ x22068.toInt) → (x22068.toInt ≤ 160) → (∀ j : Nat, (j : Int) < x22068.toInt → (A 26 j).toInt ≠ z1.toInt) → (161 - x22068.toInt < (n22136 : Int)) → (0 < n22136) → GW κ 3 0 0 (wM r g I A L) 2 [(2, .int x22068), (0, .ref (r 0)), (1, .int z1)] [] := by
    intro n22136
    induction n22136 with
    | zero =>
      intro x22068 h22132 h22133 hP22134 m22137 m22137z
      exact absurd m22137z (Nat.lt_irrefl 0)
    | succ n22136 ih22138 =>
      intro x22068 h22132 h22133 hP22134 m22137 m22137z
      refine g_iload_n hk dX12_isApart_2 rfl ?_
      refine g_aload_n hk dX12_isApart_3 rfl ?_
      refine gM_i24 (v := (I 24)) hk hin12 (List.mem_cons_of_mem _ (List.mem_append_left _ (List.mem_of_getElem? (i := 0) rfl))) dX12_isApart_4 rfl ?_
      have f22139 := IvM_f24 hIv
      refine g_icmp_ge (tgt := 52) (a := x22068.toInt) (b := (I 24).toInt) hk dX12_isApart_7 (by decide) rfl rfl (fun c22140 => ?_) (fun c22140 => ?_)
      · skip
        refine g_iconst (v := 1) hk dX12_isApart_52 (by decide) ?_
        exact g_iret hk hR rfl (Or.inr (⟨(fun j hj => hP22134 j (by omega)), rfl, rfl⟩)) dX12_isApart_53
      · skip
        refine g_iload_n hk dX12_isApart_10 rfl ?_
        refine g_aload_n hk dX12_isApart_11 rfl ?_
        refine gM_r0_51 hk hin12 (List.mem_cons_of_mem _ (List.mem_append_left _ (List.mem_of_getElem? (i := 1) rfl))) dX12_isApart_12 ?_
        refine g_iload_n hk dX12_isApart_15 rfl ?_
        refine lM_26 (v := (A 26 x22068.toNatClampNeg)) hk (vp_in_iff.mpr ⟨by omega, by omega⟩) rfl dX12_isApart_16 ?_
        have f22141 := IvM_a26 hIv (x22068.toNatClampNeg)
        refine g_isub hk dX12_isApart_17 ?_
        refine g_topi (fun y22142 ey22142 => ?_)
        have hy22142 : y22142.toInt = z1.toInt - (A 26 x22068.toNatClampNeg).toInt := i32_sub ey22142 rfl rfl (by omega) (by omega)
        refine g_iconst (v := 1) hk dX12_isApart_18 (by decide) ?_
        refine g_aload_n hk dX12_isApart_19 rfl ?_
        refine gM_r0_36 hk hin12 (List.mem_cons_of_mem _ (List.mem_append_left _ (List.mem_of_getElem? (i := 2) rfl))) dX12_isApart_20 ?_
        refine g_sipush (v := 164) hk dX12_isApart_23 (by decide) ?_
        refine lM_18 (v := (A 18 164)) hk (vp_in_iff.mpr ⟨by decide, by decide⟩) rfl dX12_isApart_26 ?_
        have b22143l := Int32.le_toInt (A 18 164)
        have b22143h := Int32.toInt_lt (A 18 164)
        refine g_isub hk dX12_isApart_27 ?_
        refine g_topi (fun y22144 ey22144 => ?_)
        have hy22144 := i32_sub0 ey22144
        refine g_aload_n hk dX12_isApart_28 rfl ?_
        refine gM_r0_36 hk hin12 (List.mem_cons_of_mem _ (List.mem_append_left _ (List.mem_of_getElem? (i := 2) rfl))) dX12_isApart_29 ?_
        refine g_sipush (v := 164) hk dX12_isApart_32 (by decide) ?_
        refine lM_18 (v := (A 18 164)) hk (vp_in_iff.mpr ⟨by decide, by decide⟩) rfl dX12_isApart_35 ?_
        refine g_iconst (v := 1) hk dX12_isApart_36 (by decide) ?_
        refine g_isub hk dX12_isApart_37 ?_
        refine g_topi (fun y22145 ey22145 => ?_)
        have hy22145 := i32_sub0 ey22145
        refine g_callS (n := 3) hk (j145_X12_in l D zt r g I A L y22142 y22144 y22145 hIv) (SP.same _) (fun _ h => h) (gi_S (List.mem_cons_of_mem _ (List.mem_append_left _ (List.mem_of_getElem? (i := 3) rfl))) (List.mem_cons_of_mem _ (List.mem_append_left _ (List.mem_of_getElem? (i := 4) rfl))) (List.mem_cons_of_mem _ (List.mem_append_left _ (List.mem_of_getElem? (i := 5) rfl))) (gi_sub (fun w h => (List.mem_cons_of_mem _ (List.mem_append_right _ (List.mem_append_right _ (List.mem_append_left _ h))))) zg_j145_X12_in)) rfl rfl rfl (by decide +kernel) ⟨Nat.le_of_ble_eq_true rfl, Nat.le_of_ble_eq_true rfl⟩ rfl rfl (Nat.le_of_ble_eq_true rfl) ⟨Nat.le_of_ble_eq_true rfl, Nat.le_of_ble_eq_true rfl⟩ dX12_isApart_38 (fun v ty' w' hp hk' => ?_)
        rcases hp with ⟨c22146, rfl, rfl⟩ | ⟨c22148, c22149, rfl, rfl⟩
        · skip
          have b22151l := Int32.le_toInt y22144
          have b22151h := Int32.toInt_lt y22144
          have b22152l := Int32.le_toInt y22145
          have b22152h := Int32.toInt_lt y22145
          show GW κ 3 0 0 (wM r g I A L) 41 [(2, .int x22068), (0, .ref (r 0)), (1, .int z1)] [.int 0]
          refine g_if_eq (tgt := 46) (a := 0) hk dX12_isApart_41 (by decide) rfl (fun _ => ?_) (fun z9 => absurd (show (0 : Int) = (0 : Int) from by decide) z9)
          obtain ⟨y22153, ey22153⟩ : ∃ y : Int32, y = x22068 + Int32.ofInt 1 := ⟨_, rfl⟩
          have hy22153 : y22153.toInt = x22068.toInt + 1 := i32_add ey22153 rfl (by decide) (by omega) (by omega)
          refine g_iinc (v := y22153) (lv' := [(2, .int y22153), (0, .ref (r 0)), (1, .int z1)]) hk 0 dX12_isApart_46 rfl ey22153.symm (by decide) rfl ?_
          refine g_goto (tgt := 2) hk dX12_isApart_49 (by decide) ?_
          exact g_lv (List.forall_mem_cons.mpr ⟨List.mem_of_getElem? (i := 0) rfl, (List.forall_mem_cons.mpr ⟨List.mem_of_getElem? (i := 1) rfl, (List.forall_mem_cons.mpr ⟨List.mem_of_getElem? (i := 2) rfl, (fun _ h => absurd h List.not_mem_nil)⟩)⟩)⟩) (ih22138 y22153 (by omega) (by omega) (fun j hj => by by_cases hj2 : (j : Int) < x22068.toInt; exact hP22134 j hj2; have e9 : j = x22068.toNatClampNeg := (by have := cl_int (y := x22068) (by omega); omega); rw [e9]; omega) (by omega) (by omega))
        · skip
          show GW κ 3 0 0 (wM r g I A L) 41 [(2, .int x22068), (0, .ref (r 0)), (1, .int z1)] [.int 1]
          refine g_if_eq (tgt := 46) (a := 1) hk dX12_isApart_41 (by decide) rfl (fun z9 => absurd z9 (show ¬ ((1 : Int) = (0 : Int)) from by decide)) (fun _ => ?_)
          refine g_iconst (v := 0) hk dX12_isApart_44 (by decide) ?_
          exact g_iret hk hR rfl (Or.inl ⟨rfl, rfl⟩) dX12_isApart_45
  have k22154 : (0 : Int32).toInt = 0 := rfl
  obtain ⟨n22155, n22155a, n22155b⟩ : ∃ n : Nat, 161 - (0 : Int32).toInt < (n : Int) ∧ 0 < n := ⟨((161 - (0 : Int32).toInt : Int)).toNat + 1, by omega, by omega⟩
  exact lp22135 n22155 0 (by omega) (by omega) (fun j hj => absurd (show (j : Int) < (0 : Int32).toInt from hj) (by have : (0 : Int32).toInt = 0 := rfl; omega)) n22155a n22155b
def wo_j191_X12_fillsMatches : List Cond := [Cond.methodLink RX12 357 yX12_fillsFar, Cond.instanceMethod yX12_fillsFar, Cond.selects RX12 yX12_fillsFar yX12_fillsFar, Cond.initialized RX12, Cond.fieldLink RX12 366 "WarpDeskModel" "matchMany" "I", Cond.fieldLink RX12 91 "WarpDeskModel" "farBy" "[I", Cond.methodLink RX12 369 yX12_isApart, Cond.instanceMethod yX12_isApart, Cond.selects RX12 yX12_isApart yX12_isApart, Cond.fieldLink RX12 97 "WarpDeskModel" "matchAt" "[I"]
def wz_j191_X12_fillsMatches : List Cond := .code yX12_fillsMatches cX12_fillsMatches 4 none :: (wo_j191_X12_fillsMatches ++ (wsX120 ++ (wz_j186_X12_fillsFar ++ (wz_j192_X12_isApart ++ ([] : List Cond)))))
theorem zg_j191_X12_fillsMatches : ∀ w ∈ wz_j191_X12_fillsMatches, goodWord w = true := zg_cons rfl (zg_app (by decide +kernel) (zg_app zgU_wsX120 (zg_app zg_j186_X12_fillsFar (zg_app zg_j192_X12_isApart zg_nil))))
theorem zi_j191_X12_fillsMatches : ∀ w ∈ wz_j191_X12_fillsMatches, w ∈ lw_tbl := zi_cons zw_1871 (zi_app (zi_cons zw_1844 (zi_cons zw_1846 (zi_cons zw_93 (zi_cons zw_115 (zi_cons zw_1428 (zi_cons zw_1426 (zi_cons zw_1872 (zi_cons zw_1874 (zi_cons zw_97 (zi_cons zw_1429 zi_nil)))))))))) (zi_app inX12 (zi_app zi_j186_X12_fillsFar (zi_app zi_j192_X12_isApart zi_nil))))
set_option maxHeartbeats 4000000 in
set_option maxRecDepth 100000 in
theorem j191_X12_fillsMatches (l : Launch) (D : va_G) (zt : Nat × Nat × Nat × (Nat → Nat) × (Nat → Nat)) (r : Nat → Nat) (g : Nat → ClassId) (I : Nat → Int32) (A : Nat → Nat → Int32) (L : Nat → Nat → Int64) (z1 : Int32) (hIv : IvM I A) (hp0 : 0 ≤ z1.toInt) (hp1 : z1.toInt ≤ 4) : GM l D zt (tyM g) yX12_fillsMatches wz_j191_X12_fillsMatches ({ frames := 7, cells := 0, slots := 0, locals := 156 } : Room) [.ref (r 0), .int z1] (wM r g I A L) (fun v _ w' => ∃ (I' : Nat → Int32) (A' : Nat → Nat → Int32) (L' : Nat → Nat → Int64), Md [18, 19, 20, 24] I I' ∧ Md [18, 19, 20, 21, 24, 26] A A' ∧ IvM I' A' ∧ v = none ∧ w' = wM r g I' A' L') 0 0 := by
  refine GM.of (cc := cX12_fillsMatches) (maxL := 4) (ret := none) (own := RX12) (lv := [(0, .ref (r 0)), (1, .int z1)]) (by decide) rfl rfl (Nat.le_of_ble_eq_true rfl) rfl (fun κ sz hk hR hN => ?_)
  have hin12 : ∀ w ∈ u_ws RX12 TX12 55, w ∈ wz_j191_X12_fillsMatches := fun w h => (List.mem_cons_of_mem _ (List.mem_append_right _ (List.mem_append_left _ h)))
  refine g_aload_n hk dX12_fillsMatches_0 rfl ?_
  refine g_iload_n hk dX12_fillsMatches_1 rfl ?_
  refine g_callV (n := 1) hk (j186_X12_fillsFar l D zt r g I A L z1 hIv (by omega) (by omega)) (SP.same _) (fun _ h => h) (gi_V (List.mem_cons_of_mem _ (List.mem_append_left _ (List.mem_of_getElem? (i := 0) rfl))) (List.mem_cons_of_mem _ (List.mem_append_left _ (List.mem_of_getElem? (i := 1) rfl))) (List.mem_cons_of_mem _ (List.mem_append_left _ (List.mem_of_getElem? (i := 2) rfl))) (List.mem_cons_of_mem _ (List.mem_append_left _ (List.mem_of_getElem? (i := 3) rfl))) (gi_sub (fun w h => (List.mem_cons_of_mem _ (List.mem_append_right _ (List.mem_append_right _ (List.mem_append_left _ h))))) zg_j186_X12_fillsFar)) rfl rfl rfl (by decide +kernel) ⟨Nat.le_of_ble_eq_true rfl, Nat.le_of_ble_eq_true rfl⟩ 0 rfl rfl rfl rfl (Nat.le_of_ble_eq_true rfl) ⟨Nat.le_of_ble_eq_true rfl, Nat.le_of_ble_eq_true rfl⟩ dX12_fillsMatches_2 (fun v ty' w' hp hk' => ?_)
  obtain ⟨I22055, A22055, L22055, hI22055, hA22055, hV22055, r22056, rfl, rfl⟩ := hp
  show GW κ 4 0 0 (wM r g I22055 A22055 L22055) 5 [(0, .ref (r 0)), (1, .int z1)] []
  refine g_aload_n hk dX12_fillsMatches_5 rfl ?_
  refine g_iconst (v := 0) hk dX12_fillsMatches_6 (by decide) ?_
  refine pM_i24 hk hin12 (List.mem_cons_of_mem _ (List.mem_append_left _ (List.mem_of_getElem? (i := 4) rfl))) dX12_fillsMatches_7 ?_
  refine g_iconst (v := 0) hk dX12_fillsMatches_10 (by decide) ?_
  refine g_istore_n (lv' := [(2, .int 0), (0, .ref (r 0)), (1, .int z1)]) hk dX12_fillsMatches_11 (by decide) rfl ?_
  have lp22380 : ∀ (n22381 : Nat) (x22057 : Int32) (I22060 : Nat → Int32) (A22060 : Nat → Nat → Int32) (L22060 : Nat → Nat → Int64), (Md [24] (upd I22055 24 0) I22060) → (Md [26] A22055 A22060) → (IvM I22060 A22060) → (0 ≤ x22057.toInt) → (x22057.toInt ≤ 159) → (∀ i j : Nat, i < j → (j : Int) < (I22060 24).toInt → (A22060 26 i).toInt ≠ (A22060 26 j).toInt) → (161 - (I22060 24).toInt < (n22381 : Int)) → (0 < n22381) → GW κ 4 0 0 (wM r g I22060 A22060 L22060) 12 [(2, .int x22057), (0, .ref (r 0)), (1, .int z1)] [] := by
    intro n22381
    induction n22381 with
    | zero =>
      intro x22057 I22060 A22060 L22060 hI22060 hA22060 hV22060 h22377 h22378 hP22379 m22382 m22382z
      exact absurd m22382z (Nat.lt_irrefl 0)
    | succ n22381 ih22383 =>
      intro x22057 I22060 A22060 L22060 hI22060 hA22060 hV22060 h22377 h22378 hP22379 m22382 m22382z
      have f22384 := IvM_f24 hV22060
      refine g_iload_n hk dX12_fillsMatches_12 rfl ?_
      refine g_if_lt (tgt := 99) (a := x22057.toInt) hk dX12_fillsMatches_13 (by decide) rfl (fun z9 => absurd z9 (show ¬ (x22057.toInt < 0) from by omega)) (fun _ => ?_)
      refine g_iconst (v := (-1)) hk dX12_fillsMatches_16 (by decide) ?_
      refine g_istore_n (lv' := [(2, .int (-1)), (0, .ref (r 0)), (1, .int z1)]) hk dX12_fillsMatches_17 (by decide) rfl ?_
      refine g_iconst (v := 0) hk dX12_fillsMatches_18 (by decide) ?_
      refine g_istore_n (lv' := [(3, .int 0), (2, .int (-1)), (0, .ref (r 0)), (1, .int z1)]) hk dX12_fillsMatches_19 (by decide) rfl ?_
      have lp22470 : ∀ (n22471 : Nat) (x22385 : Int32) (x22386 : Int32), (0 ≤ x22385.toInt) → (x22385.toInt ≤ 160) → ((-1) ≤ x22386.toInt) → (x22386.toInt ≤ 159) → (0 ≤ x22386.toInt → ∀ j : Nat, (j : Int) < (I22060 24).toInt → (A22060 26 j).toInt ≠ x22386.toInt) → (161 - x22385.toInt < (n22471 : Int)) → (0 < n22471) → GW κ 4 0 0 (wM r g I22060 A22060 L22060) 20 [(3, .int x22385), (2, .int x22386), (0, .ref (r 0)), (1, .int z1)] [] := by
        intro n22471
        induction n22471 with
        | zero =>
          intro x22385 x22386 h22465 h22466 h22467 h22468 hP22469 m22472 m22472z
          exact absurd m22472z (Nat.lt_irrefl 0)
        | succ n22471 ih22473 =>
          intro x22385 x22386 h22465 h22466 h22467 h22468 hP22469 m22472 m22472z
          refine g_iload_n hk dX12_fillsMatches_20 rfl ?_
          refine g_sipush (v := 160) hk dX12_fillsMatches_21 (by decide) ?_
          refine g_icmp_ge (tgt := 71) (a := x22385.toInt) (b := 160) hk dX12_fillsMatches_24 (by decide) rfl rfl (fun c22474 => ?_) (fun c22474 => ?_)
          · skip
            refine g_iload_n hk dX12_fillsMatches_71 rfl ?_
            refine g_if_ge (tgt := 76) (a := x22386.toInt) hk dX12_fillsMatches_72 (by decide) rfl (fun c22475 => ?_) (fun c22475 => ?_)
            · skip
              refine g_aload_n hk dX12_fillsMatches_76 rfl ?_
              refine gM_r0_51 hk hin12 (List.mem_cons_of_mem _ (List.mem_append_left _ (List.mem_of_getElem? (i := 9) rfl))) dX12_fillsMatches_77 ?_
              refine g_aload_n hk dX12_fillsMatches_80 rfl ?_
              refine gM_i24 (v := (I22060 24)) hk hin12 (List.mem_cons_of_mem _ (List.mem_append_left _ (List.mem_of_getElem? (i := 4) rfl))) dX12_fillsMatches_81 rfl ?_
              refine g_iload_n hk dX12_fillsMatches_84 rfl ?_
              have g22476 : (I22060 24).toInt ≤ 159 := pg_lt (b := x22386) ⟨by omega, by omega⟩ (IvM_a26 (I := I22060) (A := A22060) hV22060) hP22379 (hP22469 (by omega)) (by omega) (by omega)
              refine sM_26 (j := (I22060 24).toNatClampNeg) hk (vp_in_iff.mpr ⟨by omega, by omega⟩) rfl dX12_fillsMatches_85 ?_
              have hA22477 : ∀ j, 0 ≤ ((up3 A22060 26 ((I22060 24).toNatClampNeg) x22386) 26 j).toInt ∧ ((up3 A22060 26 ((I22060 24).toNatClampNeg) x22386) 26 j).toInt ≤ 159 := ai_st ((IvM_a26 hV22060)) ⟨by omega, by omega⟩
              refine g_aload_n hk dX12_fillsMatches_86 rfl ?_
              refine g_dup hk dX12_fillsMatches_87 rfl ?_
              refine gM_i24 (v := (I22060 24)) hk hin12 (List.mem_cons_of_mem _ (List.mem_append_left _ (List.mem_of_getElem? (i := 4) rfl))) dX12_fillsMatches_88 rfl ?_
              refine g_iconst (v := 1) hk dX12_fillsMatches_91 (by decide) ?_
              refine g_iadd hk dX12_fillsMatches_92 ?_
              refine g_topi (fun y22478 ey22478 => ?_)
              have hy22478 : y22478.toInt = (I22060 24).toInt + 1 := i32_add ey22478 rfl rfl (by omega) (by omega)
              refine pM_i24 hk hin12 (List.mem_cons_of_mem _ (List.mem_append_left _ (List.mem_of_getElem? (i := 4) rfl))) dX12_fillsMatches_93 ?_
              refine g_goto (tgt := 12) hk dX12_fillsMatches_96 (by decide) ?_
              exact g_lv (List.forall_mem_cons.mpr ⟨List.mem_of_getElem? (i := 1) rfl, (List.forall_mem_cons.mpr ⟨List.mem_of_getElem? (i := 2) rfl, (List.forall_mem_cons.mpr ⟨List.mem_of_getElem? (i := 3) rfl, (fun _ h => absurd h List.not_mem_nil)⟩)⟩)⟩) (ih22383 x22386 (upd I22060 24 y22478) (up3 A22060 26 ((I22060 24).toNatClampNeg) x22386) L22060 (show Md [24] (upd I22055 24 0) (upd I22060 24 y22478) from Md.tr hI22060 (show Md [24] I22060 (upd I22060 24 y22478) from (Md.up Md.rf rfl)) rfl) (show Md [26] A22055 (up3 A22060 26 ((I22060 24).toNatClampNeg) x22386) from Md.tr hA22060 (show Md [26] A22060 (up3 A22060 26 ((I22060 24).toNatClampNeg) x22386) from (Md.up3 Md.rf rfl)) rfl) ⟨(IvM_f1 (I := I22060) (A := A22060) hV22060), (IvM_f2 (I := I22060) (A := A22060) hV22060), (IvM_f3 (I := I22060) (A := A22060) hV22060), (IvM_f4 (I := I22060) (A := A22060) hV22060), (IvM_f6 (I := I22060) (A := A22060) hV22060), (IvM_f8 (I := I22060) (A := A22060) hV22060), (IvM_f15 (I := I22060) (A := A22060) hV22060), (IvM_f16 (I := I22060) (A := A22060) hV22060), (IvM_f17 (I := I22060) (A := A22060) hV22060), (IvM_f18 (I := I22060) (A := A22060) hV22060), (IvM_f22 (I := I22060) (A := A22060) hV22060), (IvM_f23 (I := I22060) (A := A22060) hV22060), (show 0 ≤ y22478.toInt ∧ y22478.toInt ≤ 160 from ⟨by omega, by omega⟩), (IvM_a11 (I := I22060) (A := A22060) hV22060), hA22477, (IvM_s8_0 (I := I22060) (A := A22060) hV22060), (IvM_s8_1 (I := I22060) (A := A22060) hV22060), (IvM_s10_0 (I := I22060) (A := A22060) hV22060), (IvM_s10_1 (I := I22060) (A := A22060) hV22060), (IvM_s17_0 (I := I22060) (A := A22060) hV22060), (IvM_s17_164 (I := I22060) (A := A22060) hV22060), (IvM_lv (I := I22060) (A := A22060) hV22060), (IvM_sd (I := I22060) (A := A22060) hV22060), (IvM_nq (I := I22060) (A := A22060) hV22060), (IvM_hr (I := I22060) (A := A22060) hV22060), (IvM_hh (I := I22060) (A := A22060) hV22060), trivial⟩ (by omega) (by omega) (di_st (m := (I22060 24)) (m2 := y22478) (b := x22386) (by omega) (by omega) hP22379 (hP22469 (by omega))) (by first | (rw [show ((upd I22060 24 y22478) 24) = y22478 from rfl] <;> omega) | omega) (by omega))
            · skip
              exact g_vret hk hR ⟨I22060, A22060, L22060, (show Md [18, 19, 20, 24] I I22060 from (Md.tr (Md.up (Md.tr Md.rf hI22055 rfl) rfl) hI22060 rfl)), (show Md [18, 19, 20, 21, 24, 26] A A22060 from (Md.tr (Md.tr Md.rf hA22055 rfl) hA22060 rfl)), hV22060, rfl, rfl⟩ dX12_fillsMatches_75
          · skip
            refine g_aload_n hk dX12_fillsMatches_27 rfl ?_
            refine gM_r0_48 hk hin12 (List.mem_cons_of_mem _ (List.mem_append_left _ (List.mem_of_getElem? (i := 5) rfl))) dX12_fillsMatches_28 ?_
            refine g_iload_n hk dX12_fillsMatches_31 rfl ?_
            refine lM_24 (v := (A22055 24 x22385.toNatClampNeg)) hk (vp_in_iff.mpr ⟨by omega, by omega⟩) (congrFun (hA22060 24 rfl) _) dX12_fillsMatches_32 ?_
            have b22479l := Int32.le_toInt (A22055 24 x22385.toNatClampNeg)
            have b22479h := Int32.toInt_lt (A22055 24 x22385.toNatClampNeg)
            refine g_if_lt (tgt := 65) (a := (A22055 24 x22385.toNatClampNeg).toInt) hk dX12_fillsMatches_33 (by decide) rfl (fun c22480 => ?_) (fun c22480 => ?_)
            · skip
              obtain ⟨y22481, ey22481⟩ : ∃ y : Int32, y = x22385 + Int32.ofInt 1 := ⟨_, rfl⟩
              have hy22481 : y22481.toInt = x22385.toInt + 1 := i32_add ey22481 rfl (by decide) (by omega) (by omega)
              refine g_iinc (v := y22481) (lv' := [(3, .int y22481), (2, .int x22386), (0, .ref (r 0)), (1, .int z1)]) hk 0 dX12_fillsMatches_65 rfl ey22481.symm (by decide) rfl ?_
              refine g_goto (tgt := 20) hk dX12_fillsMatches_68 (by decide) ?_
              exact g_lv (List.forall_mem_cons.mpr ⟨List.mem_of_getElem? (i := 0) rfl, (List.forall_mem_cons.mpr ⟨List.mem_of_getElem? (i := 1) rfl, (List.forall_mem_cons.mpr ⟨List.mem_of_getElem? (i := 2) rfl, (List.forall_mem_cons.mpr ⟨List.mem_of_getElem? (i := 3) rfl, (fun _ h => absurd h List.not_mem_nil)⟩)⟩)⟩)⟩) (ih22473 y22481 x22386 (by omega) (by omega) (by omega) (by omega) hP22469 (by omega) (by omega))
            · skip
              refine g_aload_n hk dX12_fillsMatches_36 rfl ?_
              refine g_iload_n hk dX12_fillsMatches_37 rfl ?_
              refine g_callV (n := 1) hk (j192_X12_isApart l D zt r g I22060 A22060 L22060 x22385 hV22060 (by omega) (by omega) (by first | (rw [show (A22060 18 164) = (A22055 18 164) from (congrFun (hA22060 18 rfl) _)] <;> omega) | omega)) (SP.same _) (fun _ h => h) (gi_V (List.mem_cons_of_mem _ (List.mem_append_left _ (List.mem_of_getElem? (i := 6) rfl))) (List.mem_cons_of_mem _ (List.mem_append_left _ (List.mem_of_getElem? (i := 7) rfl))) (List.mem_cons_of_mem _ (List.mem_append_left _ (List.mem_of_getElem? (i := 8) rfl))) (List.mem_cons_of_mem _ (List.mem_append_left _ (List.mem_of_getElem? (i := 3) rfl))) (gi_sub (fun w h => (List.mem_cons_of_mem _ (List.mem_append_right _ (List.mem_append_right _ (List.mem_append_right _ (List.mem_append_left _ h)))))) zg_j192_X12_isApart)) rfl rfl rfl (by decide +kernel) ⟨Nat.le_of_ble_eq_true rfl, Nat.le_of_ble_eq_true rfl⟩ 0 rfl rfl rfl rfl (Nat.le_of_ble_eq_true rfl) ⟨Nat.le_of_ble_eq_true rfl, Nat.le_of_ble_eq_true rfl⟩ dX12_fillsMatches_38 (fun v ty' w' hp hk' => ?_)
              rcases hp with ⟨rfl, rfl⟩ | ⟨c22483, rfl, rfl⟩
              · skip
                show GW κ 4 0 0 (wM r g I22060 A22060 L22060) 41 [(3, .int x22385), (2, .int x22386), (0, .ref (r 0)), (1, .int z1)] [.int 0]
                refine g_if_eq (tgt := 65) (a := 0) hk dX12_fillsMatches_41 (by decide) rfl (fun _ => ?_) (fun z9 => absurd (show (0 : Int) = (0 : Int) from by decide) z9)
                obtain ⟨y22485, ey22485⟩ : ∃ y : Int32, y = x22385 + Int32.ofInt 1 := ⟨_, rfl⟩
                have hy22485 : y22485.toInt = x22385.toInt + 1 := i32_add ey22485 rfl (by decide) (by omega) (by omega)
                refine g_iinc (v := y22485) (lv' := [(3, .int y22485), (2, .int x22386), (0, .ref (r 0)), (1, .int z1)]) hk 0 dX12_fillsMatches_65 rfl ey22485.symm (by decide) rfl ?_
                refine g_goto (tgt := 20) hk dX12_fillsMatches_68 (by decide) ?_
                exact g_lv (List.forall_mem_cons.mpr ⟨List.mem_of_getElem? (i := 0) rfl, (List.forall_mem_cons.mpr ⟨List.mem_of_getElem? (i := 1) rfl, (List.forall_mem_cons.mpr ⟨List.mem_of_getElem? (i := 2) rfl, (List.forall_mem_cons.mpr ⟨List.mem_of_getElem? (i := 3) rfl, (fun _ h => absurd h List.not_mem_nil)⟩)⟩)⟩)⟩) (ih22473 y22485 x22386 (by omega) (by omega) (by omega) (by omega) hP22469 (by omega) (by omega))
              · skip
                show GW κ 4 0 0 (wM r g I22060 A22060 L22060) 41 [(3, .int x22385), (2, .int x22386), (0, .ref (r 0)), (1, .int z1)] [.int 1]
                refine g_if_eq (tgt := 65) (a := 1) hk dX12_fillsMatches_41 (by decide) rfl (fun z9 => absurd z9 (show ¬ ((1 : Int) = (0 : Int)) from by decide)) (fun _ => ?_)
                refine g_iload_n hk dX12_fillsMatches_44 rfl ?_
                refine g_if_lt (tgt := 63) (a := x22386.toInt) hk dX12_fillsMatches_45 (by decide) rfl (fun c22486 => ?_) (fun c22486 => ?_)
                · skip
                  refine g_iload_n hk dX12_fillsMatches_63 rfl ?_
                  refine g_istore_n (lv' := [(2, .int x22385), (3, .int x22385), (0, .ref (r 0)), (1, .int z1)]) hk dX12_fillsMatches_64 (by decide) rfl ?_
                  obtain ⟨y22487, ey22487⟩ : ∃ y : Int32, y = x22385 + Int32.ofInt 1 := ⟨_, rfl⟩
                  have hy22487 : y22487.toInt = x22385.toInt + 1 := i32_add ey22487 rfl (by decide) (by omega) (by omega)
                  refine g_iinc (v := y22487) (lv' := [(3, .int y22487), (2, .int x22385), (0, .ref (r 0)), (1, .int z1)]) hk 1 dX12_fillsMatches_65 rfl ey22487.symm (by decide) rfl ?_
                  refine g_goto (tgt := 20) hk dX12_fillsMatches_68 (by decide) ?_
                  exact g_lv (List.forall_mem_cons.mpr ⟨List.mem_of_getElem? (i := 0) rfl, (List.forall_mem_cons.mpr ⟨List.mem_of_getElem? (i := 1) rfl, (List.forall_mem_cons.mpr ⟨List.mem_of_getElem? (i := 2) rfl, (List.forall_mem_cons.mpr ⟨List.mem_of_getElem? (i := 3) rfl, (fun _ h => absurd h List.not_mem_nil)⟩)⟩)⟩)⟩) (ih22473 y22487 x22385 (by omega) (by omega) (by omega) (by omega) (fun _ => c22483) (by omega) (by omega))
                · skip
                  refine g_aload_n hk dX12_fillsMatches_48 rfl ?_
                  refine gM_r0_48 hk hin12 (List.mem_cons_of_mem _ (List.mem_append_left _ (List.mem_of_getElem? (i := 5) rfl))) dX12_fillsMatches_49 ?_
                  refine g_iload_n hk dX12_fillsMatches_52 rfl ?_
                  refine lM_24 (v := (A22055 24 x22385.toNatClampNeg)) hk (vp_in_iff.mpr ⟨by omega, by omega⟩) (congrFun (hA22060 24 rfl) _) dX12_fillsMatches_53 ?_
                  refine g_aload_n hk dX12_fillsMatches_54 rfl ?_
                  refine gM_r0_48 hk hin12 (List.mem_cons_of_mem _ (List.mem_append_left _ (List.mem_of_getElem? (i := 5) rfl))) dX12_fillsMatches_55 ?_
                  refine g_iload_n hk dX12_fillsMatches_58 rfl ?_
                  refine lM_24 (v := (A22055 24 x22386.toNatClampNeg)) hk (vp_in_iff.mpr ⟨by omega, by omega⟩) (congrFun (hA22060 24 rfl) _) dX12_fillsMatches_59 ?_
                  have b22488l := Int32.le_toInt (A22055 24 x22386.toNatClampNeg)
                  have b22488h := Int32.toInt_lt (A22055 24 x22386.toNatClampNeg)
                  refine g_icmp_ge (tgt := 65) (a := (A22055 24 x22385.toNatClampNeg).toInt) (b := (A22055 24 x22386.toNatClampNeg).toInt) hk dX12_fillsMatches_60 (by decide) rfl rfl (fun c22489 => ?_) (fun c22489 => ?_)
                  · skip
                    obtain ⟨y22490, ey22490⟩ : ∃ y : Int32, y = x22385 + Int32.ofInt 1 := ⟨_, rfl⟩
                    have hy22490 : y22490.toInt = x22385.toInt + 1 := i32_add ey22490 rfl (by decide) (by omega) (by omega)
                    refine g_iinc (v := y22490) (lv' := [(3, .int y22490), (2, .int x22386), (0, .ref (r 0)), (1, .int z1)]) hk 0 dX12_fillsMatches_65 rfl ey22490.symm (by decide) rfl ?_
                    refine g_goto (tgt := 20) hk dX12_fillsMatches_68 (by decide) ?_
                    exact g_lv (List.forall_mem_cons.mpr ⟨List.mem_of_getElem? (i := 0) rfl, (List.forall_mem_cons.mpr ⟨List.mem_of_getElem? (i := 1) rfl, (List.forall_mem_cons.mpr ⟨List.mem_of_getElem? (i := 2) rfl, (List.forall_mem_cons.mpr ⟨List.mem_of_getElem? (i := 3) rfl, (fun _ h => absurd h List.not_mem_nil)⟩)⟩)⟩)⟩) (ih22473 y22490 x22386 (by omega) (by omega) (by omega) (by omega) hP22469 (by omega) (by omega))
                  · skip
                    refine g_iload_n hk dX12_fillsMatches_63 rfl ?_
                    refine g_istore_n (lv' := [(2, .int x22385), (3, .int x22385), (0, .ref (r 0)), (1, .int z1)]) hk dX12_fillsMatches_64 (by decide) rfl ?_
                    obtain ⟨y22491, ey22491⟩ : ∃ y : Int32, y = x22385 + Int32.ofInt 1 := ⟨_, rfl⟩
                    have hy22491 : y22491.toInt = x22385.toInt + 1 := i32_add ey22491 rfl (by decide) (by omega) (by omega)
                    refine g_iinc (v := y22491) (lv' := [(3, .int y22491), (2, .int x22385), (0, .ref (r 0)), (1, .int z1)]) hk 1 dX12_fillsMatches_65 rfl ey22491.symm (by decide) rfl ?_
                    refine g_goto (tgt := 20) hk dX12_fillsMatches_68 (by decide) ?_
                    exact g_lv (List.forall_mem_cons.mpr ⟨List.mem_of_getElem? (i := 0) rfl, (List.forall_mem_cons.mpr ⟨List.mem_of_getElem? (i := 1) rfl, (List.forall_mem_cons.mpr ⟨List.mem_of_getElem? (i := 2) rfl, (List.forall_mem_cons.mpr ⟨List.mem_of_getElem? (i := 3) rfl, (fun _ h => absurd h List.not_mem_nil)⟩)⟩)⟩)⟩) (ih22473 y22491 x22385 (by omega) (by omega) (by omega) (by omega) (fun _ => c22483) (by omega) (by omega))
      have k22492 : (0 : Int32).toInt = 0 := rfl
      have k22493 : ((-1) : Int32).toInt = (-1) := rfl
      obtain ⟨n22494, n22494a, n22494b⟩ : ∃ n : Nat, 161 - (0 : Int32).toInt < (n : Int) ∧ 0 < n := ⟨((161 - (0 : Int32).toInt : Int)).toNat + 1, by omega, by omega⟩
      exact lp22470 n22494 0 (-1) (by omega) (by omega) (by omega) (by omega) (fun h => absurd (show 0 ≤ (-1 : Int32).toInt from h) (by decide)) n22494a n22494b
  have k22495 : (0 : Int32).toInt = 0 := rfl
  obtain ⟨n22496, n22496a, n22496b⟩ : ∃ n : Nat, 161 - (0 : Int32).toInt < (n : Int) ∧ 0 < n := ⟨((161 - (0 : Int32).toInt : Int)).toNat + 1, by omega, by omega⟩
  exact lp22380 n22496 0 (upd I22055 24 0) A22055 L22055 Md.rf Md.rf ⟨(IvM_f1 (I := I22055) (A := A22055) hV22055), (IvM_f2 (I := I22055) (A := A22055) hV22055), (IvM_f3 (I := I22055) (A := A22055) hV22055), (IvM_f4 (I := I22055) (A := A22055) hV22055), (IvM_f6 (I := I22055) (A := A22055) hV22055), (IvM_f8 (I := I22055) (A := A22055) hV22055), (IvM_f15 (I := I22055) (A := A22055) hV22055), (IvM_f16 (I := I22055) (A := A22055) hV22055), (IvM_f17 (I := I22055) (A := A22055) hV22055), (IvM_f18 (I := I22055) (A := A22055) hV22055), (IvM_f22 (I := I22055) (A := A22055) hV22055), (IvM_f23 (I := I22055) (A := A22055) hV22055), (show 0 ≤ (0 : Int32).toInt ∧ (0 : Int32).toInt ≤ 160 from ⟨by decide, by decide⟩), (IvM_a11 (I := I22055) (A := A22055) hV22055), (IvM_a26 (I := I22055) (A := A22055) hV22055), (IvM_s8_0 (I := I22055) (A := A22055) hV22055), (IvM_s8_1 (I := I22055) (A := A22055) hV22055), (IvM_s10_0 (I := I22055) (A := A22055) hV22055), (IvM_s10_1 (I := I22055) (A := A22055) hV22055), (IvM_s17_0 (I := I22055) (A := A22055) hV22055), (IvM_s17_164 (I := I22055) (A := A22055) hV22055), (IvM_lv (I := I22055) (A := A22055) hV22055), (IvM_sd (I := I22055) (A := A22055) hV22055), (IvM_nq (I := I22055) (A := A22055) hV22055), (IvM_hr (I := I22055) (A := A22055) hV22055), (IvM_hh (I := I22055) (A := A22055) hV22055), trivial⟩ (by omega) (by omega) (fun i j _ hj => absurd (show (j : Int) < (0 : Int32).toInt from hj) (by have : (0 : Int32).toInt = 0 := rfl; omega)) (by first | exact n22496a | (rw [show ((upd I22055 24 0) 24) = (0 : Int32) from rfl] <;> exact n22496a)) n22496b
def wo_j190_X12_match : List Cond := [Cond.methodLink RX12 251 yX12_isQuery, Cond.instanceMethod yX12_isQuery, Cond.selects RX12 yX12_isQuery yX12_isQuery, Cond.initialized RX12, Cond.methodLink RX12 244 yX12_in, Cond.static yX12_in, Cond.methodLink RX12 372 yX12_fillsMatches, Cond.instanceMethod yX12_fillsMatches, Cond.selects RX12 yX12_fillsMatches yX12_fillsMatches, Cond.fieldLink RX12 366 "WarpDeskModel" "matchMany" "I", Cond.fieldLink RX12 91 "WarpDeskModel" "farBy" "[I", Cond.fieldLink RX12 97 "WarpDeskModel" "matchAt" "[I"]
def wz_j190_X12_match : List Cond := .code yX12_match cX12_match 4 (some .int) :: (wo_j190_X12_match ++ (wsX120 ++ (wz_j147_X12_isQuery ++ (wz_j145_X12_in ++ (wz_j191_X12_fillsMatches ++ ([] : List Cond))))))
theorem zg_j190_X12_match : ∀ w ∈ wz_j190_X12_match, goodWord w = true := zg_cons rfl (zg_app (by decide +kernel) (zg_app zgU_wsX120 (zg_app zg_j147_X12_isQuery (zg_app zg_j145_X12_in (zg_app zg_j191_X12_fillsMatches zg_nil)))))
theorem zi_j190_X12_match : ∀ w ∈ wz_j190_X12_match, w ∈ lw_tbl := zi_cons zw_1867 (zi_app (zi_cons zw_1663 (zi_cons zw_1665 (zi_cons zw_67 (zi_cons zw_115 (zi_cons zw_1656 (zi_cons zw_1657 (zi_cons zw_1868 (zi_cons zw_1870 (zi_cons zw_96 (zi_cons zw_1428 (zi_cons zw_1426 (zi_cons zw_1429 zi_nil)))))))))))) (zi_app inX12 (zi_app zi_j147_X12_isQuery (zi_app zi_j145_X12_in (zi_app zi_j191_X12_fillsMatches zi_nil)))))
set_option maxHeartbeats 4000000 in
set_option maxRecDepth 100000 in
theorem j190_X12_match (l : Launch) (D : va_G) (zt : Nat × Nat × Nat × (Nat → Nat) × (Nat → Nat)) (r : Nat → Nat) (g : Nat → ClassId) (I : Nat → Int32) (A : Nat → Nat → Int32) (L : Nat → Nat → Int64) (z1 : Int32) (z2 : Int32) (z3 : Int32) (hIv : IvM I A) : GM l D zt (tyM g) yX12_match wz_j190_X12_match ({ frames := 8, cells := 0, slots := 0, locals := 179 } : Room) [.ref (r 0), .int z1, .int z2, .int z3] (wM r g I A L) (fun v _ w' => ∃ (I' : Nat → Int32) (A' : Nat → Nat → Int32) (L' : Nat → Nat → Int64), Md [18, 19, 20, 24] I I' ∧ Md [18, 19, 20, 21, 24, 26] A A' ∧ IvM I' A' ∧ ∃ y0 : Int32, v = some (.int y0) ∧ w' = wM r g I' A' L') 0 0 := by
  refine GM.of (cc := cX12_match) (maxL := 4) (ret := (some .int)) (own := RX12) (lv := [(0, .ref (r 0)), (1, .int z1), (2, .int z2), (3, .int z3)]) (by decide) rfl rfl (Nat.le_of_ble_eq_true rfl) rfl (fun κ sz hk hR hN => ?_)
  have hin12 : ∀ w ∈ u_ws RX12 TX12 55, w ∈ wz_j190_X12_match := fun w h => (List.mem_cons_of_mem _ (List.mem_append_right _ (List.mem_append_left _ h)))
  refine g_aload_n hk dX12_match_0 rfl ?_
  refine g_iload_n hk dX12_match_1 rfl ?_
  refine g_callV (n := 1) hk (j147_X12_isQuery l D zt r g I A L z1 hIv) (SP.same _) (fun _ h => h) (gi_V (List.mem_cons_of_mem _ (List.mem_append_left _ (List.mem_of_getElem? (i := 0) rfl))) (List.mem_cons_of_mem _ (List.mem_append_left _ (List.mem_of_getElem? (i := 1) rfl))) (List.mem_cons_of_mem _ (List.mem_append_left _ (List.mem_of_getElem? (i := 2) rfl))) (List.mem_cons_of_mem _ (List.mem_append_left _ (List.mem_of_getElem? (i := 3) rfl))) (gi_sub (fun w h => (List.mem_cons_of_mem _ (List.mem_append_right _ (List.mem_append_right _ (List.mem_append_left _ h))))) zg_j147_X12_isQuery)) rfl rfl rfl (by decide +kernel) ⟨Nat.le_of_ble_eq_true rfl, Nat.le_of_ble_eq_true rfl⟩ 0 rfl rfl rfl rfl (Nat.le_of_ble_eq_true rfl) ⟨Nat.le_of_ble_eq_true rfl, Nat.le_of_ble_eq_true rfl⟩ dX12_match_2 (fun v ty' w' hp hk' => ?_)
  rcases hp with ⟨rfl, rfl⟩ | ⟨c22038, c22039, c22040, c22041, rfl, rfl⟩
  · skip
    show GW κ 4 0 0 (wM r g I A L) 5 [(0, .ref (r 0)), (1, .int z1), (2, .int z2), (3, .int z3)] [.int 0]
    refine g_if_eq (tgt := 21) (a := 0) hk dX12_match_5 (by decide) rfl (fun _ => ?_) (fun z9 => absurd (show (0 : Int) = (0 : Int) from by decide) z9)
    refine g_iconst (v := (-1)) hk dX12_match_21 (by decide) ?_
    exact g_iret hk hR rfl ⟨I, A, L, (show Md [18, 19, 20, 24] I I from Md.rf), (show Md [18, 19, 20, 21, 24, 26] A A from Md.rf), hIv, (-1), rfl, rfl⟩ dX12_match_22
  · skip
    have f22043 : 0 ≤ (A 11 (5 * (I 15) + z1).toNatClampNeg).toInt ∧ (A 11 (5 * (I 15) + z1).toNatClampNeg).toInt ≤ 16 := IvM_a11 hIv _
    show GW κ 4 0 0 (wM r g I A L) 5 [(0, .ref (r 0)), (1, .int z1), (2, .int z2), (3, .int z3)] [.int 1]
    refine g_if_eq (tgt := 21) (a := 1) hk dX12_match_5 (by decide) rfl (fun z9 => absurd z9 (show ¬ ((1 : Int) = (0 : Int)) from by decide)) (fun _ => ?_)
    refine g_iload_n hk dX12_match_8 rfl ?_
    have b22044l := Int32.le_toInt z2
    have b22044h := Int32.toInt_lt z2
    refine g_if_lt (tgt := 21) (a := z2.toInt) hk dX12_match_9 (by decide) rfl (fun c22045 => ?_) (fun c22045 => ?_)
    · skip
      refine g_iconst (v := (-1)) hk dX12_match_21 (by decide) ?_
      exact g_iret hk hR rfl ⟨I, A, L, (show Md [18, 19, 20, 24] I I from Md.rf), (show Md [18, 19, 20, 21, 24, 26] A A from Md.rf), hIv, (-1), rfl, rfl⟩ dX12_match_22
    · skip
      refine g_iload_n hk dX12_match_12 rfl ?_
      refine g_iconst (v := 0) hk dX12_match_13 (by decide) ?_
      refine g_iconst (v := 1) hk dX12_match_14 (by decide) ?_
      have k22046 : (0 : Int32).toInt = 0 := rfl
      have k22047 : (1 : Int32).toInt = 1 := rfl
      refine g_callS (n := 3) hk (j145_X12_in l D zt r g I A L z3 0 1 hIv) (SP.same _) (fun _ h => h) (gi_S (List.mem_cons_of_mem _ (List.mem_append_left _ (List.mem_of_getElem? (i := 4) rfl))) (List.mem_cons_of_mem _ (List.mem_append_left _ (List.mem_of_getElem? (i := 5) rfl))) (List.mem_cons_of_mem _ (List.mem_append_left _ (List.mem_of_getElem? (i := 3) rfl))) (gi_sub (fun w h => (List.mem_cons_of_mem _ (List.mem_append_right _ (List.mem_append_right _ (List.mem_append_right _ (List.mem_append_left _ h)))))) zg_j145_X12_in)) rfl rfl rfl (by decide +kernel) ⟨Nat.le_of_ble_eq_true rfl, Nat.le_of_ble_eq_true rfl⟩ rfl rfl (Nat.le_of_ble_eq_true rfl) ⟨Nat.le_of_ble_eq_true rfl, Nat.le_of_ble_eq_true rfl⟩ dX12_match_15 (fun v ty' w' hp hk' => ?_)
      rcases hp with ⟨c22048, rfl, rfl⟩ | ⟨c22050, c22051, rfl, rfl⟩
      · skip
        have b22053l := Int32.le_toInt z3
        have b22053h := Int32.toInt_lt z3
        show GW κ 4 0 0 (wM r g I A L) 18 [(0, .ref (r 0)), (1, .int z1), (2, .int z2), (3, .int z3)] [.int 0]
        refine g_if_ne (tgt := 23) (a := 0) hk dX12_match_18 (by decide) rfl (fun z9 => absurd z9 (show ¬ ((0 : Int) ≠ (0 : Int)) from by decide)) (fun _ => ?_)
        refine g_iconst (v := (-1)) hk dX12_match_21 (by decide) ?_
        exact g_iret hk hR rfl ⟨I, A, L, (show Md [18, 19, 20, 24] I I from Md.rf), (show Md [18, 19, 20, 21, 24, 26] A A from Md.rf), hIv, (-1), rfl, rfl⟩ dX12_match_22
      · skip
        show GW κ 4 0 0 (wM r g I A L) 18 [(0, .ref (r 0)), (1, .int z1), (2, .int z2), (3, .int z3)] [.int 1]
        refine g_if_ne (tgt := 23) (a := 1) hk dX12_match_18 (by decide) rfl (fun _ => ?_) (fun z9 => absurd (show (1 : Int) ≠ (0 : Int) from by decide) z9)
        refine g_aload_n hk dX12_match_23 rfl ?_
        refine g_iload_n hk dX12_match_24 rfl ?_
        refine g_callV (n := 1) hk (j191_X12_fillsMatches l D zt r g I A L z1 hIv (by omega) (by omega)) (SP.same _) (fun _ h => h) (gi_V (List.mem_cons_of_mem _ (List.mem_append_left _ (List.mem_of_getElem? (i := 6) rfl))) (List.mem_cons_of_mem _ (List.mem_append_left _ (List.mem_of_getElem? (i := 7) rfl))) (List.mem_cons_of_mem _ (List.mem_append_left _ (List.mem_of_getElem? (i := 8) rfl))) (List.mem_cons_of_mem _ (List.mem_append_left _ (List.mem_of_getElem? (i := 3) rfl))) (gi_sub (fun w h => (List.mem_cons_of_mem _ (List.mem_append_right _ (List.mem_append_right _ (List.mem_append_right _ (List.mem_append_right _ (List.mem_append_left _ h))))))) zg_j191_X12_fillsMatches)) rfl rfl rfl (by decide +kernel) ⟨Nat.le_of_ble_eq_true rfl, Nat.le_of_ble_eq_true rfl⟩ 0 rfl rfl rfl rfl (Nat.le_of_ble_eq_true rfl) ⟨Nat.le_of_ble_eq_true rfl, Nat.le_of_ble_eq_true rfl⟩ dX12_match_25 (fun v ty' w' hp hk' => ?_)
        obtain ⟨I22498, A22498, L22498, hI22498, hA22498, hV22498, rfl, rfl⟩ := hp
        show GW κ 4 0 0 (wM r g I22498 A22498 L22498) 28 [(0, .ref (r 0)), (1, .int z1), (2, .int z2), (3, .int z3)] []
        refine g_iload_n hk dX12_match_28 rfl ?_
        refine g_aload_n hk dX12_match_29 rfl ?_
        refine gM_i24 (v := (I22498 24)) hk hin12 (List.mem_cons_of_mem _ (List.mem_append_left _ (List.mem_of_getElem? (i := 9) rfl))) dX12_match_30 rfl ?_
        have f22499 := IvM_f24 hV22498
        refine g_icmp_lt (tgt := 39) (a := z2.toInt) (b := (I22498 24).toInt) hk dX12_match_33 (by decide) rfl rfl (fun c22500 => ?_) (fun c22500 => ?_)
        · skip
          refine g_iload_n hk dX12_match_39 rfl ?_
          refine g_if_ne (tgt := 52) (a := z3.toInt) hk dX12_match_40 (by decide) rfl (fun c22501 => ?_) (fun c22501 => ?_)
          · skip
            refine g_aload_n hk dX12_match_52 rfl ?_
            refine gM_r0_48 hk hin12 (List.mem_cons_of_mem _ (List.mem_append_left _ (List.mem_of_getElem? (i := 10) rfl))) dX12_match_53 ?_
            refine g_aload_n hk dX12_match_56 rfl ?_
            refine gM_r0_51 hk hin12 (List.mem_cons_of_mem _ (List.mem_append_left _ (List.mem_of_getElem? (i := 11) rfl))) dX12_match_57 ?_
            refine g_iload_n hk dX12_match_60 rfl ?_
            refine lM_26 (v := (A22498 26 z2.toNatClampNeg)) hk (vp_in_iff.mpr ⟨by omega, by omega⟩) rfl dX12_match_61 ?_
            have f22502 := IvM_a26 hV22498 (z2.toNatClampNeg)
            refine lM_24 (v := (A22498 24 (A22498 26 z2.toNatClampNeg).toNatClampNeg)) hk (vp_in_iff.mpr ⟨by omega, by omega⟩) rfl dX12_match_62 ?_
            have b22503l := Int32.le_toInt (A22498 24 (A22498 26 z2.toNatClampNeg).toNatClampNeg)
            have b22503h := Int32.toInt_lt (A22498 24 (A22498 26 z2.toNatClampNeg).toNatClampNeg)
            exact g_iret hk hR rfl ⟨I22498, A22498, L22498, (show Md [18, 19, 20, 24] I I22498 from (Md.tr Md.rf hI22498 rfl)), (show Md [18, 19, 20, 21, 24, 26] A A22498 from (Md.tr Md.rf hA22498 rfl)), hV22498, (A22498 24 (A22498 26 z2.toNatClampNeg).toNatClampNeg), rfl, rfl⟩ dX12_match_63
          · skip
            refine g_aload_n hk dX12_match_43 rfl ?_
            refine gM_r0_51 hk hin12 (List.mem_cons_of_mem _ (List.mem_append_left _ (List.mem_of_getElem? (i := 11) rfl))) dX12_match_44 ?_
            refine g_iload_n hk dX12_match_47 rfl ?_
            refine lM_26 (v := (A22498 26 z2.toNatClampNeg)) hk (vp_in_iff.mpr ⟨by omega, by omega⟩) rfl dX12_match_48 ?_
            have f22504 := IvM_a26 hV22498 (z2.toNatClampNeg)
            refine g_goto (tgt := 63) hk dX12_match_49 (by decide) ?_
            exact g_iret hk hR rfl ⟨I22498, A22498, L22498, (show Md [18, 19, 20, 24] I I22498 from (Md.tr Md.rf hI22498 rfl)), (show Md [18, 19, 20, 21, 24, 26] A A22498 from (Md.tr Md.rf hA22498 rfl)), hV22498, (A22498 26 z2.toNatClampNeg), rfl, rfl⟩ dX12_match_63
        · skip
          refine g_bipush (v := (-2)) hk dX12_match_36 (by decide) ?_
          exact g_iret hk hR rfl ⟨I22498, A22498, L22498, (show Md [18, 19, 20, 24] I I22498 from (Md.tr Md.rf hI22498 rfl)), (show Md [18, 19, 20, 21, 24, 26] A A22498 from (Md.tr Md.rf hA22498 rfl)), hV22498, (-2), rfl, rfl⟩ dX12_match_38
def wo_j193_X12_within : List Cond := [Cond.methodLink RX12 251 yX12_isQuery, Cond.instanceMethod yX12_isQuery, Cond.selects RX12 yX12_isQuery yX12_isQuery, Cond.initialized RX12, Cond.methodLink RX12 372 yX12_fillsMatches, Cond.instanceMethod yX12_fillsMatches, Cond.selects RX12 yX12_fillsMatches yX12_fillsMatches, Cond.fieldLink RX12 366 "WarpDeskModel" "matchMany" "I", Cond.fieldLink RX12 91 "WarpDeskModel" "farBy" "[I", Cond.fieldLink RX12 97 "WarpDeskModel" "matchAt" "[I"]
def wz_j193_X12_within : List Cond := .code yX12_within cX12_within 5 (some .int) :: (wo_j193_X12_within ++ (wsX120 ++ (wz_j147_X12_isQuery ++ (wz_j191_X12_fillsMatches ++ ([] : List Cond)))))
theorem zg_j193_X12_within : ∀ w ∈ wz_j193_X12_within, goodWord w = true := zg_cons rfl (zg_app (by decide +kernel) (zg_app zgU_wsX120 (zg_app zg_j147_X12_isQuery (zg_app zg_j191_X12_fillsMatches zg_nil))))
theorem zi_j193_X12_within : ∀ w ∈ wz_j193_X12_within, w ∈ lw_tbl := zi_cons zw_1879 (zi_app (zi_cons zw_1663 (zi_cons zw_1665 (zi_cons zw_67 (zi_cons zw_115 (zi_cons zw_1868 (zi_cons zw_1870 (zi_cons zw_96 (zi_cons zw_1428 (zi_cons zw_1426 (zi_cons zw_1429 zi_nil)))))))))) (zi_app inX12 (zi_app zi_j147_X12_isQuery (zi_app zi_j191_X12_fillsMatches zi_nil))))
set_option maxHeartbeats 4000000 in
set_option maxRecDepth 100000 in
theorem j193_X12_within (l : Launch) (D : va_G) (zt : Nat × Nat × Nat × (Nat → Nat) × (Nat → Nat)) (r : Nat → Nat) (g : Nat → ClassId) (I : Nat → Int32) (A : Nat → Nat → Int32) (L : Nat → Nat → Int64) (z1 : Int32) (z2 : Int32) (hIv : IvM I A) : GM l D zt (tyM g) yX12_within wz_j193_X12_within ({ frames := 8, cells := 0, slots := 0, locals := 179 } : Room) [.ref (r 0), .int z1, .int z2] (wM r g I A L) (fun v _ w' => ∃ (I' : Nat → Int32) (A' : Nat → Nat → Int32) (L' : Nat → Nat → Int64), Md [18, 19, 20, 24] I I' ∧ Md [18, 19, 20, 21, 24, 26] A A' ∧ IvM I' A' ∧ ∃ y0 : Int32, v = some (.int y0) ∧ w' = wM r g I' A' L') 0 0 := by
  refine GM.of (cc := cX12_within) (maxL := 5) (ret := (some .int)) (own := RX12) (lv := [(0, .ref (r 0)), (1, .int z1), (2, .int z2)]) (by decide) rfl rfl (Nat.le_of_ble_eq_true rfl) rfl (fun κ sz hk hR hN => ?_)
  have hin12 : ∀ w ∈ u_ws RX12 TX12 55, w ∈ wz_j193_X12_within := fun w h => (List.mem_cons_of_mem _ (List.mem_append_right _ (List.mem_append_left _ h)))
  refine g_aload_n hk dX12_within_0 rfl ?_
  refine g_iload_n hk dX12_within_1 rfl ?_
  refine g_callV (n := 1) hk (j147_X12_isQuery l D zt r g I A L z1 hIv) (SP.same _) (fun _ h => h) (gi_V (List.mem_cons_of_mem _ (List.mem_append_left _ (List.mem_of_getElem? (i := 0) rfl))) (List.mem_cons_of_mem _ (List.mem_append_left _ (List.mem_of_getElem? (i := 1) rfl))) (List.mem_cons_of_mem _ (List.mem_append_left _ (List.mem_of_getElem? (i := 2) rfl))) (List.mem_cons_of_mem _ (List.mem_append_left _ (List.mem_of_getElem? (i := 3) rfl))) (gi_sub (fun w h => (List.mem_cons_of_mem _ (List.mem_append_right _ (List.mem_append_right _ (List.mem_append_left _ h))))) zg_j147_X12_isQuery)) rfl rfl rfl (by decide +kernel) ⟨Nat.le_of_ble_eq_true rfl, Nat.le_of_ble_eq_true rfl⟩ 0 rfl rfl rfl rfl (Nat.le_of_ble_eq_true rfl) ⟨Nat.le_of_ble_eq_true rfl, Nat.le_of_ble_eq_true rfl⟩ dX12_within_2 (fun v ty' w' hp hk' => ?_)
  rcases hp with ⟨rfl, rfl⟩ | ⟨c22506, c22507, c22508, c22509, rfl, rfl⟩
  · skip
    show GW κ 5 0 0 (wM r g I A L) 5 [(0, .ref (r 0)), (1, .int z1), (2, .int z2)] [.int 0]
    refine g_if_eq (tgt := 12) (a := 0) hk dX12_within_5 (by decide) rfl (fun _ => ?_) (fun z9 => absurd (show (0 : Int) = (0 : Int) from by decide) z9)
    refine g_iconst (v := (-1)) hk dX12_within_12 (by decide) ?_
    exact g_iret hk hR rfl ⟨I, A, L, (show Md [18, 19, 20, 24] I I from Md.rf), (show Md [18, 19, 20, 21, 24, 26] A A from Md.rf), hIv, (-1), rfl, rfl⟩ dX12_within_13
  · skip
    have f22511 : 0 ≤ (A 11 (5 * (I 15) + z1).toNatClampNeg).toInt ∧ (A 11 (5 * (I 15) + z1).toNatClampNeg).toInt ≤ 16 := IvM_a11 hIv _
    show GW κ 5 0 0 (wM r g I A L) 5 [(0, .ref (r 0)), (1, .int z1), (2, .int z2)] [.int 1]
    refine g_if_eq (tgt := 12) (a := 1) hk dX12_within_5 (by decide) rfl (fun z9 => absurd z9 (show ¬ ((1 : Int) = (0 : Int)) from by decide)) (fun _ => ?_)
    refine g_iload_n hk dX12_within_8 rfl ?_
    have b22512l := Int32.le_toInt z2
    have b22512h := Int32.toInt_lt z2
    refine g_if_ge (tgt := 14) (a := z2.toInt) hk dX12_within_9 (by decide) rfl (fun c22513 => ?_) (fun c22513 => ?_)
    · skip
      refine g_aload_n hk dX12_within_14 rfl ?_
      refine g_iload_n hk dX12_within_15 rfl ?_
      refine g_callV (n := 1) hk (j191_X12_fillsMatches l D zt r g I A L z1 hIv (by omega) (by omega)) (SP.same _) (fun _ h => h) (gi_V (List.mem_cons_of_mem _ (List.mem_append_left _ (List.mem_of_getElem? (i := 4) rfl))) (List.mem_cons_of_mem _ (List.mem_append_left _ (List.mem_of_getElem? (i := 5) rfl))) (List.mem_cons_of_mem _ (List.mem_append_left _ (List.mem_of_getElem? (i := 6) rfl))) (List.mem_cons_of_mem _ (List.mem_append_left _ (List.mem_of_getElem? (i := 3) rfl))) (gi_sub (fun w h => (List.mem_cons_of_mem _ (List.mem_append_right _ (List.mem_append_right _ (List.mem_append_right _ (List.mem_append_left _ h)))))) zg_j191_X12_fillsMatches)) rfl rfl rfl (by decide +kernel) ⟨Nat.le_of_ble_eq_true rfl, Nat.le_of_ble_eq_true rfl⟩ 0 rfl rfl rfl rfl (Nat.le_of_ble_eq_true rfl) ⟨Nat.le_of_ble_eq_true rfl, Nat.le_of_ble_eq_true rfl⟩ dX12_within_16 (fun v ty' w' hp hk' => ?_)
      obtain ⟨I22515, A22515, L22515, hI22515, hA22515, hV22515, rfl, rfl⟩ := hp
      show GW κ 5 0 0 (wM r g I22515 A22515 L22515) 19 [(0, .ref (r 0)), (1, .int z1), (2, .int z2)] []
      refine g_iconst (v := 0) hk dX12_within_19 (by decide) ?_
      refine g_istore_n (lv' := [(3, .int 0), (0, .ref (r 0)), (1, .int z1), (2, .int z2)]) hk dX12_within_20 (by decide) rfl ?_
      refine g_iconst (v := 0) hk dX12_within_21 (by decide) ?_
      refine g_istore (lv' := [(4, .int 0), (3, .int 0), (0, .ref (r 0)), (1, .int z1), (2, .int z2)]) hk dX12_within_22 (by decide) rfl ?_
      have lp22566 : ∀ (n22567 : Nat) (x22516 : Int32) (x22517 : Int32), (0 ≤ x22516.toInt) → (x22516.toInt ≤ 160) → (161 - x22516.toInt < (n22567 : Int)) → (0 < n22567) → GW κ 5 0 0 (wM r g I22515 A22515 L22515) 24 [(4, .int x22516), (3, .int x22517), (0, .ref (r 0)), (1, .int z1), (2, .int z2)] [] := by
        intro n22567
        induction n22567 with
        | zero =>
          intro x22516 x22517 h22564 h22565 m22568 m22568z
          exact absurd m22568z (Nat.lt_irrefl 0)
        | succ n22567 ih22569 =>
          intro x22516 x22517 h22564 h22565 m22568 m22568z
          refine g_iload hk dX12_within_24 rfl ?_
          refine g_aload_n hk dX12_within_26 rfl ?_
          refine gM_i24 (v := (I22515 24)) hk hin12 (List.mem_cons_of_mem _ (List.mem_append_left _ (List.mem_of_getElem? (i := 7) rfl))) dX12_within_27 rfl ?_
          have f22570 := IvM_f24 hV22515
          refine g_icmp_ge (tgt := 58) (a := x22516.toInt) (b := (I22515 24).toInt) hk dX12_within_30 (by decide) rfl rfl (fun c22571 => ?_) (fun c22571 => ?_)
          · skip
            refine g_iload_n hk dX12_within_58 rfl ?_
            have b22572l := Int32.le_toInt x22517
            have b22572h := Int32.toInt_lt x22517
            exact g_iret hk hR rfl ⟨I22515, A22515, L22515, (show Md [18, 19, 20, 24] I I22515 from (Md.tr Md.rf hI22515 rfl)), (show Md [18, 19, 20, 21, 24, 26] A A22515 from (Md.tr Md.rf hA22515 rfl)), hV22515, x22517, rfl, rfl⟩ dX12_within_59
          · skip
            refine g_aload_n hk dX12_within_33 rfl ?_
            refine gM_r0_48 hk hin12 (List.mem_cons_of_mem _ (List.mem_append_left _ (List.mem_of_getElem? (i := 8) rfl))) dX12_within_34 ?_
            refine g_aload_n hk dX12_within_37 rfl ?_
            refine gM_r0_51 hk hin12 (List.mem_cons_of_mem _ (List.mem_append_left _ (List.mem_of_getElem? (i := 9) rfl))) dX12_within_38 ?_
            refine g_iload hk dX12_within_41 rfl ?_
            refine lM_26 (v := (A22515 26 x22516.toNatClampNeg)) hk (vp_in_iff.mpr ⟨by omega, by omega⟩) rfl dX12_within_43 ?_
            have f22573 := IvM_a26 hV22515 (x22516.toNatClampNeg)
            refine lM_24 (v := (A22515 24 (A22515 26 x22516.toNatClampNeg).toNatClampNeg)) hk (vp_in_iff.mpr ⟨by omega, by omega⟩) rfl dX12_within_44 ?_
            refine g_iload_n hk dX12_within_45 rfl ?_
            have b22574l := Int32.le_toInt (A22515 24 (A22515 26 x22516.toNatClampNeg).toNatClampNeg)
            have b22574h := Int32.toInt_lt (A22515 24 (A22515 26 x22516.toNatClampNeg).toNatClampNeg)
            refine g_icmp_gt (tgt := 52) (a := (A22515 24 (A22515 26 x22516.toNatClampNeg).toNatClampNeg).toInt) (b := z2.toInt) hk dX12_within_46 (by decide) rfl rfl (fun c22575 => ?_) (fun c22575 => ?_)
            · skip
              obtain ⟨y22576, ey22576⟩ : ∃ y : Int32, y = x22516 + Int32.ofInt 1 := ⟨_, rfl⟩
              have hy22576 : y22576.toInt = x22516.toInt + 1 := i32_add ey22576 rfl (by decide) (by omega) (by omega)
              refine g_iinc (v := y22576) (lv' := [(4, .int y22576), (3, .int x22517), (0, .ref (r 0)), (1, .int z1), (2, .int z2)]) hk 0 dX12_within_52 rfl ey22576.symm (by decide) rfl ?_
              refine g_goto (tgt := 24) hk dX12_within_55 (by decide) ?_
              have b22577l := Int32.le_toInt x22517
              have b22577h := Int32.toInt_lt x22517
              exact g_lv (List.forall_mem_cons.mpr ⟨List.mem_of_getElem? (i := 0) rfl, (List.forall_mem_cons.mpr ⟨List.mem_of_getElem? (i := 1) rfl, (List.forall_mem_cons.mpr ⟨List.mem_of_getElem? (i := 2) rfl, (List.forall_mem_cons.mpr ⟨List.mem_of_getElem? (i := 3) rfl, (List.forall_mem_cons.mpr ⟨List.mem_of_getElem? (i := 4) rfl, (fun _ h => absurd h List.not_mem_nil)⟩)⟩)⟩)⟩)⟩) (ih22569 y22576 x22517 (by omega) (by omega) (by omega) (by omega))
            · skip
              have b22578l := Int32.le_toInt x22517
              have b22578h := Int32.toInt_lt x22517
              obtain ⟨y22579, ey22579⟩ : ∃ y : Int32, y = x22517 + Int32.ofInt 1 := ⟨_, rfl⟩
              refine g_iinc (v := y22579) (lv' := [(3, .int y22579), (4, .int x22516), (0, .ref (r 0)), (1, .int z1), (2, .int z2)]) hk 1 dX12_within_49 rfl ey22579.symm (by decide) rfl ?_
              obtain ⟨y22580, ey22580⟩ : ∃ y : Int32, y = x22516 + Int32.ofInt 1 := ⟨_, rfl⟩
              have hy22580 : y22580.toInt = x22516.toInt + 1 := i32_add ey22580 rfl (by decide) (by omega) (by omega)
              refine g_iinc (v := y22580) (lv' := [(4, .int y22580), (3, .int y22579), (0, .ref (r 0)), (1, .int z1), (2, .int z2)]) hk 1 dX12_within_52 rfl ey22580.symm (by decide) rfl ?_
              refine g_goto (tgt := 24) hk dX12_within_55 (by decide) ?_
              have b22581l := Int32.le_toInt y22579
              have b22581h := Int32.toInt_lt y22579
              exact g_lv (List.forall_mem_cons.mpr ⟨List.mem_of_getElem? (i := 0) rfl, (List.forall_mem_cons.mpr ⟨List.mem_of_getElem? (i := 1) rfl, (List.forall_mem_cons.mpr ⟨List.mem_of_getElem? (i := 2) rfl, (List.forall_mem_cons.mpr ⟨List.mem_of_getElem? (i := 3) rfl, (List.forall_mem_cons.mpr ⟨List.mem_of_getElem? (i := 4) rfl, (fun _ h => absurd h List.not_mem_nil)⟩)⟩)⟩)⟩)⟩) (ih22569 y22580 y22579 (by omega) (by omega) (by omega) (by omega))
      have k22582 : (0 : Int32).toInt = 0 := rfl
      obtain ⟨n22583, n22583a, n22583b⟩ : ∃ n : Nat, 161 - (0 : Int32).toInt < (n : Int) ∧ 0 < n := ⟨((161 - (0 : Int32).toInt : Int)).toNat + 1, by omega, by omega⟩
      exact lp22566 n22583 0 0 (by omega) (by omega) n22583a n22583b
    · skip
      refine g_iconst (v := (-1)) hk dX12_within_12 (by decide) ?_
      exact g_iret hk hR rfl ⟨I, A, L, (show Md [18, 19, 20, 24] I I from Md.rf), (show Md [18, 19, 20, 21, 24, 26] A A from Md.rf), hIv, (-1), rfl, rfl⟩ dX12_within_13
