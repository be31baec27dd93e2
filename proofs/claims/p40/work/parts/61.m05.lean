def wo_j164_X12_level : List Cond := [Cond.methodLink RX12 244 yX12_in, Cond.static yX12_in, Cond.initialized RX12, Cond.constant RX12 332 (-1000000), Cond.methodLink RX12 257 yX12_isWindow, Cond.instanceMethod yX12_isWindow, Cond.selects RX12 yX12_isWindow yX12_isWindow, Cond.methodLink RX12 323 yX12_copies, Cond.instanceMethod yX12_copies, Cond.selects RX12 yX12_copies yX12_copies, Cond.methodLink RX12 270 yX12_laysWindow, Cond.instanceMethod yX12_laysWindow, Cond.selects RX12 yX12_laysWindow yX12_laysWindow, Cond.fieldLink RX12 76 "WarpDeskModel" "firstAt" "[I"]
def wz_j164_X12_level : List Cond := .code yX12_level cX12_level 4 (some .int) :: (wo_j164_X12_level ++ (wsX120 ++ (wz_j145_X12_in ++ (wz_j160_X12_isWindow ++ (wz_j151_X12_copies ++ (wz_j165_X12_laysWindow ++ ([] : List Cond)))))))
theorem zg_j164_X12_level : ∀ w ∈ wz_j164_X12_level, goodWord w = true := zg_cons rfl (zg_app (by decide +kernel) (zg_app zgU_wsX120 (zg_app zg_j145_X12_in (zg_app zg_j160_X12_isWindow (zg_app zg_j151_X12_copies (zg_app zg_j165_X12_laysWindow zg_nil))))))
theorem zi_j164_X12_level : ∀ w ∈ wz_j164_X12_level, w ∈ lw_tbl := zi_cons zw_1734 (zi_app (zi_cons zw_1656 (zi_cons zw_1657 (zi_cons zw_115 (zi_cons zw_1718 (zi_cons zw_1714 (zi_cons zw_1716 (zi_cons zw_72 (zi_cons zw_1679 (zi_cons zw_1681 (zi_cons zw_70 (zi_cons zw_1735 (zi_cons zw_1737 (zi_cons zw_76 (zi_cons zw_1416 zi_nil)))))))))))))) (zi_app inX12 (zi_app zi_j145_X12_in (zi_app zi_j160_X12_isWindow (zi_app zi_j151_X12_copies (zi_app zi_j165_X12_laysWindow zi_nil))))))
set_option maxHeartbeats 4000000 in
set_option maxRecDepth 100000 in
theorem j164_X12_level (l : Launch) (D : va_G) (zt : Nat × Nat × Nat × (Nat → Nat) × (Nat → Nat)) (r : Nat → Nat) (g : Nat → ClassId) (I : Nat → Int32) (A : Nat → Nat → Int32) (L : Nat → Nat → Int64) (z1 : Int32) (z2 : Int32) (z3 : Int32) (hIv : IvM I A) : GM l D zt (tyM g) yX12_level wz_j164_X12_level ({ frames := 3, cells := 0, slots := 0, locals := 72 } : Room) [.ref (r 0), .int z1, .int z2, .int z3] (wM r g I A L) (fun v _ w' => ∃ (I' : Nat → Int32) (A' : Nat → Nat → Int32) (L' : Nat → Nat → Int64), Md [] I I' ∧ Md [18, 19] A A' ∧ IvM I' A' ∧ ∃ y0 : Int32, v = some (.int y0) ∧ w' = wM r g I' A' L') 0 0 := by
  refine GM.of (cc := cX12_level) (maxL := 4) (ret := (some .int)) (own := RX12) (lv := [(0, .ref (r 0)), (1, .int z1), (2, .int z2), (3, .int z3)]) (by decide) rfl rfl (Nat.le_of_ble_eq_true rfl) rfl (fun κ sz hk hR hN => ?_)
  have hin12 : ∀ w ∈ u_ws RX12 TX12 55, w ∈ wz_j164_X12_level := fun w h => (List.mem_cons_of_mem _ (List.mem_append_right _ (List.mem_append_left _ h)))
  refine g_iload_n hk dX12_level_0 rfl ?_
  refine g_iconst (v := 2) hk dX12_level_1 (by decide) ?_
  refine g_bipush (v := 16) hk dX12_level_2 (by decide) ?_
  have k18079 : (2 : Int32).toInt = 2 := rfl
  have k18080 : (16 : Int32).toInt = 16 := rfl
  refine g_callS (n := 3) hk (j145_X12_in l D zt r g I A L z2 2 16 hIv) (SP.same _) (fun _ h => h) (gi_S (List.mem_cons_of_mem _ (List.mem_append_left _ (List.mem_of_getElem? (i := 0) rfl))) (List.mem_cons_of_mem _ (List.mem_append_left _ (List.mem_of_getElem? (i := 1) rfl))) (List.mem_cons_of_mem _ (List.mem_append_left _ (List.mem_of_getElem? (i := 2) rfl))) (gi_sub (fun w h => (List.mem_cons_of_mem _ (List.mem_append_right _ (List.mem_append_right _ (List.mem_append_left _ h))))) zg_j145_X12_in)) rfl rfl rfl (by decide +kernel) ⟨Nat.le_of_ble_eq_true rfl, Nat.le_of_ble_eq_true rfl⟩ rfl rfl (Nat.le_of_ble_eq_true rfl) ⟨Nat.le_of_ble_eq_true rfl, Nat.le_of_ble_eq_true rfl⟩ dX12_level_4 (fun v ty' w' hp hk' => ?_)
  rcases hp with ⟨c18081, rfl, rfl⟩ | ⟨c18083, c18084, rfl, rfl⟩
  · skip
    have b18086l := Int32.le_toInt z2
    have b18086h := Int32.toInt_lt z2
    show GW κ 4 0 0 (wM r g I A L) 7 [(0, .ref (r 0)), (1, .int z1), (2, .int z2), (3, .int z3)] [.int 0]
    refine g_if_eq (tgt := 30) (a := 0) hk dX12_level_7 (by decide) rfl (fun _ => ?_) (fun z9 => absurd (show (0 : Int) = (0 : Int) from by decide) z9)
    refine g_ldcw (v := (-1000000)) hk (List.mem_cons_of_mem _ (List.mem_append_left _ (List.mem_of_getElem? (i := 3) rfl))) dX12_level_30 ?_
    exact g_iret hk hR rfl ⟨I, A, L, (show Md [] I I from Md.rf), (show Md [18, 19] A A from Md.rf), hIv, (-1000000), rfl, rfl⟩ dX12_level_33
  · skip
    show GW κ 4 0 0 (wM r g I A L) 7 [(0, .ref (r 0)), (1, .int z1), (2, .int z2), (3, .int z3)] [.int 1]
    refine g_if_eq (tgt := 30) (a := 1) hk dX12_level_7 (by decide) rfl (fun z9 => absurd z9 (show ¬ ((1 : Int) = (0 : Int)) from by decide)) (fun _ => ?_)
    refine g_aload_n hk dX12_level_10 rfl ?_
    refine g_iload_n hk dX12_level_11 rfl ?_
    refine g_iload_n hk dX12_level_12 rfl ?_
    refine g_callV (n := 2) hk (j160_X12_isWindow l D zt r g I A L z1 z2 hIv) (SP.same _) (fun _ h => h) (gi_V (List.mem_cons_of_mem _ (List.mem_append_left _ (List.mem_of_getElem? (i := 4) rfl))) (List.mem_cons_of_mem _ (List.mem_append_left _ (List.mem_of_getElem? (i := 5) rfl))) (List.mem_cons_of_mem _ (List.mem_append_left _ (List.mem_of_getElem? (i := 6) rfl))) (List.mem_cons_of_mem _ (List.mem_append_left _ (List.mem_of_getElem? (i := 2) rfl))) (gi_sub (fun w h => (List.mem_cons_of_mem _ (List.mem_append_right _ (List.mem_append_right _ (List.mem_append_right _ (List.mem_append_left _ h)))))) zg_j160_X12_isWindow)) rfl rfl rfl (by decide +kernel) ⟨Nat.le_of_ble_eq_true rfl, Nat.le_of_ble_eq_true rfl⟩ 0 rfl rfl rfl rfl (Nat.le_of_ble_eq_true rfl) ⟨Nat.le_of_ble_eq_true rfl, Nat.le_of_ble_eq_true rfl⟩ dX12_level_13 (fun v ty' w' hp hk' => ?_)
    rcases hp with ⟨rfl, rfl⟩ | ⟨c18088, c18089, c18090, c18091, c18092, c18093, c18094, rfl, rfl⟩
    · skip
      show GW κ 4 0 0 (wM r g I A L) 16 [(0, .ref (r 0)), (1, .int z1), (2, .int z2), (3, .int z3)] [.int 0]
      refine g_if_eq (tgt := 30) (a := 0) hk dX12_level_16 (by decide) rfl (fun _ => ?_) (fun z9 => absurd (show (0 : Int) = (0 : Int) from by decide) z9)
      refine g_ldcw (v := (-1000000)) hk (List.mem_cons_of_mem _ (List.mem_append_left _ (List.mem_of_getElem? (i := 3) rfl))) dX12_level_30 ?_
      exact g_iret hk hR rfl ⟨I, A, L, (show Md [] I I from Md.rf), (show Md [18, 19] A A from Md.rf), hIv, (-1000000), rfl, rfl⟩ dX12_level_33
    · skip
      show GW κ 4 0 0 (wM r g I A L) 16 [(0, .ref (r 0)), (1, .int z1), (2, .int z2), (3, .int z3)] [.int 1]
      refine g_if_eq (tgt := 30) (a := 1) hk dX12_level_16 (by decide) rfl (fun z9 => absurd z9 (show ¬ ((1 : Int) = (0 : Int)) from by decide)) (fun _ => ?_)
      refine g_iload_n hk dX12_level_19 rfl ?_
      refine g_iconst (v := 0) hk dX12_level_20 (by decide) ?_
      refine g_iload_n hk dX12_level_21 rfl ?_
      refine g_iconst (v := 1) hk dX12_level_22 (by decide) ?_
      refine g_isub hk dX12_level_23 ?_
      refine g_topi (fun y18096 ey18096 => ?_)
      have hy18096 : y18096.toInt = z2.toInt - 1 := i32_sub ey18096 rfl rfl (by omega) (by omega)
      have k18097 : (0 : Int32).toInt = 0 := rfl
      refine g_callS (n := 3) hk (j145_X12_in l D zt r g I A L z3 0 y18096 hIv) (SP.same _) (fun _ h => h) (gi_S (List.mem_cons_of_mem _ (List.mem_append_left _ (List.mem_of_getElem? (i := 0) rfl))) (List.mem_cons_of_mem _ (List.mem_append_left _ (List.mem_of_getElem? (i := 1) rfl))) (List.mem_cons_of_mem _ (List.mem_append_left _ (List.mem_of_getElem? (i := 2) rfl))) (gi_sub (fun w h => (List.mem_cons_of_mem _ (List.mem_append_right _ (List.mem_append_right _ (List.mem_append_left _ h))))) zg_j145_X12_in)) rfl rfl rfl (by decide +kernel) ⟨Nat.le_of_ble_eq_true rfl, Nat.le_of_ble_eq_true rfl⟩ rfl rfl (Nat.le_of_ble_eq_true rfl) ⟨Nat.le_of_ble_eq_true rfl, Nat.le_of_ble_eq_true rfl⟩ dX12_level_24 (fun v ty' w' hp hk' => ?_)
      rcases hp with ⟨c18098, rfl, rfl⟩ | ⟨c18100, c18101, rfl, rfl⟩
      · skip
        have b18103l := Int32.le_toInt z3
        have b18103h := Int32.toInt_lt z3
        show GW κ 4 0 0 (wM r g I A L) 27 [(0, .ref (r 0)), (1, .int z1), (2, .int z2), (3, .int z3)] [.int 0]
        refine g_if_ne (tgt := 34) (a := 0) hk dX12_level_27 (by decide) rfl (fun z9 => absurd z9 (show ¬ ((0 : Int) ≠ (0 : Int)) from by decide)) (fun _ => ?_)
        refine g_ldcw (v := (-1000000)) hk (List.mem_cons_of_mem _ (List.mem_append_left _ (List.mem_of_getElem? (i := 3) rfl))) dX12_level_30 ?_
        exact g_iret hk hR rfl ⟨I, A, L, (show Md [] I I from Md.rf), (show Md [18, 19] A A from Md.rf), hIv, (-1000000), rfl, rfl⟩ dX12_level_33
      · skip
        show GW κ 4 0 0 (wM r g I A L) 27 [(0, .ref (r 0)), (1, .int z1), (2, .int z2), (3, .int z3)] [.int 1]
        refine g_if_ne (tgt := 34) (a := 1) hk dX12_level_27 (by decide) rfl (fun _ => ?_) (fun z9 => absurd (show (1 : Int) ≠ (0 : Int) from by decide) z9)
        refine g_aload_n hk dX12_level_34 rfl ?_
        refine g_callV (n := 0) hk (j151_X12_copies l D zt r g I A L  hIv) (SP.same _) (fun _ h => h) (gi_V (List.mem_cons_of_mem _ (List.mem_append_left _ (List.mem_of_getElem? (i := 7) rfl))) (List.mem_cons_of_mem _ (List.mem_append_left _ (List.mem_of_getElem? (i := 8) rfl))) (List.mem_cons_of_mem _ (List.mem_append_left _ (List.mem_of_getElem? (i := 9) rfl))) (List.mem_cons_of_mem _ (List.mem_append_left _ (List.mem_of_getElem? (i := 2) rfl))) (gi_sub (fun w h => (List.mem_cons_of_mem _ (List.mem_append_right _ (List.mem_append_right _ (List.mem_append_right _ (List.mem_append_right _ (List.mem_append_left _ h))))))) zg_j151_X12_copies)) rfl rfl rfl (by decide +kernel) ⟨Nat.le_of_ble_eq_true rfl, Nat.le_of_ble_eq_true rfl⟩ 0 rfl rfl rfl rfl (Nat.le_of_ble_eq_true rfl) ⟨Nat.le_of_ble_eq_true rfl, Nat.le_of_ble_eq_true rfl⟩ dX12_level_35 (fun v ty' w' hp hk' => ?_)
        obtain ⟨I18105, A18105, L18105, hI18105, hA18105, hV18105, r18106, r18107, rfl, rfl⟩ := hp
        have f18108 := IvM_s17_0 hIv
        have f18109 := IvM_s17_164 hIv
        show GW κ 4 0 0 (wM r g I18105 A18105 L18105) 38 [(0, .ref (r 0)), (1, .int z1), (2, .int z2), (3, .int z3)] []
        refine g_aload_n hk dX12_level_38 rfl ?_
        refine g_iload_n hk dX12_level_39 rfl ?_
        refine g_iload_n hk dX12_level_40 rfl ?_
        refine g_callV (n := 2) hk (j165_X12_laysWindow l D zt r g I18105 A18105 L18105 z1 z2 hV18105 (by omega) (by omega) (by omega) (by omega) (by omega)) (SP.same _) (fun _ h => h) (gi_V (List.mem_cons_of_mem _ (List.mem_append_left _ (List.mem_of_getElem? (i := 10) rfl))) (List.mem_cons_of_mem _ (List.mem_append_left _ (List.mem_of_getElem? (i := 11) rfl))) (List.mem_cons_of_mem _ (List.mem_append_left _ (List.mem_of_getElem? (i := 12) rfl))) (List.mem_cons_of_mem _ (List.mem_append_left _ (List.mem_of_getElem? (i := 2) rfl))) (gi_sub (fun w h => (List.mem_cons_of_mem _ (List.mem_append_right _ (List.mem_append_right _ (List.mem_append_right _ (List.mem_append_right _ (List.mem_append_right _ (List.mem_append_left _ h)))))))) zg_j165_X12_laysWindow)) rfl rfl rfl (by decide +kernel) ⟨Nat.le_of_ble_eq_true rfl, Nat.le_of_ble_eq_true rfl⟩ 0 rfl rfl rfl rfl (Nat.le_of_ble_eq_true rfl) ⟨Nat.le_of_ble_eq_true rfl, Nat.le_of_ble_eq_true rfl⟩ dX12_level_41 (fun v ty' w' hp hk' => ?_)
        obtain ⟨I18899, A18899, L18899, hI18899, hA18899, hV18899, rfl, rfl⟩ := hp
        show GW κ 4 0 0 (wM r g I18899 A18899 L18899) 44 [(0, .ref (r 0)), (1, .int z1), (2, .int z2), (3, .int z3)] []
        refine g_aload_n hk dX12_level_44 rfl ?_
        refine gM_r0_38 hk hin12 (List.mem_cons_of_mem _ (List.mem_append_left _ (List.mem_of_getElem? (i := 13) rfl))) dX12_level_45 ?_
        refine g_iload_n hk dX12_level_48 rfl ?_
        refine lM_19 (v := (A18899 19 z3.toNatClampNeg)) hk (vp_in_iff.mpr ⟨by omega, by omega⟩) rfl dX12_level_49 ?_
        have b18900l := Int32.le_toInt (A18899 19 z3.toNatClampNeg)
        have b18900h := Int32.toInt_lt (A18899 19 z3.toNatClampNeg)
        exact g_iret hk hR rfl ⟨I18899, A18899, L18899, (show Md [] I I18899 from (Md.tr (Md.tr Md.rf hI18105 rfl) hI18899 rfl)), (show Md [18, 19] A A18899 from (Md.tr (Md.tr Md.rf hA18105 rfl) hA18899 rfl)), hV18899, (A18899 19 z3.toNatClampNeg), rfl, rfl⟩ dX12_level_50
def wo_j168_X12_isOf : List Cond := [Cond.methodLink RX12 251 yX12_isQuery, Cond.instanceMethod yX12_isQuery, Cond.selects RX12 yX12_isQuery yX12_isQuery, Cond.initialized RX12, Cond.methodLink RX12 254 yX12_wideOf, Cond.instanceMethod yX12_wideOf, Cond.selects RX12 yX12_wideOf yX12_wideOf, Cond.methodLink RX12 257 yX12_isWindow, Cond.instanceMethod yX12_isWindow, Cond.selects RX12 yX12_isWindow yX12_isWindow]
def wz_j168_X12_isOf : List Cond := .code yX12_isOf cX12_isOf 3 (some .boolean) :: (wo_j168_X12_isOf ++ (wz_j147_X12_isQuery ++ (wz_j148_X12_wideOf ++ (wz_j160_X12_isWindow ++ ([] : List Cond)))))
theorem zg_j168_X12_isOf : ∀ w ∈ wz_j168_X12_isOf, goodWord w = true := zg_cons rfl (zg_app (by decide +kernel) (zg_app zg_j147_X12_isQuery (zg_app zg_j148_X12_wideOf (zg_app zg_j160_X12_isWindow zg_nil))))
theorem zi_j168_X12_isOf : ∀ w ∈ wz_j168_X12_isOf, w ∈ lw_tbl := zi_cons zw_1758 (zi_app (zi_cons zw_1663 (zi_cons zw_1665 (zi_cons zw_67 (zi_cons zw_115 (zi_cons zw_1667 (zi_cons zw_1669 (zi_cons zw_68 (zi_cons zw_1714 (zi_cons zw_1716 (zi_cons zw_72 zi_nil)))))))))) (zi_app zi_j147_X12_isQuery (zi_app zi_j148_X12_wideOf (zi_app zi_j160_X12_isWindow zi_nil))))
set_option maxHeartbeats 4000000 in
set_option maxRecDepth 100000 in
theorem j168_X12_isOf (l : Launch) (D : va_G) (zt : Nat × Nat × Nat × (Nat → Nat) × (Nat → Nat)) (r : Nat → Nat) (g : Nat → ClassId) (I : Nat → Int32) (A : Nat → Nat → Int32) (L : Nat → Nat → Int64) (z1 : Int32) (z2 : Int32) (hIv : IvM I A) : GM l D zt (tyM g) yX12_isOf wz_j168_X12_isOf ({ frames := 2, cells := 0, slots := 0, locals := 43 } : Room) [.ref (r 0), .int z1, .int z2] (wM r g I A L) (fun v _ w' => (v = some (.int 0) ∧ w' = wM r g I A L) ∨ ((¬ (z1.toInt < 0)) ∧ (0 ≤ z1.toInt) ∧ (z1.toInt ≤ 4) ∧ (¬ (z2.toInt < 0)) ∧ (0 ≤ z2.toInt) ∧ (z2.toInt ≤ 159) ∧ (0 ≤ z1.toInt) ∧ (z1.toInt ≤ 4) ∧ (0 ≤ z2.toInt) ∧ (z2.toInt ≤ 159) ∧ (1 ≤ (A 11 (5 * (I 15) + z1).toNatClampNeg).toInt) ∧ (z2.toInt + (A 11 (5 * (I 15) + z1).toNatClampNeg).toInt ≤ 160) ∧ v = some (.int 1) ∧ w' = wM r g I A L)) 0 0 := by
  refine GM.of (cc := cX12_isOf) (maxL := 3) (ret := (some .boolean)) (own := RX12) (lv := [(0, .ref (r 0)), (1, .int z1), (2, .int z2)]) (by decide) rfl rfl (Nat.le_of_ble_eq_true rfl) rfl (fun κ sz hk hR hN => ?_)
  refine g_aload_n hk dX12_isOf_0 rfl ?_
  refine g_iload_n hk dX12_isOf_1 rfl ?_
  refine g_callV (n := 1) hk (j147_X12_isQuery l D zt r g I A L z1 hIv) (SP.same _) (fun _ h => h) (gi_V (List.mem_cons_of_mem _ (List.mem_append_left _ (List.mem_of_getElem? (i := 0) rfl))) (List.mem_cons_of_mem _ (List.mem_append_left _ (List.mem_of_getElem? (i := 1) rfl))) (List.mem_cons_of_mem _ (List.mem_append_left _ (List.mem_of_getElem? (i := 2) rfl))) (List.mem_cons_of_mem _ (List.mem_append_left _ (List.mem_of_getElem? (i := 3) rfl))) (gi_sub (fun w h => (List.mem_cons_of_mem _ (List.mem_append_right _ (List.mem_append_left _ h)))) zg_j147_X12_isQuery)) rfl rfl rfl (by decide +kernel) ⟨Nat.le_of_ble_eq_true rfl, Nat.le_of_ble_eq_true rfl⟩ 0 rfl rfl rfl rfl (Nat.le_of_ble_eq_true rfl) ⟨Nat.le_of_ble_eq_true rfl, Nat.le_of_ble_eq_true rfl⟩ dX12_isOf_2 (fun v ty' w' hp hk' => ?_)
  rcases hp with ⟨rfl, rfl⟩ | ⟨c18902, c18903, c18904, c18905, rfl, rfl⟩
  · skip
    show GW κ 3 0 0 (wM r g I A L) 5 [(0, .ref (r 0)), (1, .int z1), (2, .int z2)] [.int 0]
    refine g_if_eq (tgt := 25) (a := 0) hk dX12_isOf_5 (by decide) rfl (fun _ => ?_) (fun z9 => absurd (show (0 : Int) = (0 : Int) from by decide) z9)
    refine g_iconst (v := 0) hk dX12_isOf_25 (by decide) ?_
    exact g_iret hk hR rfl (Or.inl ⟨rfl, rfl⟩) dX12_isOf_26
  · skip
    have f18907 : 0 ≤ (A 11 (5 * (I 15) + z1).toNatClampNeg).toInt ∧ (A 11 (5 * (I 15) + z1).toNatClampNeg).toInt ≤ 16 := IvM_a11 hIv _
    show GW κ 3 0 0 (wM r g I A L) 5 [(0, .ref (r 0)), (1, .int z1), (2, .int z2)] [.int 1]
    refine g_if_eq (tgt := 25) (a := 1) hk dX12_isOf_5 (by decide) rfl (fun z9 => absurd z9 (show ¬ ((1 : Int) = (0 : Int)) from by decide)) (fun _ => ?_)
    refine g_aload_n hk dX12_isOf_8 rfl ?_
    refine g_iload_n hk dX12_isOf_9 rfl ?_
    refine g_aload_n hk dX12_isOf_10 rfl ?_
    refine g_iload_n hk dX12_isOf_11 rfl ?_
    refine g_callV (n := 1) hk (j148_X12_wideOf l D zt r g I A L z1 hIv (by omega) (by omega)) (SP.same _) (fun _ h => h) (gi_V (List.mem_cons_of_mem _ (List.mem_append_left _ (List.mem_of_getElem? (i := 4) rfl))) (List.mem_cons_of_mem _ (List.mem_append_left _ (List.mem_of_getElem? (i := 5) rfl))) (List.mem_cons_of_mem _ (List.mem_append_left _ (List.mem_of_getElem? (i := 6) rfl))) (List.mem_cons_of_mem _ (List.mem_append_left _ (List.mem_of_getElem? (i := 3) rfl))) (gi_sub (fun w h => (List.mem_cons_of_mem _ (List.mem_append_right _ (List.mem_append_right _ (List.mem_append_left _ h))))) zg_j148_X12_wideOf)) rfl rfl rfl (by decide +kernel) ⟨Nat.le_of_ble_eq_true rfl, Nat.le_of_ble_eq_true rfl⟩ 0 rfl rfl rfl rfl (Nat.le_of_ble_eq_true rfl) ⟨Nat.le_of_ble_eq_true rfl, Nat.le_of_ble_eq_true rfl⟩ dX12_isOf_12 (fun v ty' w' hp hk' => ?_)
    obtain ⟨rfl, rfl⟩ := hp
    show GW κ 3 0 0 (wM r g I A L) 15 [(0, .ref (r 0)), (1, .int z1), (2, .int z2)] [.int (A 11 (5 * (I 15) + z1).toNatClampNeg), .int z2, .ref (r 0)]
    refine g_callV (n := 2) hk (j160_X12_isWindow l D zt r g I A L z2 (A 11 (5 * (I 15) + z1).toNatClampNeg) hIv) (SP.same _) (fun _ h => h) (gi_V (List.mem_cons_of_mem _ (List.mem_append_left _ (List.mem_of_getElem? (i := 7) rfl))) (List.mem_cons_of_mem _ (List.mem_append_left _ (List.mem_of_getElem? (i := 8) rfl))) (List.mem_cons_of_mem _ (List.mem_append_left _ (List.mem_of_getElem? (i := 9) rfl))) (List.mem_cons_of_mem _ (List.mem_append_left _ (List.mem_of_getElem? (i := 3) rfl))) (gi_sub (fun w h => (List.mem_cons_of_mem _ (List.mem_append_right _ (List.mem_append_right _ (List.mem_append_right _ (List.mem_append_left _ h)))))) zg_j160_X12_isWindow)) rfl rfl rfl (by decide +kernel) ⟨Nat.le_of_ble_eq_true rfl, Nat.le_of_ble_eq_true rfl⟩ 0 rfl rfl rfl rfl (Nat.le_of_ble_eq_true rfl) ⟨Nat.le_of_ble_eq_true rfl, Nat.le_of_ble_eq_true rfl⟩ dX12_isOf_15 (fun v ty' w' hp hk' => ?_)
    rcases hp with ⟨rfl, rfl⟩ | ⟨c18909, c18910, c18911, c18912, c18913, c18914, c18915, rfl, rfl⟩
    · skip
      show GW κ 3 0 0 (wM r g I A L) 18 [(0, .ref (r 0)), (1, .int z1), (2, .int z2)] [.int 0]
      refine g_if_eq (tgt := 25) (a := 0) hk dX12_isOf_18 (by decide) rfl (fun _ => ?_) (fun z9 => absurd (show (0 : Int) = (0 : Int) from by decide) z9)
      refine g_iconst (v := 0) hk dX12_isOf_25 (by decide) ?_
      exact g_iret hk hR rfl (Or.inl ⟨rfl, rfl⟩) dX12_isOf_26
    · skip
      show GW κ 3 0 0 (wM r g I A L) 18 [(0, .ref (r 0)), (1, .int z1), (2, .int z2)] [.int 1]
      refine g_if_eq (tgt := 25) (a := 1) hk dX12_isOf_18 (by decide) rfl (fun z9 => absurd z9 (show ¬ ((1 : Int) = (0 : Int)) from by decide)) (fun _ => ?_)
      refine g_iconst (v := 1) hk dX12_isOf_21 (by decide) ?_
      refine g_goto (tgt := 26) hk dX12_isOf_22 (by decide) ?_
      exact g_iret hk hR rfl (Or.inr (⟨c18902, c18903, c18904, c18909, c18911, c18912, (by omega), (by omega), (by omega), (by omega), (by omega), (by omega), rfl, rfl⟩)) dX12_isOf_26
def wo_j171_X12_changesBoth : List Cond := [Cond.fieldLink RX12 76 "WarpDeskModel" "firstAt" "[I", Cond.fieldLink RX12 79 "WarpDeskModel" "otherAt" "[I"]
def wz_j171_X12_changesBoth : List Cond := .code yX12_changesBoth cX12_changesBoth 4 none :: (wo_j171_X12_changesBoth ++ (wsX120 ++ ([] : List Cond)))
theorem zg_j171_X12_changesBoth : ∀ w ∈ wz_j171_X12_changesBoth, goodWord w = true := zg_cons rfl (zg_app (by decide +kernel) (zg_app zgU_wsX120 zg_nil))
theorem zi_j171_X12_changesBoth : ∀ w ∈ wz_j171_X12_changesBoth, w ∈ lw_tbl := zi_cons zw_1770 (zi_app (zi_cons zw_1416 (zi_cons zw_1417 zi_nil)) (zi_app inX12 zi_nil))
set_option maxHeartbeats 4000000 in
set_option maxRecDepth 100000 in
theorem j171_X12_changesBoth (l : Launch) (D : va_G) (zt : Nat × Nat × Nat × (Nat → Nat) × (Nat → Nat)) (r : Nat → Nat) (g : Nat → ClassId) (I : Nat → Int32) (A : Nat → Nat → Int32) (L : Nat → Nat → Int64) (z1 : Int32) (hIv : IvM I A) (hp0 : 0 ≤ z1.toInt) (hp1 : z1.toInt ≤ 16) : GM l D zt (tyM g) yX12_changesBoth wz_j171_X12_changesBoth ({ frames := 0, cells := 0, slots := 0, locals := 0 } : Room) [.ref (r 0), .int z1] (wM r g I A L) (fun v _ w' => ∃ (I' : Nat → Int32) (A' : Nat → Nat → Int32) (L' : Nat → Nat → Int64), Md [] I I' ∧ Md [19, 20] A A' ∧ IvM I' A' ∧ v = none ∧ w' = wM r g I' A' L') 0 0 := by
  refine GM.of (cc := cX12_changesBoth) (maxL := 4) (ret := none) (own := RX12) (lv := [(0, .ref (r 0)), (1, .int z1)]) (by decide) rfl rfl (Nat.le_of_ble_eq_true rfl) rfl (fun κ sz hk hR hN => ?_)
  have hin12 : ∀ w ∈ u_ws RX12 TX12 55, w ∈ wz_j171_X12_changesBoth := fun w h => (List.mem_cons_of_mem _ (List.mem_append_right _ (List.mem_append_left _ h)))
  refine g_iconst (v := 0) hk dX12_changesBoth_0 (by decide) ?_
  refine g_istore_n (lv' := [(2, .int 0), (0, .ref (r 0)), (1, .int z1)]) hk dX12_changesBoth_1 (by decide) rfl ?_
  have lp18955 : ∀ (n18956 : Nat) (x18941 : Int32) (I18944 : Nat → Int32) (A18944 : Nat → Nat → Int32) (L18944 : Nat → Nat → Int64), (Md [] I I18944) → (Md [19, 20] A A18944) → (IvM I18944 A18944) → (0 ≤ x18941.toInt) → (x18941.toInt ≤ 16) → (17 - x18941.toInt < (n18956 : Int)) → (0 < n18956) → GW κ 4 0 0 (wM r g I18944 A18944 L18944) 2 [(2, .int x18941), (0, .ref (r 0)), (1, .int z1)] [] := by
    intro n18956
    induction n18956 with
    | zero =>
      intro x18941 I18944 A18944 L18944 hI18944 hA18944 hV18944 h18953 h18954 m18957 m18957z
      exact absurd m18957z (Nat.lt_irrefl 0)
    | succ n18956 ih18958 =>
      intro x18941 I18944 A18944 L18944 hI18944 hA18944 hV18944 h18953 h18954 m18957 m18957z
      refine g_iload_n hk dX12_changesBoth_2 rfl ?_
      refine g_iload_n hk dX12_changesBoth_3 rfl ?_
      refine g_icmp_ge (tgt := 39) (a := x18941.toInt) (b := z1.toInt) hk dX12_changesBoth_4 (by decide) rfl rfl (fun c18959 => ?_) (fun c18959 => ?_)
      · skip
        exact g_vret hk hR ⟨I18944, A18944, L18944, (show Md [] I I18944 from (Md.tr Md.rf hI18944 rfl)), (show Md [19, 20] A A18944 from (Md.tr Md.rf hA18944 rfl)), hV18944, rfl, rfl⟩ dX12_changesBoth_39
      · skip
        refine g_aload_n hk dX12_changesBoth_7 rfl ?_
        refine gM_r0_38 hk hin12 (List.mem_cons_of_mem _ (List.mem_append_left _ (List.mem_of_getElem? (i := 0) rfl))) dX12_changesBoth_8 ?_
        refine g_iload_n hk dX12_changesBoth_11 rfl ?_
        refine lM_19 (v := (A18944 19 x18941.toNatClampNeg)) hk (vp_in_iff.mpr ⟨by omega, by omega⟩) rfl dX12_changesBoth_12 ?_
        refine g_istore_n (lv' := [(3, .int (A18944 19 x18941.toNatClampNeg)), (2, .int x18941), (0, .ref (r 0)), (1, .int z1)]) hk dX12_changesBoth_13 (by decide) rfl ?_
        refine g_aload_n hk dX12_changesBoth_14 rfl ?_
        refine gM_r0_38 hk hin12 (List.mem_cons_of_mem _ (List.mem_append_left _ (List.mem_of_getElem? (i := 0) rfl))) dX12_changesBoth_15 ?_
        refine g_iload_n hk dX12_changesBoth_18 rfl ?_
        refine g_aload_n hk dX12_changesBoth_19 rfl ?_
        refine gM_r0_39 hk hin12 (List.mem_cons_of_mem _ (List.mem_append_left _ (List.mem_of_getElem? (i := 1) rfl))) dX12_changesBoth_20 ?_
        refine g_iload_n hk dX12_changesBoth_23 rfl ?_
        refine lM_20 (v := (A18944 20 x18941.toNatClampNeg)) hk (vp_in_iff.mpr ⟨by omega, by omega⟩) rfl dX12_changesBoth_24 ?_
        refine sM_19 (j := x18941.toNatClampNeg) hk (vp_in_iff.mpr ⟨by omega, by omega⟩) rfl dX12_changesBoth_25 ?_
        refine g_aload_n hk dX12_changesBoth_26 rfl ?_
        refine gM_r0_39 hk hin12 (List.mem_cons_of_mem _ (List.mem_append_left _ (List.mem_of_getElem? (i := 1) rfl))) dX12_changesBoth_27 ?_
        refine g_iload_n hk dX12_changesBoth_30 rfl ?_
        refine g_iload_n hk dX12_changesBoth_31 rfl ?_
        refine sM_20 (j := x18941.toNatClampNeg) hk (vp_in_iff.mpr ⟨by omega, by omega⟩) rfl dX12_changesBoth_32 ?_
        obtain ⟨y18960, ey18960⟩ : ∃ y : Int32, y = x18941 + Int32.ofInt 1 := ⟨_, rfl⟩
        have hy18960 : y18960.toInt = x18941.toInt + 1 := i32_add ey18960 rfl (by decide) (by omega) (by omega)
        refine g_iinc (v := y18960) (lv' := [(2, .int y18960), (3, .int (A18944 19 x18941.toNatClampNeg)), (0, .ref (r 0)), (1, .int z1)]) hk 1 dX12_changesBoth_33 rfl ey18960.symm (by decide) rfl ?_
        refine g_goto (tgt := 2) hk dX12_changesBoth_36 (by decide) ?_
        exact g_lv (List.forall_mem_cons.mpr ⟨List.mem_of_getElem? (i := 0) rfl, (List.forall_mem_cons.mpr ⟨List.mem_of_getElem? (i := 2) rfl, (List.forall_mem_cons.mpr ⟨List.mem_of_getElem? (i := 3) rfl, (fun _ h => absurd h List.not_mem_nil)⟩)⟩)⟩) (ih18958 y18960 I18944 (up3 (up3 A18944 19 (x18941.toNatClampNeg) (A18944 20 x18941.toNatClampNeg)) 20 (x18941.toNatClampNeg) (A18944 19 x18941.toNatClampNeg)) L18944 (show Md [] I I18944 from Md.tr hI18944 (show Md [] I18944 I18944 from Md.rf) rfl) (show Md [19, 20] A (up3 (up3 A18944 19 (x18941.toNatClampNeg) (A18944 20 x18941.toNatClampNeg)) 20 (x18941.toNatClampNeg) (A18944 19 x18941.toNatClampNeg)) from Md.tr hA18944 (show Md [19, 20] A18944 (up3 (up3 A18944 19 (x18941.toNatClampNeg) (A18944 20 x18941.toNatClampNeg)) 20 (x18941.toNatClampNeg) (A18944 19 x18941.toNatClampNeg)) from (Md.up3 (Md.up3 Md.rf rfl) rfl)) rfl) ⟨(IvM_f1 (I := I18944) (A := A18944) hV18944), (IvM_f2 (I := I18944) (A := A18944) hV18944), (IvM_f3 (I := I18944) (A := A18944) hV18944), (IvM_f4 (I := I18944) (A := A18944) hV18944), (IvM_f6 (I := I18944) (A := A18944) hV18944), (IvM_f8 (I := I18944) (A := A18944) hV18944), (IvM_f15 (I := I18944) (A := A18944) hV18944), (IvM_f16 (I := I18944) (A := A18944) hV18944), (IvM_f17 (I := I18944) (A := A18944) hV18944), (IvM_f18 (I := I18944) (A := A18944) hV18944), (IvM_f22 (I := I18944) (A := A18944) hV18944), (IvM_f23 (I := I18944) (A := A18944) hV18944), (IvM_f24 (I := I18944) (A := A18944) hV18944), (IvM_a11 (I := I18944) (A := A18944) hV18944), (IvM_a26 (I := I18944) (A := A18944) hV18944), (IvM_s8_0 (I := I18944) (A := A18944) hV18944), (IvM_s8_1 (I := I18944) (A := A18944) hV18944), (IvM_s10_0 (I := I18944) (A := A18944) hV18944), (IvM_s10_1 (I := I18944) (A := A18944) hV18944), (IvM_s17_0 (I := I18944) (A := A18944) hV18944), (IvM_s17_164 (I := I18944) (A := A18944) hV18944), (IvM_lv (I := I18944) (A := A18944) hV18944), (IvM_sd (I := I18944) (A := A18944) hV18944), (IvM_nq (I := I18944) (A := A18944) hV18944), (IvM_hr (I := I18944) (A := A18944) hV18944), (IvM_hh (I := I18944) (A := A18944) hV18944), trivial⟩ (by omega) (by omega) (by omega) (by omega))
  have k18961 : (0 : Int32).toInt = 0 := rfl
  obtain ⟨n18962, n18962a, n18962b⟩ : ∃ n : Nat, 17 - (0 : Int32).toInt < (n : Int) ∧ 0 < n := ⟨((17 - (0 : Int32).toInt : Int)).toNat + 1, by omega, by omega⟩
  exact lp18955 n18962 0 I A L Md.rf Md.rf hIv (by omega) (by omega) n18962a n18962b
def wo_j172_X12_laysQuery : List Cond := [Cond.methodLink RX12 254 yX12_wideOf, Cond.instanceMethod yX12_wideOf, Cond.selects RX12 yX12_wideOf yX12_wideOf, Cond.initialized RX12, Cond.methodLink RX12 264 yX12_levelsFirst, Cond.instanceMethod yX12_levelsFirst, Cond.selects RX12 yX12_levelsFirst yX12_levelsFirst, Cond.fieldLink RX12 76 "WarpDeskModel" "firstAt" "[I", Cond.fieldLink RX12 55 "WarpDeskModel" "queryAt" "[I", Cond.fieldLink RX12 197 "WarpDeskModel" "live" "I"]
def wz_j172_X12_laysQuery : List Cond := .code yX12_laysQuery cX12_laysQuery 3 none :: (wo_j172_X12_laysQuery ++ (wsX120 ++ (wz_j148_X12_wideOf ++ (wz_j166_X12_levelsFirst ++ ([] : List Cond)))))
theorem zg_j172_X12_laysQuery : ∀ w ∈ wz_j172_X12_laysQuery, goodWord w = true := zg_cons rfl (zg_app (by decide +kernel) (zg_app zgU_wsX120 (zg_app zg_j148_X12_wideOf (zg_app zg_j166_X12_levelsFirst zg_nil))))
theorem zi_j172_X12_laysQuery : ∀ w ∈ wz_j172_X12_laysQuery, w ∈ lw_tbl := zi_cons zw_1774 (zi_app (zi_cons zw_1667 (zi_cons zw_1669 (zi_cons zw_68 (zi_cons zw_115 (zi_cons zw_1739 (zi_cons zw_1741 (zi_cons zw_77 (zi_cons zw_1416 (zi_cons zw_1408 (zi_cons zw_1400 zi_nil)))))))))) (zi_app inX12 (zi_app zi_j148_X12_wideOf (zi_app zi_j166_X12_levelsFirst zi_nil))))
set_option maxHeartbeats 4000000 in
set_option maxRecDepth 100000 in
theorem j172_X12_laysQuery (l : Launch) (D : va_G) (zt : Nat × Nat × Nat × (Nat → Nat) × (Nat → Nat)) (r : Nat → Nat) (g : Nat → ClassId) (I : Nat → Int32) (A : Nat → Nat → Int32) (L : Nat → Nat → Int64) (z1 : Int32) (hIv : IvM I A) (hp0 : 0 ≤ z1.toInt) (hp1 : z1.toInt ≤ 4) (hp2 : 1 ≤ (A 11 (5 * (I 15) + z1).toNatClampNeg).toInt) : GM l D zt (tyM g) yX12_laysQuery wz_j172_X12_laysQuery ({ frames := 2, cells := 0, slots := 0, locals := 49 } : Room) [.ref (r 0), .int z1] (wM r g I A L) (fun v _ w' => ∃ (I' : Nat → Int32) (A' : Nat → Nat → Int32) (L' : Nat → Nat → Int64), Md [] I I' ∧ Md [19] A A' ∧ IvM I' A' ∧ v = none ∧ w' = wM r g I' A' L') 0 0 := by
  refine GM.of (cc := cX12_laysQuery) (maxL := 3) (ret := none) (own := RX12) (lv := [(0, .ref (r 0)), (1, .int z1)]) (by decide) rfl rfl (Nat.le_of_ble_eq_true rfl) rfl (fun κ sz hk hR hN => ?_)
  have hin12 : ∀ w ∈ u_ws RX12 TX12 55, w ∈ wz_j172_X12_laysQuery := fun w h => (List.mem_cons_of_mem _ (List.mem_append_right _ (List.mem_append_left _ h)))
  refine g_iconst (v := 0) hk dX12_laysQuery_0 (by decide) ?_
  refine g_istore_n (lv' := [(2, .int 0), (0, .ref (r 0)), (1, .int z1)]) hk dX12_laysQuery_1 (by decide) rfl ?_
  have lp19011 : ∀ (n19012 : Nat) (x18965 : Int32) (I18968 : Nat → Int32) (A18968 : Nat → Nat → Int32) (L18968 : Nat → Nat → Int64), (Md [] I I18968) → (Md [19] A A18968) → (IvM I18968 A18968) → (0 ≤ x18965.toInt) → (x18965.toInt ≤ 16) → (17 - x18965.toInt < (n19012 : Int)) → (0 < n19012) → GW κ 3 0 0 (wM r g I18968 A18968 L18968) 2 [(2, .int x18965), (0, .ref (r 0)), (1, .int z1)] [] := by
    intro n19012
    induction n19012 with
    | zero =>
      intro x18965 I18968 A18968 L18968 hI18968 hA18968 hV18968 h19009 h19010 m19013 m19013z
      exact absurd m19013z (Nat.lt_irrefl 0)
    | succ n19012 ih19014 =>
      intro x18965 I18968 A18968 L18968 hI18968 hA18968 hV18968 h19009 h19010 m19013 m19013z
      refine g_iload_n hk dX12_laysQuery_2 rfl ?_
      refine g_aload_n hk dX12_laysQuery_3 rfl ?_
      refine g_iload_n hk dX12_laysQuery_4 rfl ?_
      refine g_callV (n := 1) hk (j148_X12_wideOf l D zt r g I18968 A18968 L18968 z1 hV18968 (by omega) (by omega)) (SP.same _) (fun _ h => h) (gi_V (List.mem_cons_of_mem _ (List.mem_append_left _ (List.mem_of_getElem? (i := 0) rfl))) (List.mem_cons_of_mem _ (List.mem_append_left _ (List.mem_of_getElem? (i := 1) rfl))) (List.mem_cons_of_mem _ (List.mem_append_left _ (List.mem_of_getElem? (i := 2) rfl))) (List.mem_cons_of_mem _ (List.mem_append_left _ (List.mem_of_getElem? (i := 3) rfl))) (gi_sub (fun w h => (List.mem_cons_of_mem _ (List.mem_append_right _ (List.mem_append_right _ (List.mem_append_left _ h))))) zg_j148_X12_wideOf)) rfl rfl rfl (by decide +kernel) ⟨Nat.le_of_ble_eq_true rfl, Nat.le_of_ble_eq_true rfl⟩ 0 rfl rfl rfl rfl (Nat.le_of_ble_eq_true rfl) ⟨Nat.le_of_ble_eq_true rfl, Nat.le_of_ble_eq_true rfl⟩ dX12_laysQuery_5 (fun v ty' w' hp hk' => ?_)
      obtain ⟨rfl, rfl⟩ := hp
      show GW κ 3 0 0 (wM r g I18968 A18968 L18968) 8 [(2, .int x18965), (0, .ref (r 0)), (1, .int z1)] [.int (A18968 11 (5 * (I18968 15) + z1).toNatClampNeg), .int x18965]
      refine g_norm (v := (A 11 (5 * (I 15) + z1).toNatClampNeg)) (by rw [show I18968 15 = (I 15) from (hI18968 15 rfl)]; exact (congrFun (hA18968 11 rfl) _)) ?_
      have f19015 : 0 ≤ (A 11 (5 * (I 15) + z1).toNatClampNeg).toInt ∧ (A 11 (5 * (I 15) + z1).toNatClampNeg).toInt ≤ 16 := IvM_a11 hIv _
      refine g_icmp_ge (tgt := 41) (a := x18965.toInt) (b := (A 11 (5 * (I 15) + z1).toNatClampNeg).toInt) hk dX12_laysQuery_8 (by decide) rfl rfl (fun c19016 => ?_) (fun c19016 => ?_)
      · skip
        refine g_aload_n hk dX12_laysQuery_41 rfl ?_
        refine g_aload_n hk dX12_laysQuery_42 rfl ?_
        refine g_iload_n hk dX12_laysQuery_43 rfl ?_
        refine g_callV (n := 1) hk (j148_X12_wideOf l D zt r g I18968 A18968 L18968 z1 hV18968 (by omega) (by omega)) (SP.same _) (fun _ h => h) (gi_V (List.mem_cons_of_mem _ (List.mem_append_left _ (List.mem_of_getElem? (i := 0) rfl))) (List.mem_cons_of_mem _ (List.mem_append_left _ (List.mem_of_getElem? (i := 1) rfl))) (List.mem_cons_of_mem _ (List.mem_append_left _ (List.mem_of_getElem? (i := 2) rfl))) (List.mem_cons_of_mem _ (List.mem_append_left _ (List.mem_of_getElem? (i := 3) rfl))) (gi_sub (fun w h => (List.mem_cons_of_mem _ (List.mem_append_right _ (List.mem_append_right _ (List.mem_append_left _ h))))) zg_j148_X12_wideOf)) rfl rfl rfl (by decide +kernel) ⟨Nat.le_of_ble_eq_true rfl, Nat.le_of_ble_eq_true rfl⟩ 0 rfl rfl rfl rfl (Nat.le_of_ble_eq_true rfl) ⟨Nat.le_of_ble_eq_true rfl, Nat.le_of_ble_eq_true rfl⟩ dX12_laysQuery_44 (fun v ty' w' hp hk' => ?_)
        obtain ⟨rfl, rfl⟩ := hp
        show GW κ 3 0 0 (wM r g I18968 A18968 L18968) 47 [(2, .int x18965), (0, .ref (r 0)), (1, .int z1)] [.int (A18968 11 (5 * (I18968 15) + z1).toNatClampNeg), .ref (r 0)]
        refine g_norm (v := (A 11 (5 * (I 15) + z1).toNatClampNeg)) (by rw [show I18968 15 = (I 15) from (hI18968 15 rfl)]; exact (congrFun (hA18968 11 rfl) _)) ?_
        refine g_callV (n := 1) hk (j166_X12_levelsFirst l D zt r g I18968 A18968 L18968 (A 11 (5 * (I 15) + z1).toNatClampNeg) hV18968 (by omega) (by omega)) (SP.same _) (fun _ h => h) (gi_V (List.mem_cons_of_mem _ (List.mem_append_left _ (List.mem_of_getElem? (i := 4) rfl))) (List.mem_cons_of_mem _ (List.mem_append_left _ (List.mem_of_getElem? (i := 5) rfl))) (List.mem_cons_of_mem _ (List.mem_append_left _ (List.mem_of_getElem? (i := 6) rfl))) (List.mem_cons_of_mem _ (List.mem_append_left _ (List.mem_of_getElem? (i := 3) rfl))) (gi_sub (fun w h => (List.mem_cons_of_mem _ (List.mem_append_right _ (List.mem_append_right _ (List.mem_append_right _ (List.mem_append_left _ h)))))) zg_j166_X12_levelsFirst)) rfl rfl rfl (by decide +kernel) ⟨Nat.le_of_ble_eq_true rfl, Nat.le_of_ble_eq_true rfl⟩ 0 rfl rfl rfl rfl (Nat.le_of_ble_eq_true rfl) ⟨Nat.le_of_ble_eq_true rfl, Nat.le_of_ble_eq_true rfl⟩ dX12_laysQuery_47 (fun v ty' w' hp hk' => ?_)
        obtain ⟨I19018, A19018, L19018, hI19018, hA19018, hV19018, rfl, rfl⟩ := hp
        show GW κ 3 0 0 (wM r g I19018 A19018 L19018) 50 [(2, .int x18965), (0, .ref (r 0)), (1, .int z1)] []
        exact g_vret hk hR ⟨I19018, A19018, L19018, (show Md [] I I19018 from (Md.tr (Md.tr Md.rf hI18968 rfl) hI19018 rfl)), (show Md [19] A A19018 from (Md.tr (Md.tr Md.rf hA18968 rfl) hA19018 rfl)), hV19018, rfl, rfl⟩ dX12_laysQuery_50
      · skip
        refine g_aload_n hk dX12_laysQuery_11 rfl ?_
        refine gM_r0_38 hk hin12 (List.mem_cons_of_mem _ (List.mem_append_left _ (List.mem_of_getElem? (i := 7) rfl))) dX12_laysQuery_12 ?_
        refine g_iload_n hk dX12_laysQuery_15 rfl ?_
        refine g_aload_n hk dX12_laysQuery_16 rfl ?_
        refine gM_r0_30 hk hin12 (List.mem_cons_of_mem _ (List.mem_append_left _ (List.mem_of_getElem? (i := 8) rfl))) dX12_laysQuery_17 ?_
        refine g_bipush (v := 16) hk dX12_laysQuery_20 (by decide) ?_
        refine g_iconst (v := 5) hk dX12_laysQuery_22 (by decide) ?_
        refine g_aload_n hk dX12_laysQuery_23 rfl ?_
        refine gM_i15 (v := (I 15)) hk hin12 (List.mem_cons_of_mem _ (List.mem_append_left _ (List.mem_of_getElem? (i := 9) rfl))) dX12_laysQuery_24 (hI18968 15 rfl) ?_
        have f19019 := IvM_f15 hIv
        refine g_imul hk dX12_laysQuery_27 ?_
        refine g_topi (fun y19020 ey19020 => ?_)
        have hy19020 : y19020.toInt = 5 * (I 15).toInt := i32_mul ey19020 rfl rfl (by omega) (by omega)
        refine g_iload_n hk dX12_laysQuery_28 rfl ?_
        refine g_iadd hk dX12_laysQuery_29 ?_
        refine g_topi (fun y19021 ey19021 => ?_)
        have hy19021 : y19021.toInt = y19020.toInt + z1.toInt := i32_add ey19021 rfl rfl (by omega) (by omega)
        refine g_imul hk dX12_laysQuery_30 ?_
        refine g_topi (fun y19022 ey19022 => ?_)
        have hy19022 : y19022.toInt = 16 * y19021.toInt := i32_mul ey19022 rfl rfl (by omega) (by omega)
        refine g_iload_n hk dX12_laysQuery_31 rfl ?_
        refine g_iadd hk dX12_laysQuery_32 ?_
        refine g_topi (fun y19023 ey19023 => ?_)
        have hy19023 : y19023.toInt = y19022.toInt + x18965.toInt := i32_add ey19023 rfl rfl (by omega) (by omega)
        refine lM_12 (v := (A 12 y19023.toNatClampNeg)) hk (vp_in_iff.mpr ⟨by omega, by omega⟩) (congrFun (hA18968 12 rfl) _) dX12_laysQuery_33 ?_
        refine sM_19 (j := x18965.toNatClampNeg) hk (vp_in_iff.mpr ⟨by omega, by omega⟩) rfl dX12_laysQuery_34 ?_
        obtain ⟨y19024, ey19024⟩ : ∃ y : Int32, y = x18965 + Int32.ofInt 1 := ⟨_, rfl⟩
        have hy19024 : y19024.toInt = x18965.toInt + 1 := i32_add ey19024 rfl (by decide) (by omega) (by omega)
        refine g_iinc (v := y19024) (lv' := [(2, .int y19024), (0, .ref (r 0)), (1, .int z1)]) hk 0 dX12_laysQuery_35 rfl ey19024.symm (by decide) rfl ?_
        refine g_goto (tgt := 2) hk dX12_laysQuery_38 (by decide) ?_
        exact g_lv (List.forall_mem_cons.mpr ⟨List.mem_of_getElem? (i := 0) rfl, (List.forall_mem_cons.mpr ⟨List.mem_of_getElem? (i := 1) rfl, (List.forall_mem_cons.mpr ⟨List.mem_of_getElem? (i := 2) rfl, (fun _ h => absurd h List.not_mem_nil)⟩)⟩)⟩) (ih19014 y19024 I18968 (up3 A18968 19 (x18965.toNatClampNeg) (A 12 y19023.toNatClampNeg)) L18968 (show Md [] I I18968 from Md.tr hI18968 (show Md [] I18968 I18968 from Md.rf) rfl) (show Md [19] A (up3 A18968 19 (x18965.toNatClampNeg) (A 12 y19023.toNatClampNeg)) from Md.tr hA18968 (show Md [19] A18968 (up3 A18968 19 (x18965.toNatClampNeg) (A 12 y19023.toNatClampNeg)) from (Md.up3 Md.rf rfl)) rfl) ⟨(IvM_f1 (I := I18968) (A := A18968) hV18968), (IvM_f2 (I := I18968) (A := A18968) hV18968), (IvM_f3 (I := I18968) (A := A18968) hV18968), (IvM_f4 (I := I18968) (A := A18968) hV18968), (IvM_f6 (I := I18968) (A := A18968) hV18968), (IvM_f8 (I := I18968) (A := A18968) hV18968), (IvM_f15 (I := I18968) (A := A18968) hV18968), (IvM_f16 (I := I18968) (A := A18968) hV18968), (IvM_f17 (I := I18968) (A := A18968) hV18968), (IvM_f18 (I := I18968) (A := A18968) hV18968), (IvM_f22 (I := I18968) (A := A18968) hV18968), (IvM_f23 (I := I18968) (A := A18968) hV18968), (IvM_f24 (I := I18968) (A := A18968) hV18968), (IvM_a11 (I := I18968) (A := A18968) hV18968), (IvM_a26 (I := I18968) (A := A18968) hV18968), (IvM_s8_0 (I := I18968) (A := A18968) hV18968), (IvM_s8_1 (I := I18968) (A := A18968) hV18968), (IvM_s10_0 (I := I18968) (A := A18968) hV18968), (IvM_s10_1 (I := I18968) (A := A18968) hV18968), (IvM_s17_0 (I := I18968) (A := A18968) hV18968), (IvM_s17_164 (I := I18968) (A := A18968) hV18968), (IvM_lv (I := I18968) (A := A18968) hV18968), (IvM_sd (I := I18968) (A := A18968) hV18968), (IvM_nq (I := I18968) (A := A18968) hV18968), (IvM_hr (I := I18968) (A := A18968) hV18968), (IvM_hh (I := I18968) (A := A18968) hV18968), trivial⟩ (by omega) (by omega) (by omega) (by omega))
  have k19025 : (0 : Int32).toInt = 0 := rfl
  obtain ⟨n19026, n19026a, n19026b⟩ : ∃ n : Nat, 17 - (0 : Int32).toInt < (n : Int) ∧ 0 < n := ⟨((17 - (0 : Int32).toInt : Int)).toNat + 1, by omega, by omega⟩
  exact lp19011 n19026 0 I A L Md.rf Md.rf hIv (by omega) (by omega) n19026a n19026b
def wo_j170_X12_laysBoth : List Cond := [Cond.methodLink RX12 254 yX12_wideOf, Cond.instanceMethod yX12_wideOf, Cond.selects RX12 yX12_wideOf yX12_wideOf, Cond.initialized RX12, Cond.fieldLink RX12 267 "WarpDeskModel" "wide" "I", Cond.methodLink RX12 270 yX12_laysWindow, Cond.instanceMethod yX12_laysWindow, Cond.selects RX12 yX12_laysWindow yX12_laysWindow, Cond.methodLink RX12 273 yX12_changesBoth, Cond.instanceMethod yX12_changesBoth, Cond.selects RX12 yX12_changesBoth yX12_changesBoth, Cond.methodLink RX12 276 yX12_laysQuery, Cond.instanceMethod yX12_laysQuery, Cond.selects RX12 yX12_laysQuery yX12_laysQuery]
def wz_j170_X12_laysBoth : List Cond := .code yX12_laysBoth cX12_laysBoth 3 none :: (wo_j170_X12_laysBoth ++ (wsX120 ++ (wz_j148_X12_wideOf ++ (wz_j165_X12_laysWindow ++ (wz_j171_X12_changesBoth ++ (wz_j172_X12_laysQuery ++ ([] : List Cond)))))))
theorem zg_j170_X12_laysBoth : ∀ w ∈ wz_j170_X12_laysBoth, goodWord w = true := zg_cons rfl (zg_app (by decide +kernel) (zg_app zgU_wsX120 (zg_app zg_j148_X12_wideOf (zg_app zg_j165_X12_laysWindow (zg_app zg_j171_X12_changesBoth (zg_app zg_j172_X12_laysQuery zg_nil))))))
theorem zi_j170_X12_laysBoth : ∀ w ∈ wz_j170_X12_laysBoth, w ∈ lw_tbl := zi_cons zw_1766 (zi_app (zi_cons zw_1667 (zi_cons zw_1669 (zi_cons zw_68 (zi_cons zw_115 (zi_cons zw_1415 (zi_cons zw_1735 (zi_cons zw_1737 (zi_cons zw_76 (zi_cons zw_1767 (zi_cons zw_1769 (zi_cons zw_81 (zi_cons zw_1771 (zi_cons zw_1773 (zi_cons zw_82 zi_nil)))))))))))))) (zi_app inX12 (zi_app zi_j148_X12_wideOf (zi_app zi_j165_X12_laysWindow (zi_app zi_j171_X12_changesBoth (zi_app zi_j172_X12_laysQuery zi_nil))))))
set_option maxHeartbeats 4000000 in
set_option maxRecDepth 100000 in
theorem j170_X12_laysBoth (l : Launch) (D : va_G) (zt : Nat × Nat × Nat × (Nat → Nat) × (Nat → Nat)) (r : Nat → Nat) (g : Nat → ClassId) (I : Nat → Int32) (A : Nat → Nat → Int32) (L : Nat → Nat → Int64) (z1 : Int32) (z2 : Int32) (hIv : IvM I A) (hp0 : 0 ≤ z1.toInt) (hp1 : z1.toInt ≤ 4) (hp2 : 0 ≤ z2.toInt) (hp3 : z2.toInt ≤ 159) (hp4 : 1 ≤ (A 11 (5 * (I 15) + z1).toNatClampNeg).toInt) (hp5 : z2.toInt + (A 11 (5 * (I 15) + z1).toNatClampNeg).toInt ≤ 160) : GM l D zt (tyM g) yX12_laysBoth wz_j170_X12_laysBoth ({ frames := 3, cells := 0, slots := 0, locals := 72 } : Room) [.ref (r 0), .int z1, .int z2] (wM r g I A L) (fun v _ w' => ∃ (I' : Nat → Int32) (A' : Nat → Nat → Int32) (L' : Nat → Nat → Int64), Md [18] I I' ∧ Md [19, 20] A A' ∧ IvM I' A' ∧ (1 ≤ (I' 18).toInt) ∧ v = none ∧ w' = wM r g I' A' L') 0 0 := by
  refine GM.of (cc := cX12_laysBoth) (maxL := 3) (ret := none) (own := RX12) (lv := [(0, .ref (r 0)), (1, .int z1), (2, .int z2)]) (by decide) rfl rfl (Nat.le_of_ble_eq_true rfl) rfl (fun κ sz hk hR hN => ?_)
  have hin12 : ∀ w ∈ u_ws RX12 TX12 55, w ∈ wz_j170_X12_laysBoth := fun w h => (List.mem_cons_of_mem _ (List.mem_append_right _ (List.mem_append_left _ h)))
  refine g_aload_n hk dX12_laysBoth_0 rfl ?_
  refine g_aload_n hk dX12_laysBoth_1 rfl ?_
  refine g_iload_n hk dX12_laysBoth_2 rfl ?_
  refine g_callV (n := 1) hk (j148_X12_wideOf l D zt r g I A L z1 hIv (by omega) (by omega)) (SP.same _) (fun _ h => h) (gi_V (List.mem_cons_of_mem _ (List.mem_append_left _ (List.mem_of_getElem? (i := 0) rfl))) (List.mem_cons_of_mem _ (List.mem_append_left _ (List.mem_of_getElem? (i := 1) rfl))) (List.mem_cons_of_mem _ (List.mem_append_left _ (List.mem_of_getElem? (i := 2) rfl))) (List.mem_cons_of_mem _ (List.mem_append_left _ (List.mem_of_getElem? (i := 3) rfl))) (gi_sub (fun w h => (List.mem_cons_of_mem _ (List.mem_append_right _ (List.mem_append_right _ (List.mem_append_left _ h))))) zg_j148_X12_wideOf)) rfl rfl rfl (by decide +kernel) ⟨Nat.le_of_ble_eq_true rfl, Nat.le_of_ble_eq_true rfl⟩ 0 rfl rfl rfl rfl (Nat.le_of_ble_eq_true rfl) ⟨Nat.le_of_ble_eq_true rfl, Nat.le_of_ble_eq_true rfl⟩ dX12_laysBoth_3 (fun v ty' w' hp hk' => ?_)
  obtain ⟨rfl, rfl⟩ := hp
  show GW κ 3 0 0 (wM r g I A L) 6 [(0, .ref (r 0)), (1, .int z1), (2, .int z2)] [.int (A 11 (5 * (I 15) + z1).toNatClampNeg), .ref (r 0)]
  have f18938 : 0 ≤ (A 11 (5 * (I 15) + z1).toNatClampNeg).toInt ∧ (A 11 (5 * (I 15) + z1).toNatClampNeg).toInt ≤ 16 := IvM_a11 hIv _
  refine pM_i18 hk hin12 (List.mem_cons_of_mem _ (List.mem_append_left _ (List.mem_of_getElem? (i := 4) rfl))) dX12_laysBoth_6 ?_
  refine g_aload_n hk dX12_laysBoth_9 rfl ?_
  refine g_iload_n hk dX12_laysBoth_10 rfl ?_
  refine g_aload_n hk dX12_laysBoth_11 rfl ?_
  refine gM_i18 (v := (A 11 (5 * (I 15) + z1).toNatClampNeg)) hk hin12 (List.mem_cons_of_mem _ (List.mem_append_left _ (List.mem_of_getElem? (i := 4) rfl))) dX12_laysBoth_12 rfl ?_
  refine g_callV (n := 2) hk (j165_X12_laysWindow l D zt r g (upd I 18 (A 11 (5 * (I 15) + z1).toNatClampNeg)) A L z2 (A 11 (5 * (I 15) + z1).toNatClampNeg) ⟨(IvM_f1 (I := I) (A := A) hIv), (IvM_f2 (I := I) (A := A) hIv), (IvM_f3 (I := I) (A := A) hIv), (IvM_f4 (I := I) (A := A) hIv), (IvM_f6 (I := I) (A := A) hIv), (IvM_f8 (I := I) (A := A) hIv), (IvM_f15 (I := I) (A := A) hIv), (IvM_f16 (I := I) (A := A) hIv), (IvM_f17 (I := I) (A := A) hIv), (show 0 ≤ (A 11 (5 * (I 15) + z1).toNatClampNeg).toInt ∧ (A 11 (5 * (I 15) + z1).toNatClampNeg).toInt ≤ 16 from ⟨by omega, by omega⟩), (IvM_f22 (I := I) (A := A) hIv), (IvM_f23 (I := I) (A := A) hIv), (IvM_f24 (I := I) (A := A) hIv), (IvM_a11 (I := I) (A := A) hIv), (IvM_a26 (I := I) (A := A) hIv), (IvM_s8_0 (I := I) (A := A) hIv), (IvM_s8_1 (I := I) (A := A) hIv), (IvM_s10_0 (I := I) (A := A) hIv), (IvM_s10_1 (I := I) (A := A) hIv), (IvM_s17_0 (I := I) (A := A) hIv), (IvM_s17_164 (I := I) (A := A) hIv), (IvM_lv (I := I) (A := A) hIv), (IvM_sd (I := I) (A := A) hIv), (IvM_nq (I := I) (A := A) hIv), (IvM_hr (I := I) (A := A) hIv), (IvM_hh (I := I) (A := A) hIv), trivial⟩ (by omega) (by omega) (by omega) (by omega) (by omega)) (SP.same _) (fun _ h => h) (gi_V (List.mem_cons_of_mem _ (List.mem_append_left _ (List.mem_of_getElem? (i := 5) rfl))) (List.mem_cons_of_mem _ (List.mem_append_left _ (List.mem_of_getElem? (i := 6) rfl))) (List.mem_cons_of_mem _ (List.mem_append_left _ (List.mem_of_getElem? (i := 7) rfl))) (List.mem_cons_of_mem _ (List.mem_append_left _ (List.mem_of_getElem? (i := 3) rfl))) (gi_sub (fun w h => (List.mem_cons_of_mem _ (List.mem_append_right _ (List.mem_append_right _ (List.mem_append_right _ (List.mem_append_left _ h)))))) zg_j165_X12_laysWindow)) rfl rfl rfl (by decide +kernel) ⟨Nat.le_of_ble_eq_true rfl, Nat.le_of_ble_eq_true rfl⟩ 0 rfl rfl rfl rfl (Nat.le_of_ble_eq_true rfl) ⟨Nat.le_of_ble_eq_true rfl, Nat.le_of_ble_eq_true rfl⟩ dX12_laysBoth_15 (fun v ty' w' hp hk' => ?_)
  obtain ⟨I18940, A18940, L18940, hI18940, hA18940, hV18940, rfl, rfl⟩ := hp
  show GW κ 3 0 0 (wM r g I18940 A18940 L18940) 18 [(0, .ref (r 0)), (1, .int z1), (2, .int z2)] []
  refine g_aload_n hk dX12_laysBoth_18 rfl ?_
  refine g_aload_n hk dX12_laysBoth_19 rfl ?_
  refine gM_i18 (v := (A 11 (5 * (I 15) + z1).toNatClampNeg)) hk hin12 (List.mem_cons_of_mem _ (List.mem_append_left _ (List.mem_of_getElem? (i := 4) rfl))) dX12_laysBoth_20 (hI18940 18 rfl) ?_
  refine g_callV (n := 1) hk (j171_X12_changesBoth l D zt r g I18940 A18940 L18940 (A 11 (5 * (I 15) + z1).toNatClampNeg) hV18940 (by omega) (by omega)) (SP.same _) (fun _ h => h) (gi_V (List.mem_cons_of_mem _ (List.mem_append_left _ (List.mem_of_getElem? (i := 8) rfl))) (List.mem_cons_of_mem _ (List.mem_append_left _ (List.mem_of_getElem? (i := 9) rfl))) (List.mem_cons_of_mem _ (List.mem_append_left _ (List.mem_of_getElem? (i := 10) rfl))) (List.mem_cons_of_mem _ (List.mem_append_left _ (List.mem_of_getElem? (i := 3) rfl))) (gi_sub (fun w h => (List.mem_cons_of_mem _ (List.mem_append_right _ (List.mem_append_right _ (List.mem_append_right _ (List.mem_append_right _ (List.mem_append_left _ h))))))) zg_j171_X12_changesBoth)) rfl rfl rfl (by decide +kernel) ⟨Nat.le_of_ble_eq_true rfl, Nat.le_of_ble_eq_true rfl⟩ 0 rfl rfl rfl rfl (Nat.le_of_ble_eq_true rfl) ⟨Nat.le_of_ble_eq_true rfl, Nat.le_of_ble_eq_true rfl⟩ dX12_laysBoth_23 (fun v ty' w' hp hk' => ?_)
  obtain ⟨I18964, A18964, L18964, hI18964, hA18964, hV18964, rfl, rfl⟩ := hp
  show GW κ 3 0 0 (wM r g I18964 A18964 L18964) 26 [(0, .ref (r 0)), (1, .int z1), (2, .int z2)] []
  refine g_aload_n hk dX12_laysBoth_26 rfl ?_
  refine g_iload_n hk dX12_laysBoth_27 rfl ?_
  refine g_callV (n := 1) hk (j172_X12_laysQuery l D zt r g I18964 A18964 L18964 z1 hV18964 (by omega) (by omega) (by first | (rw [show (A18964 11 (5 * (I18964 15) + z1).toNatClampNeg) = (A 11 (5 * (I 15) + z1).toNatClampNeg) from (by rw [show I18964 15 = (I 15) from ((hI18964 15 rfl).trans (hI18940 15 rfl))]; exact ((congrFun (hA18964 11 rfl) _).trans (congrFun (hA18940 11 rfl) _)))] <;> omega) | omega)) (SP.same _) (fun _ h => h) (gi_V (List.mem_cons_of_mem _ (List.mem_append_left _ (List.mem_of_getElem? (i := 11) rfl))) (List.mem_cons_of_mem _ (List.mem_append_left _ (List.mem_of_getElem? (i := 12) rfl))) (List.mem_cons_of_mem _ (List.mem_append_left _ (List.mem_of_getElem? (i := 13) rfl))) (List.mem_cons_of_mem _ (List.mem_append_left _ (List.mem_of_getElem? (i := 3) rfl))) (gi_sub (fun w h => (List.mem_cons_of_mem _ (List.mem_append_right _ (List.mem_append_right _ (List.mem_append_right _ (List.mem_append_right _ (List.mem_append_right _ (List.mem_append_left _ h)))))))) zg_j172_X12_laysQuery)) rfl rfl rfl (by decide +kernel) ⟨Nat.le_of_ble_eq_true rfl, Nat.le_of_ble_eq_true rfl⟩ 0 rfl rfl rfl rfl (Nat.le_of_ble_eq_true rfl) ⟨Nat.le_of_ble_eq_true rfl, Nat.le_of_ble_eq_true rfl⟩ dX12_laysBoth_28 (fun v ty' w' hp hk' => ?_)
  obtain ⟨I19028, A19028, L19028, hI19028, hA19028, hV19028, rfl, rfl⟩ := hp
  show GW κ 3 0 0 (wM r g I19028 A19028 L19028) 31 [(0, .ref (r 0)), (1, .int z1), (2, .int z2)] []
  exact g_vret hk hR ⟨I19028, A19028, L19028, (show Md [18] I I19028 from (Md.tr (Md.tr (Md.tr (Md.up Md.rf rfl) hI18940 rfl) hI18964 rfl) hI19028 rfl)), (show Md [19, 20] A A19028 from (Md.tr (Md.tr (Md.tr Md.rf hA18940 rfl) hA18964 rfl) hA19028 rfl)), hV19028, (by rw [show (I19028 18) = (A 11 (5 * (I 15) + z1).toNatClampNeg) from ((hI19028 18 rfl).trans ((hI18964 18 rfl).trans (hI18940 18 rfl)))] <;> omega), rfl, rfl⟩ dX12_laysBoth_31
def wo_j175_X12_isBand : List Cond := [Cond.fieldLink RX12 267 "WarpDeskModel" "wide" "I", Cond.methodLink RX12 244 yX12_in, Cond.static yX12_in, Cond.initialized RX12, Cond.fieldLink RX12 73 "WarpDeskModel" "row" "[I"]
def wz_j175_X12_isBand : List Cond := .code yX12_isBand cX12_isBand 3 (some .boolean) :: (wo_j175_X12_isBand ++ (wsX120 ++ (wz_j145_X12_in ++ ([] : List Cond))))
theorem zg_j175_X12_isBand : ∀ w ∈ wz_j175_X12_isBand, goodWord w = true := zg_cons rfl (zg_app (by decide +kernel) (zg_app zgU_wsX120 (zg_app zg_j145_X12_in zg_nil)))
theorem zi_j175_X12_isBand : ∀ w ∈ wz_j175_X12_isBand, w ∈ lw_tbl := zi_cons zw_1787 (zi_app (zi_cons zw_1415 (zi_cons zw_1656 (zi_cons zw_1657 (zi_cons zw_115 (zi_cons zw_1414 zi_nil))))) (zi_app inX12 (zi_app zi_j145_X12_in zi_nil)))
set_option maxHeartbeats 4000000 in
set_option maxRecDepth 100000 in
theorem j175_X12_isBand (l : Launch) (D : va_G) (zt : Nat × Nat × Nat × (Nat → Nat) × (Nat → Nat)) (r : Nat → Nat) (g : Nat → ClassId) (I : Nat → Int32) (A : Nat → Nat → Int32) (L : Nat → Nat → Int64) (z1 : Int32) (z2 : Int32) (hIv : IvM I A) (hp0 : (-1) ≤ z1.toInt) (hp1 : z1.toInt ≤ 15) (hp2 : (-1) ≤ z2.toInt) (hp3 : z2.toInt ≤ 15) : GM l D zt (tyM g) yX12_isBand wz_j175_X12_isBand ({ frames := 1, cells := 0, slots := 0, locals := 22 } : Room) [.ref (r 0), .int z1, .int z2] (wM r g I A L) (fun v _ w' => (v = some (.int 0) ∧ w' = wM r g I A L) ∨ ((¬ (z2.toInt < 0)) ∧ (0 ≤ z2.toInt) ∧ v = some (.int 1) ∧ w' = wM r g I A L)) 0 0 := by
  refine GM.of (cc := cX12_isBand) (maxL := 3) (ret := (some .boolean)) (own := RX12) (lv := [(0, .ref (r 0)), (1, .int z1), (2, .int z2)]) (by decide) rfl rfl (Nat.le_of_ble_eq_true rfl) rfl (fun κ sz hk hR hN => ?_)
  have hin12 : ∀ w ∈ u_ws RX12 TX12 55, w ∈ wz_j175_X12_isBand := fun w h => (List.mem_cons_of_mem _ (List.mem_append_right _ (List.mem_append_left _ h)))
  refine g_iload_n hk dX12_isBand_0 rfl ?_
  refine g_iconst (v := 0) hk dX12_isBand_1 (by decide) ?_
  refine g_aload_n hk dX12_isBand_2 rfl ?_
  refine gM_i18 (v := (I 18)) hk hin12 (List.mem_cons_of_mem _ (List.mem_append_left _ (List.mem_of_getElem? (i := 0) rfl))) dX12_isBand_3 rfl ?_
  have f19044 := IvM_f18 hIv
  refine g_iconst (v := 1) hk dX12_isBand_6 (by decide) ?_
  refine g_isub hk dX12_isBand_7 ?_
  refine g_topi (fun y19045 ey19045 => ?_)
  have hy19045 : y19045.toInt = (I 18).toInt - 1 := i32_sub ey19045 rfl rfl (by omega) (by omega)
  have k19046 : (0 : Int32).toInt = 0 := rfl
  refine g_callS (n := 3) hk (j145_X12_in l D zt r g I A L z2 0 y19045 hIv) (SP.same _) (fun _ h => h) (gi_S (List.mem_cons_of_mem _ (List.mem_append_left _ (List.mem_of_getElem? (i := 1) rfl))) (List.mem_cons_of_mem _ (List.mem_append_left _ (List.mem_of_getElem? (i := 2) rfl))) (List.mem_cons_of_mem _ (List.mem_append_left _ (List.mem_of_getElem? (i := 3) rfl))) (gi_sub (fun w h => (List.mem_cons_of_mem _ (List.mem_append_right _ (List.mem_append_right _ (List.mem_append_left _ h))))) zg_j145_X12_in)) rfl rfl rfl (by decide +kernel) ⟨Nat.le_of_ble_eq_true rfl, Nat.le_of_ble_eq_true rfl⟩ rfl rfl (Nat.le_of_ble_eq_true rfl) ⟨Nat.le_of_ble_eq_true rfl, Nat.le_of_ble_eq_true rfl⟩ dX12_isBand_8 (fun v ty' w' hp hk' => ?_)
  rcases hp with ⟨c19047, rfl, rfl⟩ | ⟨c19049, c19050, rfl, rfl⟩
  · skip
    show GW κ 3 0 0 (wM r g I A L) 11 [(0, .ref (r 0)), (1, .int z1), (2, .int z2)] [.int 0]
    refine g_if_eq (tgt := 44) (a := 0) hk dX12_isBand_11 (by decide) rfl (fun _ => ?_) (fun z9 => absurd (show (0 : Int) = (0 : Int) from by decide) z9)
    refine g_iconst (v := 0) hk dX12_isBand_44 (by decide) ?_
    exact g_iret hk hR rfl (Or.inl ⟨rfl, rfl⟩) dX12_isBand_45
  · skip
    show GW κ 3 0 0 (wM r g I A L) 11 [(0, .ref (r 0)), (1, .int z1), (2, .int z2)] [.int 1]
    refine g_if_eq (tgt := 44) (a := 1) hk dX12_isBand_11 (by decide) rfl (fun z9 => absurd z9 (show ¬ ((1 : Int) = (0 : Int)) from by decide)) (fun _ => ?_)
    refine g_iload_n hk dX12_isBand_14 rfl ?_
    refine g_iload_n hk dX12_isBand_15 rfl ?_
    refine g_isub hk dX12_isBand_16 ?_
    refine g_topi (fun y19052 ey19052 => ?_)
    have hy19052 : y19052.toInt = z1.toInt - z2.toInt := i32_sub ey19052 rfl rfl (by omega) (by omega)
    refine g_aload_n hk dX12_isBand_17 rfl ?_
    refine gM_r0_36 hk hin12 (List.mem_cons_of_mem _ (List.mem_append_left _ (List.mem_of_getElem? (i := 4) rfl))) dX12_isBand_18 ?_
    refine g_sipush (v := 161) hk dX12_isBand_21 (by decide) ?_
    refine lM_18 (v := (A 18 161)) hk (vp_in_iff.mpr ⟨by decide, by decide⟩) rfl dX12_isBand_24 ?_
    refine g_ineg hk dX12_isBand_25 ?_
    refine g_topi (fun y19053 ey19053 => ?_)
    refine g_aload_n hk dX12_isBand_26 rfl ?_
    refine gM_r0_36 hk hin12 (List.mem_cons_of_mem _ (List.mem_append_left _ (List.mem_of_getElem? (i := 4) rfl))) dX12_isBand_27 ?_
    refine g_sipush (v := 161) hk dX12_isBand_30 (by decide) ?_
    refine lM_18 (v := (A 18 161)) hk (vp_in_iff.mpr ⟨by decide, by decide⟩) rfl dX12_isBand_33 ?_
    refine g_callS (n := 3) hk (j145_X12_in l D zt r g I A L y19052 y19053 (A 18 161) hIv) (SP.same _) (fun _ h => h) (gi_S (List.mem_cons_of_mem _ (List.mem_append_left _ (List.mem_of_getElem? (i := 1) rfl))) (List.mem_cons_of_mem _ (List.mem_append_left _ (List.mem_of_getElem? (i := 2) rfl))) (List.mem_cons_of_mem _ (List.mem_append_left _ (List.mem_of_getElem? (i := 3) rfl))) (gi_sub (fun w h => (List.mem_cons_of_mem _ (List.mem_append_right _ (List.mem_append_right _ (List.mem_append_left _ h))))) zg_j145_X12_in)) rfl rfl rfl (by decide +kernel) ⟨Nat.le_of_ble_eq_true rfl, Nat.le_of_ble_eq_true rfl⟩ rfl rfl (Nat.le_of_ble_eq_true rfl) ⟨Nat.le_of_ble_eq_true rfl, Nat.le_of_ble_eq_true rfl⟩ dX12_isBand_34 (fun v ty' w' hp hk' => ?_)
    rcases hp with ⟨c19054, rfl, rfl⟩ | ⟨c19056, c19057, rfl, rfl⟩
    · skip
      have b19059l := Int32.le_toInt y19053
      have b19059h := Int32.toInt_lt y19053
      have b19060l := Int32.le_toInt (A 18 161)
      have b19060h := Int32.toInt_lt (A 18 161)
      show GW κ 3 0 0 (wM r g I A L) 37 [(0, .ref (r 0)), (1, .int z1), (2, .int z2)] [.int 0]
      refine g_if_eq (tgt := 44) (a := 0) hk dX12_isBand_37 (by decide) rfl (fun _ => ?_) (fun z9 => absurd (show (0 : Int) = (0 : Int) from by decide) z9)
      refine g_iconst (v := 0) hk dX12_isBand_44 (by decide) ?_
      exact g_iret hk hR rfl (Or.inl ⟨rfl, rfl⟩) dX12_isBand_45
    · skip
      show GW κ 3 0 0 (wM r g I A L) 37 [(0, .ref (r 0)), (1, .int z1), (2, .int z2)] [.int 1]
      refine g_if_eq (tgt := 44) (a := 1) hk dX12_isBand_37 (by decide) rfl (fun z9 => absurd z9 (show ¬ ((1 : Int) = (0 : Int)) from by decide)) (fun _ => ?_)
      refine g_iconst (v := 1) hk dX12_isBand_40 (by decide) ?_
      refine g_goto (tgt := 45) hk dX12_isBand_41 (by decide) ?_
      exact g_iret hk hR rfl (Or.inr (⟨c19049, (by omega), rfl, rfl⟩)) dX12_isBand_45
def wo_j174_X12_atTable : List Cond := [Cond.constant RX12 282 (2000000000), Cond.methodLink RX12 279 yX12_isBand, Cond.instanceMethod yX12_isBand, Cond.selects RX12 yX12_isBand yX12_isBand, Cond.initialized RX12, Cond.fieldLink RX12 82 "WarpDeskModel" "tableAt" "[I"]
def wz_j174_X12_atTable : List Cond := .code yX12_atTable cX12_atTable 3 (some .int) :: (wo_j174_X12_atTable ++ (wsX120 ++ (wz_j175_X12_isBand ++ ([] : List Cond))))
theorem zg_j174_X12_atTable : ∀ w ∈ wz_j174_X12_atTable, goodWord w = true := zg_cons rfl (zg_app (by decide +kernel) (zg_app zgU_wsX120 (zg_app zg_j175_X12_isBand zg_nil)))
theorem zi_j174_X12_atTable : ∀ w ∈ wz_j174_X12_atTable, w ∈ lw_tbl := zi_cons zw_1791 (zi_app (zi_cons zw_1775 (zi_cons zw_1784 (zi_cons zw_1786 (zi_cons zw_85 (zi_cons zw_115 (zi_cons zw_1418 zi_nil)))))) (zi_app inX12 (zi_app zi_j175_X12_isBand zi_nil)))
set_option maxHeartbeats 4000000 in
set_option maxRecDepth 100000 in
theorem j174_X12_atTable (l : Launch) (D : va_G) (zt : Nat × Nat × Nat × (Nat → Nat) × (Nat → Nat)) (r : Nat → Nat) (g : Nat → ClassId) (I : Nat → Int32) (A : Nat → Nat → Int32) (L : Nat → Nat → Int64) (z1 : Int32) (z2 : Int32) (hIv : IvM I A) (hp0 : (-1) ≤ z1.toInt) (hp1 : z1.toInt ≤ 15) (hp2 : (-1) ≤ z2.toInt) (hp3 : z2.toInt ≤ 15) : GM l D zt (tyM g) yX12_atTable wz_j174_X12_atTable ({ frames := 2, cells := 0, slots := 0, locals := 44 } : Room) [.ref (r 0), .int z1, .int z2] (wM r g I A L) (fun v _ w' => ∃ y0 : Int32, v = some (.int y0) ∧ w' = wM r g I A L) 0 0 := by
  refine GM.of (cc := cX12_atTable) (maxL := 3) (ret := (some .int)) (own := RX12) (lv := [(0, .ref (r 0)), (1, .int z1), (2, .int z2)]) (by decide) rfl rfl (Nat.le_of_ble_eq_true rfl) rfl (fun κ sz hk hR hN => ?_)
  have hin12 : ∀ w ∈ u_ws RX12 TX12 55, w ∈ wz_j174_X12_atTable := fun w h => (List.mem_cons_of_mem _ (List.mem_append_right _ (List.mem_append_left _ h)))
  refine g_iload_n hk dX12_atTable_0 rfl ?_
  refine g_if_lt (tgt := 17) (a := z1.toInt) hk dX12_atTable_1 (by decide) rfl (fun c19042 => ?_) (fun c19042 => ?_)
  · skip
    refine g_ldcw (v := 2000000000) hk (List.mem_cons_of_mem _ (List.mem_append_left _ (List.mem_of_getElem? (i := 0) rfl))) dX12_atTable_17 ?_
    refine g_goto (tgt := 34) hk dX12_atTable_20 (by decide) ?_
    exact g_iret hk hR rfl ⟨2000000000, rfl, rfl⟩ dX12_atTable_34
  · skip
    refine g_iload_n hk dX12_atTable_4 rfl ?_
    refine g_if_lt (tgt := 17) (a := z2.toInt) hk dX12_atTable_5 (by decide) rfl (fun c19043 => ?_) (fun c19043 => ?_)
    · skip
      refine g_ldcw (v := 2000000000) hk (List.mem_cons_of_mem _ (List.mem_append_left _ (List.mem_of_getElem? (i := 0) rfl))) dX12_atTable_17 ?_
      refine g_goto (tgt := 34) hk dX12_atTable_20 (by decide) ?_
      exact g_iret hk hR rfl ⟨2000000000, rfl, rfl⟩ dX12_atTable_34
    · skip
      refine g_aload_n hk dX12_atTable_8 rfl ?_
      refine g_iload_n hk dX12_atTable_9 rfl ?_
      refine g_iload_n hk dX12_atTable_10 rfl ?_
      refine g_callV (n := 2) hk (j175_X12_isBand l D zt r g I A L z1 z2 hIv (by omega) (by omega) (by omega) (by omega)) (SP.same _) (fun _ h => h) (gi_V (List.mem_cons_of_mem _ (List.mem_append_left _ (List.mem_of_getElem? (i := 1) rfl))) (List.mem_cons_of_mem _ (List.mem_append_left _ (List.mem_of_getElem? (i := 2) rfl))) (List.mem_cons_of_mem _ (List.mem_append_left _ (List.mem_of_getElem? (i := 3) rfl))) (List.mem_cons_of_mem _ (List.mem_append_left _ (List.mem_of_getElem? (i := 4) rfl))) (gi_sub (fun w h => (List.mem_cons_of_mem _ (List.mem_append_right _ (List.mem_append_right _ (List.mem_append_left _ h))))) zg_j175_X12_isBand)) rfl rfl rfl (by decide +kernel) ⟨Nat.le_of_ble_eq_true rfl, Nat.le_of_ble_eq_true rfl⟩ 0 rfl rfl rfl rfl (Nat.le_of_ble_eq_true rfl) ⟨Nat.le_of_ble_eq_true rfl, Nat.le_of_ble_eq_true rfl⟩ dX12_atTable_11 (fun v ty' w' hp hk' => ?_)
      rcases hp with ⟨rfl, rfl⟩ | ⟨c19062, c19063, rfl, rfl⟩
      · skip
        show GW κ 3 0 0 (wM r g I A L) 14 [(0, .ref (r 0)), (1, .int z1), (2, .int z2)] [.int 0]
        refine g_if_ne (tgt := 23) (a := 0) hk dX12_atTable_14 (by decide) rfl (fun z9 => absurd z9 (show ¬ ((0 : Int) ≠ (0 : Int)) from by decide)) (fun _ => ?_)
        refine g_ldcw (v := 2000000000) hk (List.mem_cons_of_mem _ (List.mem_append_left _ (List.mem_of_getElem? (i := 0) rfl))) dX12_atTable_17 ?_
        refine g_goto (tgt := 34) hk dX12_atTable_20 (by decide) ?_
        exact g_iret hk hR rfl ⟨2000000000, rfl, rfl⟩ dX12_atTable_34
      · skip
        show GW κ 3 0 0 (wM r g I A L) 14 [(0, .ref (r 0)), (1, .int z1), (2, .int z2)] [.int 1]
        refine g_if_ne (tgt := 23) (a := 1) hk dX12_atTable_14 (by decide) rfl (fun _ => ?_) (fun z9 => absurd (show (1 : Int) ≠ (0 : Int) from by decide) z9)
        refine g_aload_n hk dX12_atTable_23 rfl ?_
        refine gM_r0_40 hk hin12 (List.mem_cons_of_mem _ (List.mem_append_left _ (List.mem_of_getElem? (i := 5) rfl))) dX12_atTable_24 ?_
        refine g_bipush (v := 16) hk dX12_atTable_27 (by decide) ?_
        refine g_iload_n hk dX12_atTable_29 rfl ?_
        refine g_imul hk dX12_atTable_30 ?_
        refine g_topi (fun y19065 ey19065 => ?_)
        have hy19065 : y19065.toInt = 16 * z1.toInt := i32_mul ey19065 rfl rfl (by omega) (by omega)
        refine g_iload_n hk dX12_atTable_31 rfl ?_
        refine g_iadd hk dX12_atTable_32 ?_
        refine g_topi (fun y19066 ey19066 => ?_)
        have hy19066 : y19066.toInt = y19065.toInt + z2.toInt := i32_add ey19066 rfl rfl (by omega) (by omega)
        refine lM_21 (v := (A 21 y19066.toNatClampNeg)) hk (vp_in_iff.mpr ⟨by omega, by omega⟩) rfl dX12_atTable_33 ?_
        have b19067l := Int32.le_toInt (A 21 y19066.toNatClampNeg)
        have b19067h := Int32.toInt_lt (A 21 y19066.toNatClampNeg)
        exact g_iret hk hR rfl ⟨(A 21 y19066.toNatClampNeg), rfl, rfl⟩ dX12_atTable_34
def wo_j177_X12_least : List Cond := []
def wz_j177_X12_least : List Cond := .code yX12_least cX12_least 2 (some .int) :: (wo_j177_X12_least ++ ([] : List Cond))
theorem zg_j177_X12_least : ∀ w ∈ wz_j177_X12_least, goodWord w = true := zg_cons rfl (zg_app (by decide +kernel) zg_nil)
theorem zi_j177_X12_least : ∀ w ∈ wz_j177_X12_least, w ∈ lw_tbl := zi_cons zw_1794 (zi_app zi_nil zi_nil)
set_option maxHeartbeats 4000000 in
set_option maxRecDepth 100000 in
theorem j177_X12_least (l : Launch) (D : va_G) (zt : Nat × Nat × Nat × (Nat → Nat) × (Nat → Nat)) (r : Nat → Nat) (g : Nat → ClassId) (I : Nat → Int32) (A : Nat → Nat → Int32) (L : Nat → Nat → Int64) (z0 : Int32) (z1 : Int32) (hIv : IvM I A) : GM l D zt (tyM g) yX12_least wz_j177_X12_least ({ frames := 0, cells := 0, slots := 0, locals := 0 } : Room) [.int z0, .int z1] (wM r g I A L) (fun v _ w' => ∃ y0 : Int32, v = some (.int y0) ∧ w' = wM r g I A L) 0 0 := by
  refine GM.of (cc := cX12_least) (maxL := 2) (ret := (some .int)) (own := RX12) (lv := [(0, .int z0), (1, .int z1)]) (by decide) rfl rfl (Nat.le_of_ble_eq_true rfl) rfl (fun κ sz hk hR hN => ?_)
  refine g_iload_n hk dX12_least_0 rfl ?_
  refine g_iload_n hk dX12_least_1 rfl ?_
  have b19087l := Int32.le_toInt z0
  have b19087h := Int32.toInt_lt z0
  have b19088l := Int32.le_toInt z1
  have b19088h := Int32.toInt_lt z1
  refine g_icmp_ge (tgt := 9) (a := z0.toInt) (b := z1.toInt) hk dX12_least_2 (by decide) rfl rfl (fun c19089 => ?_) (fun c19089 => ?_)
  · skip
    refine g_iload_n hk dX12_least_9 rfl ?_
    exact g_iret hk hR rfl ⟨z1, rfl, rfl⟩ dX12_least_10
  · skip
    refine g_iload_n hk dX12_least_5 rfl ?_
    refine g_goto (tgt := 10) hk dX12_least_6 (by decide) ?_
    exact g_iret hk hR rfl ⟨z0, rfl, rfl⟩ dX12_least_10
def wo_j178_X12_costOf : List Cond := [Cond.fieldLink RX12 73 "WarpDeskModel" "row" "[I"]
def wz_j178_X12_costOf : List Cond := .code yX12_costOf cX12_costOf 4 (some .int) :: (wo_j178_X12_costOf ++ (wsX120 ++ ([] : List Cond)))
theorem zg_j178_X12_costOf : ∀ w ∈ wz_j178_X12_costOf, goodWord w = true := zg_cons rfl (zg_app (by decide +kernel) (zg_app zgU_wsX120 zg_nil))
theorem zi_j178_X12_costOf : ∀ w ∈ wz_j178_X12_costOf, w ∈ lw_tbl := zi_cons zw_1798 (zi_app (zi_cons zw_1414 zi_nil) (zi_app inX12 zi_nil))
set_option maxHeartbeats 4000000 in
set_option maxRecDepth 100000 in
theorem j178_X12_costOf (l : Launch) (D : va_G) (zt : Nat × Nat × Nat × (Nat → Nat) × (Nat → Nat)) (r : Nat → Nat) (g : Nat → ClassId) (I : Nat → Int32) (A : Nat → Nat → Int32) (L : Nat → Nat → Int64) (z1 : Int32) (z2 : Int32) (hIv : IvM I A) : GM l D zt (tyM g) yX12_costOf wz_j178_X12_costOf ({ frames := 0, cells := 0, slots := 0, locals := 0 } : Room) [.ref (r 0), .int z1, .int z2] (wM r g I A L) (fun v _ w' => ∃ y0 : Int32, v = some (.int y0) ∧ w' = wM r g I A L) 0 0 := by
  refine GM.of (cc := cX12_costOf) (maxL := 4) (ret := (some .int)) (own := RX12) (lv := [(0, .ref (r 0)), (1, .int z1), (2, .int z2)]) (by decide) rfl rfl (Nat.le_of_ble_eq_true rfl) rfl (fun κ sz hk hR hN => ?_)
  have hin12 : ∀ w ∈ u_ws RX12 TX12 55, w ∈ wz_j178_X12_costOf := fun w h => (List.mem_cons_of_mem _ (List.mem_append_right _ (List.mem_append_left _ h)))
  refine g_iload_n hk dX12_costOf_0 rfl ?_
  refine g_iload_n hk dX12_costOf_1 rfl ?_
  have b19095l := Int32.le_toInt z1
  have b19095h := Int32.toInt_lt z1
  have b19096l := Int32.le_toInt z2
  have b19096h := Int32.toInt_lt z2
  refine g_icmp_ge (tgt := 11) (a := z1.toInt) (b := z2.toInt) hk dX12_costOf_2 (by decide) rfl rfl (fun c19097 => ?_) (fun c19097 => ?_)
  · skip
    refine g_iload_n hk dX12_costOf_11 rfl ?_
    refine g_iload_n hk dX12_costOf_12 rfl ?_
    refine g_isub hk dX12_costOf_13 ?_
    refine g_topi (fun y19098 ey19098 => ?_)
    have hy19098 := i32_sub0 ey19098
    refine g_istore_n (lv' := [(3, .int y19098), (0, .ref (r 0)), (1, .int z1), (2, .int z2)]) hk dX12_costOf_14 (by decide) rfl ?_
    refine g_aload_n hk dX12_costOf_15 rfl ?_
    refine gM_r0_36 hk hin12 (List.mem_cons_of_mem _ (List.mem_append_left _ (List.mem_of_getElem? (i := 0) rfl))) dX12_costOf_16 ?_
    refine g_sipush (v := 163) hk dX12_costOf_19 (by decide) ?_
    refine lM_18 (v := (A 18 163)) hk (vp_in_iff.mpr ⟨by decide, by decide⟩) rfl dX12_costOf_22 ?_
    have b19099l := Int32.le_toInt (A 18 163)
    have b19099h := Int32.toInt_lt (A 18 163)
    refine g_if_ne (tgt := 30) (a := (A 18 163).toInt) hk dX12_costOf_23 (by decide) rfl (fun c19100 => ?_) (fun c19100 => ?_)
    · skip
      refine g_iload_n hk dX12_costOf_30 rfl ?_
      refine g_iload_n hk dX12_costOf_31 rfl ?_
      have b19101l := Int32.le_toInt y19098
      have b19101h := Int32.toInt_lt y19098
      refine g_imul hk dX12_costOf_32 ?_
      refine g_topi (fun y19102 ey19102 => ?_)
      have b19103l := Int32.le_toInt y19102
      have b19103h := Int32.toInt_lt y19102
      exact g_iret hk hR rfl ⟨y19102, rfl, rfl⟩ dX12_costOf_33
    · skip
      refine g_iload_n hk dX12_costOf_26 rfl ?_
      refine g_goto (tgt := 33) hk dX12_costOf_27 (by decide) ?_
      have b19104l := Int32.le_toInt y19098
      have b19104h := Int32.toInt_lt y19098
      exact g_iret hk hR rfl ⟨y19098, rfl, rfl⟩ dX12_costOf_33
  · skip
    refine g_iload_n hk dX12_costOf_5 rfl ?_
    refine g_iload_n hk dX12_costOf_6 rfl ?_
    refine g_isub hk dX12_costOf_7 ?_
    refine g_topi (fun y19105 ey19105 => ?_)
    have hy19105 := i32_sub0 ey19105
    refine g_goto (tgt := 14) hk dX12_costOf_8 (by decide) ?_
    refine g_istore_n (lv' := [(3, .int y19105), (0, .ref (r 0)), (1, .int z1), (2, .int z2)]) hk dX12_costOf_14 (by decide) rfl ?_
    refine g_aload_n hk dX12_costOf_15 rfl ?_
    refine gM_r0_36 hk hin12 (List.mem_cons_of_mem _ (List.mem_append_left _ (List.mem_of_getElem? (i := 0) rfl))) dX12_costOf_16 ?_
    refine g_sipush (v := 163) hk dX12_costOf_19 (by decide) ?_
    refine lM_18 (v := (A 18 163)) hk (vp_in_iff.mpr ⟨by decide, by decide⟩) rfl dX12_costOf_22 ?_
    have b19106l := Int32.le_toInt (A 18 163)
    have b19106h := Int32.toInt_lt (A 18 163)
    refine g_if_ne (tgt := 30) (a := (A 18 163).toInt) hk dX12_costOf_23 (by decide) rfl (fun c19107 => ?_) (fun c19107 => ?_)
    · skip
      refine g_iload_n hk dX12_costOf_30 rfl ?_
      refine g_iload_n hk dX12_costOf_31 rfl ?_
      have b19108l := Int32.le_toInt y19105
      have b19108h := Int32.toInt_lt y19105
      refine g_imul hk dX12_costOf_32 ?_
      refine g_topi (fun y19109 ey19109 => ?_)
      have b19110l := Int32.le_toInt y19109
      have b19110h := Int32.toInt_lt y19109
      exact g_iret hk hR rfl ⟨y19109, rfl, rfl⟩ dX12_costOf_33
    · skip
      refine g_iload_n hk dX12_costOf_26 rfl ?_
      refine g_goto (tgt := 33) hk dX12_costOf_27 (by decide) ?_
      have b19111l := Int32.le_toInt y19105
      have b19111h := Int32.toInt_lt y19105
      exact g_iret hk hR rfl ⟨y19105, rfl, rfl⟩ dX12_costOf_33
def wo_j176_X12_laysRow : List Cond := [Cond.constant RX12 282 (2000000000), Cond.fieldLink RX12 267 "WarpDeskModel" "wide" "I", Cond.methodLink RX12 279 yX12_isBand, Cond.instanceMethod yX12_isBand, Cond.selects RX12 yX12_isBand yX12_isBand, Cond.initialized RX12, Cond.methodLink RX12 283 yX12_atTable, Cond.instanceMethod yX12_atTable, Cond.selects RX12 yX12_atTable yX12_atTable, Cond.methodLink RX12 286 yX12_least, Cond.static yX12_least, Cond.fieldLink RX12 82 "WarpDeskModel" "tableAt" "[I", Cond.fieldLink RX12 76 "WarpDeskModel" "firstAt" "[I", Cond.fieldLink RX12 79 "WarpDeskModel" "otherAt" "[I", Cond.methodLink RX12 289 yX12_costOf, Cond.instanceMethod yX12_costOf, Cond.selects RX12 yX12_costOf yX12_costOf, Cond.fieldLink RX12 292 "WarpDeskModel" "laid" "I"]
def wz_j176_X12_laysRow : List Cond := .code yX12_laysRow cX12_laysRow 5 (some .int) :: (wo_j176_X12_laysRow ++ (wsX120 ++ (wz_j175_X12_isBand ++ (wz_j174_X12_atTable ++ (wz_j177_X12_least ++ (wz_j178_X12_costOf ++ ([] : List Cond)))))))
theorem zg_j176_X12_laysRow : ∀ w ∈ wz_j176_X12_laysRow, goodWord w = true := zg_cons rfl (zg_app (by decide +kernel) (zg_app zgU_wsX120 (zg_app zg_j175_X12_isBand (zg_app zg_j174_X12_atTable (zg_app zg_j177_X12_least (zg_app zg_j178_X12_costOf zg_nil))))))
theorem zi_j176_X12_laysRow : ∀ w ∈ wz_j176_X12_laysRow, w ∈ lw_tbl := zi_cons zw_1783 (zi_app (zi_cons zw_1775 (zi_cons zw_1415 (zi_cons zw_1784 (zi_cons zw_1786 (zi_cons zw_85 (zi_cons zw_115 (zi_cons zw_1788 (zi_cons zw_1790 (zi_cons zw_86 (zi_cons zw_1792 (zi_cons zw_1793 (zi_cons zw_1418 (zi_cons zw_1416 (zi_cons zw_1417 (zi_cons zw_1795 (zi_cons zw_1797 (zi_cons zw_87 (zi_cons zw_1419 zi_nil)))))))))))))))))) (zi_app inX12 (zi_app zi_j175_X12_isBand (zi_app zi_j174_X12_atTable (zi_app zi_j177_X12_least (zi_app zi_j178_X12_costOf zi_nil))))))
set_option maxHeartbeats 4000000 in
set_option maxRecDepth 100000 in
theorem j176_X12_laysRow (l : Launch) (D : va_G) (zt : Nat × Nat × Nat × (Nat → Nat) × (Nat → Nat)) (r : Nat → Nat) (g : Nat → ClassId) (I : Nat → Int32) (A : Nat → Nat → Int32) (L : Nat → Nat → Int64) (z1 : Int32) (hIv : IvM I A) (hp0 : 0 ≤ z1.toInt) (hp1 : z1.toInt ≤ 15) : GM l D zt (tyM g) yX12_laysRow wz_j176_X12_laysRow ({ frames := 3, cells := 0, slots := 0, locals := 66 } : Room) [.ref (r 0), .int z1] (wM r g I A L) (fun v _ w' => ∃ (I' : Nat → Int32) (A' : Nat → Nat → Int32) (L' : Nat → Nat → Int64), Md [19] I I' ∧ Md [21] A A' ∧ IvM I' A' ∧ ∃ y0 : Int32, v = some (.int y0) ∧ w' = wM r g I' A' L') 0 0 := by
  refine GM.of (cc := cX12_laysRow) (maxL := 5) (ret := (some .int)) (own := RX12) (lv := [(0, .ref (r 0)), (1, .int z1)]) (by decide) rfl rfl (Nat.le_of_ble_eq_true rfl) rfl (fun κ sz hk hR hN => ?_)
  have hin12 : ∀ w ∈ u_ws RX12 TX12 55, w ∈ wz_j176_X12_laysRow := fun w h => (List.mem_cons_of_mem _ (List.mem_append_right _ (List.mem_append_left _ h)))
  refine g_ldcw (v := 2000000000) hk (List.mem_cons_of_mem _ (List.mem_append_left _ (List.mem_of_getElem? (i := 0) rfl))) dX12_laysRow_0 ?_
  refine g_istore_n (lv' := [(2, .int 2000000000), (0, .ref (r 0)), (1, .int z1)]) hk dX12_laysRow_3 (by decide) rfl ?_
  refine g_iconst (v := 0) hk dX12_laysRow_4 (by decide) ?_
  refine g_istore_n (lv' := [(3, .int 0), (2, .int 2000000000), (0, .ref (r 0)), (1, .int z1)]) hk dX12_laysRow_5 (by decide) rfl ?_
  have lp19306 : ∀ (n19307 : Nat) (x19069 : Int32) (x19070 : Int32) (I19073 : Nat → Int32) (A19073 : Nat → Nat → Int32) (L19073 : Nat → Nat → Int64), (Md [19] I I19073) → (Md [21] A A19073) → (IvM I19073 A19073) → (0 ≤ x19069.toInt) → (x19069.toInt ≤ 16) → (17 - x19069.toInt < (n19307 : Int)) → (0 < n19307) → GW κ 5 0 0 (wM r g I19073 A19073 L19073) 6 [(3, .int x19069), (2, .int x19070), (0, .ref (r 0)), (1, .int z1)] [] := by
    intro n19307
    induction n19307 with
    | zero =>
      intro x19069 x19070 I19073 A19073 L19073 hI19073 hA19073 hV19073 h19304 h19305 m19308 m19308z
      exact absurd m19308z (Nat.lt_irrefl 0)
    | succ n19307 ih19309 =>
      intro x19069 x19070 I19073 A19073 L19073 hI19073 hA19073 hV19073 h19304 h19305 m19308 m19308z
      refine g_iload_n hk dX12_laysRow_6 rfl ?_
      refine g_aload_n hk dX12_laysRow_7 rfl ?_
      refine gM_i18 (v := (I 18)) hk hin12 (List.mem_cons_of_mem _ (List.mem_append_left _ (List.mem_of_getElem? (i := 1) rfl))) dX12_laysRow_8 (hI19073 18 rfl) ?_
      have f19310 := IvM_f18 hIv
      refine g_icmp_ge (tgt := 133) (a := x19069.toInt) (b := (I 18).toInt) hk dX12_laysRow_11 (by decide) rfl rfl (fun c19311 => ?_) (fun c19311 => ?_)
      · skip
        refine g_iload_n hk dX12_laysRow_133 rfl ?_
        have b19312l := Int32.le_toInt x19070
        have b19312h := Int32.toInt_lt x19070
        exact g_iret hk hR rfl ⟨I19073, A19073, L19073, (show Md [19] I I19073 from (Md.tr Md.rf hI19073 rfl)), (show Md [21] A A19073 from (Md.tr Md.rf hA19073 rfl)), hV19073, x19070, rfl, rfl⟩ dX12_laysRow_134
      · skip
        refine g_aload_n hk dX12_laysRow_14 rfl ?_
        refine g_iload_n hk dX12_laysRow_15 rfl ?_
        refine g_iload_n hk dX12_laysRow_16 rfl ?_
        refine g_callV (n := 2) hk (j175_X12_isBand l D zt r g I19073 A19073 L19073 z1 x19069 hV19073 (by omega) (by omega) (by omega) (by omega)) (SP.same _) (fun _ h => h) (gi_V (List.mem_cons_of_mem _ (List.mem_append_left _ (List.mem_of_getElem? (i := 2) rfl))) (List.mem_cons_of_mem _ (List.mem_append_left _ (List.mem_of_getElem? (i := 3) rfl))) (List.mem_cons_of_mem _ (List.mem_append_left _ (List.mem_of_getElem? (i := 4) rfl))) (List.mem_cons_of_mem _ (List.mem_append_left _ (List.mem_of_getElem? (i := 5) rfl))) (gi_sub (fun w h => (List.mem_cons_of_mem _ (List.mem_append_right _ (List.mem_append_right _ (List.mem_append_left _ h))))) zg_j175_X12_isBand)) rfl rfl rfl (by decide +kernel) ⟨Nat.le_of_ble_eq_true rfl, Nat.le_of_ble_eq_true rfl⟩ 0 rfl rfl rfl rfl (Nat.le_of_ble_eq_true rfl) ⟨Nat.le_of_ble_eq_true rfl, Nat.le_of_ble_eq_true rfl⟩ dX12_laysRow_17 (fun v ty' w' hp hk' => ?_)
        rcases hp with ⟨rfl, rfl⟩ | ⟨c19314, c19315, rfl, rfl⟩
        · skip
          show GW κ 5 0 0 (wM r g I19073 A19073 L19073) 20 [(3, .int x19069), (2, .int x19070), (0, .ref (r 0)), (1, .int z1)] [.int 0]
          refine g_if_ne (tgt := 26) (a := 0) hk dX12_laysRow_20 (by decide) rfl (fun z9 => absurd z9 (show ¬ ((0 : Int) ≠ (0 : Int)) from by decide)) (fun _ => ?_)
          refine g_goto (tgt := 127) hk dX12_laysRow_23 (by decide) ?_
          obtain ⟨y19317, ey19317⟩ : ∃ y : Int32, y = x19069 + Int32.ofInt 1 := ⟨_, rfl⟩
          have hy19317 : y19317.toInt = x19069.toInt + 1 := i32_add ey19317 rfl (by decide) (by omega) (by omega)
          refine g_iinc (v := y19317) (lv' := [(3, .int y19317), (2, .int x19070), (0, .ref (r 0)), (1, .int z1)]) hk 0 dX12_laysRow_127 rfl ey19317.symm (by decide) rfl ?_
          refine g_goto (tgt := 6) hk dX12_laysRow_130 (by decide) ?_
          have b19318l := Int32.le_toInt x19070
          have b19318h := Int32.toInt_lt x19070
          exact g_lv (List.forall_mem_cons.mpr ⟨List.mem_of_getElem? (i := 0) rfl, (List.forall_mem_cons.mpr ⟨List.mem_of_getElem? (i := 1) rfl, (List.forall_mem_cons.mpr ⟨List.mem_of_getElem? (i := 2) rfl, (List.forall_mem_cons.mpr ⟨List.mem_of_getElem? (i := 3) rfl, (fun _ h => absurd h List.not_mem_nil)⟩)⟩)⟩)⟩) (ih19309 y19317 x19070 I19073 A19073 L19073 (show Md [19] I I19073 from Md.tr hI19073 (show Md [19] I19073 I19073 from Md.rf) rfl) (show Md [21] A A19073 from Md.tr hA19073 (show Md [21] A19073 A19073 from Md.rf) rfl) hV19073 (by omega) (by omega) (by omega) (by omega))
        · skip
          show GW κ 5 0 0 (wM r g I19073 A19073 L19073) 20 [(3, .int x19069), (2, .int x19070), (0, .ref (r 0)), (1, .int z1)] [.int 1]
          refine g_if_ne (tgt := 26) (a := 1) hk dX12_laysRow_20 (by decide) rfl (fun _ => ?_) (fun z9 => absurd (show (1 : Int) ≠ (0 : Int) from by decide) z9)
          refine g_aload_n hk dX12_laysRow_26 rfl ?_
          refine g_iload_n hk dX12_laysRow_27 rfl ?_
          refine g_iconst (v := 1) hk dX12_laysRow_28 (by decide) ?_
          refine g_isub hk dX12_laysRow_29 ?_
          refine g_topi (fun y19319 ey19319 => ?_)
          have hy19319 : y19319.toInt = z1.toInt - 1 := i32_sub ey19319 rfl rfl (by omega) (by omega)
          refine g_iload_n hk dX12_laysRow_30 rfl ?_
          refine g_iconst (v := 1) hk dX12_laysRow_31 (by decide) ?_
          refine g_isub hk dX12_laysRow_32 ?_
          refine g_topi (fun y19320 ey19320 => ?_)
          have hy19320 : y19320.toInt = x19069.toInt - 1 := i32_sub ey19320 rfl rfl (by omega) (by omega)
          refine g_callV (n := 2) hk (j174_X12_atTable l D zt r g I19073 A19073 L19073 y19319 y19320 hV19073 (by omega) (by omega) (by omega) (by omega)) (SP.same _) (fun _ h => h) (gi_V (List.mem_cons_of_mem _ (List.mem_append_left _ (List.mem_of_getElem? (i := 6) rfl))) (List.mem_cons_of_mem _ (List.mem_append_left _ (List.mem_of_getElem? (i := 7) rfl))) (List.mem_cons_of_mem _ (List.mem_append_left _ (List.mem_of_getElem? (i := 8) rfl))) (List.mem_cons_of_mem _ (List.mem_append_left _ (List.mem_of_getElem? (i := 5) rfl))) (gi_sub (fun w h => (List.mem_cons_of_mem _ (List.mem_append_right _ (List.mem_append_right _ (List.mem_append_right _ (List.mem_append_left _ h)))))) zg_j174_X12_atTable)) rfl rfl rfl (by decide +kernel) ⟨Nat.le_of_ble_eq_true rfl, Nat.le_of_ble_eq_true rfl⟩ 0 rfl rfl rfl rfl (Nat.le_of_ble_eq_true rfl) ⟨Nat.le_of_ble_eq_true rfl, Nat.le_of_ble_eq_true rfl⟩ dX12_laysRow_33 (fun v ty' w' hp hk' => ?_)
          obtain ⟨y19321, rfl, rfl⟩ := hp
          show GW κ 5 0 0 (wM r g I19073 A19073 L19073) 36 [(3, .int x19069), (2, .int x19070), (0, .ref (r 0)), (1, .int z1)] [.int y19321]
          refine g_aload_n hk dX12_laysRow_36 rfl ?_
          refine g_iload_n hk dX12_laysRow_37 rfl ?_
          refine g_iconst (v := 1) hk dX12_laysRow_38 (by decide) ?_
          refine g_isub hk dX12_laysRow_39 ?_
          refine g_topi (fun y19322 ey19322 => ?_)
          have hy19322 : y19322.toInt = z1.toInt - 1 := i32_sub ey19322 rfl rfl (by omega) (by omega)
          refine g_iload_n hk dX12_laysRow_40 rfl ?_
          refine g_callV (n := 2) hk (j174_X12_atTable l D zt r g I19073 A19073 L19073 y19322 x19069 hV19073 (by omega) (by omega) (by omega) (by omega)) (SP.same _) (fun _ h => h) (gi_V (List.mem_cons_of_mem _ (List.mem_append_left _ (List.mem_of_getElem? (i := 6) rfl))) (List.mem_cons_of_mem _ (List.mem_append_left _ (List.mem_of_getElem? (i := 7) rfl))) (List.mem_cons_of_mem _ (List.mem_append_left _ (List.mem_of_getElem? (i := 8) rfl))) (List.mem_cons_of_mem _ (List.mem_append_left _ (List.mem_of_getElem? (i := 5) rfl))) (gi_sub (fun w h => (List.mem_cons_of_mem _ (List.mem_append_right _ (List.mem_append_right _ (List.mem_append_right _ (List.mem_append_left _ h)))))) zg_j174_X12_atTable)) rfl rfl rfl (by decide +kernel) ⟨Nat.le_of_ble_eq_true rfl, Nat.le_of_ble_eq_true rfl⟩ 0 rfl rfl rfl rfl (Nat.le_of_ble_eq_true rfl) ⟨Nat.le_of_ble_eq_true rfl, Nat.le_of_ble_eq_true rfl⟩ dX12_laysRow_41 (fun v ty' w' hp hk' => ?_)
          obtain ⟨y19323, rfl, rfl⟩ := hp
          show GW κ 5 0 0 (wM r g I19073 A19073 L19073) 44 [(3, .int x19069), (2, .int x19070), (0, .ref (r 0)), (1, .int z1)] [.int y19323, .int y19321]
          refine g_aload_n hk dX12_laysRow_44 rfl ?_
          refine g_iload_n hk dX12_laysRow_45 rfl ?_
          refine g_iload_n hk dX12_laysRow_46 rfl ?_
          refine g_iconst (v := 1) hk dX12_laysRow_47 (by decide) ?_
          refine g_isub hk dX12_laysRow_48 ?_
          refine g_topi (fun y19324 ey19324 => ?_)
          have hy19324 : y19324.toInt = x19069.toInt - 1 := i32_sub ey19324 rfl rfl (by omega) (by omega)
          refine g_callV (n := 2) hk (j174_X12_atTable l D zt r g I19073 A19073 L19073 z1 y19324 hV19073 (by omega) (by omega) (by omega) (by omega)) (SP.same _) (fun _ h => h) (gi_V (List.mem_cons_of_mem _ (List.mem_append_left _ (List.mem_of_getElem? (i := 6) rfl))) (List.mem_cons_of_mem _ (List.mem_append_left _ (List.mem_of_getElem? (i := 7) rfl))) (List.mem_cons_of_mem _ (List.mem_append_left _ (List.mem_of_getElem? (i := 8) rfl))) (List.mem_cons_of_mem _ (List.mem_append_left _ (List.mem_of_getElem? (i := 5) rfl))) (gi_sub (fun w h => (List.mem_cons_of_mem _ (List.mem_append_right _ (List.mem_append_right _ (List.mem_append_right _ (List.mem_append_left _ h)))))) zg_j174_X12_atTable)) rfl rfl rfl (by decide +kernel) ⟨Nat.le_of_ble_eq_true rfl, Nat.le_of_ble_eq_true rfl⟩ 0 rfl rfl rfl rfl (Nat.le_of_ble_eq_true rfl) ⟨Nat.le_of_ble_eq_true rfl, Nat.le_of_ble_eq_true rfl⟩ dX12_laysRow_49 (fun v ty' w' hp hk' => ?_)
          obtain ⟨y19325, rfl, rfl⟩ := hp
          show GW κ 5 0 0 (wM r g I19073 A19073 L19073) 52 [(3, .int x19069), (2, .int x19070), (0, .ref (r 0)), (1, .int z1)] [.int y19325, .int y19323, .int y19321]
          refine g_callS (n := 2) hk (j177_X12_least l D zt r g I19073 A19073 L19073 y19323 y19325 hV19073) (SP.same _) (fun _ h => h) (gi_S (List.mem_cons_of_mem _ (List.mem_append_left _ (List.mem_of_getElem? (i := 9) rfl))) (List.mem_cons_of_mem _ (List.mem_append_left _ (List.mem_of_getElem? (i := 10) rfl))) (List.mem_cons_of_mem _ (List.mem_append_left _ (List.mem_of_getElem? (i := 5) rfl))) (gi_sub (fun w h => (List.mem_cons_of_mem _ (List.mem_append_right _ (List.mem_append_right _ (List.mem_append_right _ (List.mem_append_right _ (List.mem_append_left _ h))))))) zg_j177_X12_least)) rfl rfl rfl (by decide +kernel) ⟨Nat.le_of_ble_eq_true rfl, Nat.le_of_ble_eq_true rfl⟩ rfl rfl (Nat.le_of_ble_eq_true rfl) ⟨Nat.le_of_ble_eq_true rfl, Nat.le_of_ble_eq_true rfl⟩ dX12_laysRow_52 (fun v ty' w' hp hk' => ?_)
          obtain ⟨y19326, rfl, rfl⟩ := hp
          show GW κ 5 0 0 (wM r g I19073 A19073 L19073) 55 [(3, .int x19069), (2, .int x19070), (0, .ref (r 0)), (1, .int z1)] [.int y19326, .int y19321]
          refine g_callS (n := 2) hk (j177_X12_least l D zt r g I19073 A19073 L19073 y19321 y19326 hV19073) (SP.same _) (fun _ h => h) (gi_S (List.mem_cons_of_mem _ (List.mem_append_left _ (List.mem_of_getElem? (i := 9) rfl))) (List.mem_cons_of_mem _ (List.mem_append_left _ (List.mem_of_getElem? (i := 10) rfl))) (List.mem_cons_of_mem _ (List.mem_append_left _ (List.mem_of_getElem? (i := 5) rfl))) (gi_sub (fun w h => (List.mem_cons_of_mem _ (List.mem_append_right _ (List.mem_append_right _ (List.mem_append_right _ (List.mem_append_right _ (List.mem_append_left _ h))))))) zg_j177_X12_least)) rfl rfl rfl (by decide +kernel) ⟨Nat.le_of_ble_eq_true rfl, Nat.le_of_ble_eq_true rfl⟩ rfl rfl (Nat.le_of_ble_eq_true rfl) ⟨Nat.le_of_ble_eq_true rfl, Nat.le_of_ble_eq_true rfl⟩ dX12_laysRow_55 (fun v ty' w' hp hk' => ?_)
          obtain ⟨y19327, rfl, rfl⟩ := hp
          show GW κ 5 0 0 (wM r g I19073 A19073 L19073) 58 [(3, .int x19069), (2, .int x19070), (0, .ref (r 0)), (1, .int z1)] [.int y19327]
          refine g_istore (lv' := [(4, .int y19327), (3, .int x19069), (2, .int x19070), (0, .ref (r 0)), (1, .int z1)]) hk dX12_laysRow_58 (by decide) rfl ?_
          refine g_iload_n hk dX12_laysRow_60 rfl ?_
          refine g_if_ne (tgt := 71) (a := z1.toInt) hk dX12_laysRow_61 (by decide) rfl (fun c19328 => ?_) (fun c19328 => ?_)
          · skip
            refine g_aload_n hk dX12_laysRow_71 rfl ?_
            refine gM_r0_40 hk hin12 (List.mem_cons_of_mem _ (List.mem_append_left _ (List.mem_of_getElem? (i := 11) rfl))) dX12_laysRow_72 ?_
            refine g_bipush (v := 16) hk dX12_laysRow_75 (by decide) ?_
            refine g_iload_n hk dX12_laysRow_77 rfl ?_
            refine g_imul hk dX12_laysRow_78 ?_
            refine g_topi (fun y19329 ey19329 => ?_)
            have hy19329 : y19329.toInt = 16 * z1.toInt := i32_mul ey19329 rfl rfl (by omega) (by omega)
            refine g_iload_n hk dX12_laysRow_79 rfl ?_
            refine g_iadd hk dX12_laysRow_80 ?_
            refine g_topi (fun y19330 ey19330 => ?_)
            have hy19330 : y19330.toInt = y19329.toInt + x19069.toInt := i32_add ey19330 rfl rfl (by omega) (by omega)
            refine g_iload hk dX12_laysRow_81 rfl ?_
            refine g_aload_n hk dX12_laysRow_83 rfl ?_
            refine g_aload_n hk dX12_laysRow_84 rfl ?_
            refine gM_r0_38 hk hin12 (List.mem_cons_of_mem _ (List.mem_append_left _ (List.mem_of_getElem? (i := 12) rfl))) dX12_laysRow_85 ?_
            refine g_iload_n hk dX12_laysRow_88 rfl ?_
            refine lM_19 (v := (A 19 z1.toNatClampNeg)) hk (vp_in_iff.mpr ⟨by omega, by omega⟩) (congrFun (hA19073 19 rfl) _) dX12_laysRow_89 ?_
            refine g_aload_n hk dX12_laysRow_90 rfl ?_
            refine gM_r0_39 hk hin12 (List.mem_cons_of_mem _ (List.mem_append_left _ (List.mem_of_getElem? (i := 13) rfl))) dX12_laysRow_91 ?_
            refine g_iload_n hk dX12_laysRow_94 rfl ?_
            refine lM_20 (v := (A 20 x19069.toNatClampNeg)) hk (vp_in_iff.mpr ⟨by omega, by omega⟩) (congrFun (hA19073 20 rfl) _) dX12_laysRow_95 ?_
            refine g_callV (n := 2) hk (j178_X12_costOf l D zt r g I19073 A19073 L19073 (A 19 z1.toNatClampNeg) (A 20 x19069.toNatClampNeg) hV19073) (SP.same _) (fun _ h => h) (gi_V (List.mem_cons_of_mem _ (List.mem_append_left _ (List.mem_of_getElem? (i := 14) rfl))) (List.mem_cons_of_mem _ (List.mem_append_left _ (List.mem_of_getElem? (i := 15) rfl))) (List.mem_cons_of_mem _ (List.mem_append_left _ (List.mem_of_getElem? (i := 16) rfl))) (List.mem_cons_of_mem _ (List.mem_append_left _ (List.mem_of_getElem? (i := 5) rfl))) (gi_sub (fun w h => (List.mem_cons_of_mem _ (List.mem_append_right _ (List.mem_append_right _ (List.mem_append_right _ (List.mem_append_right _ (List.mem_append_right _ (List.mem_append_left _ h)))))))) zg_j178_X12_costOf)) rfl rfl rfl (by decide +kernel) ⟨Nat.le_of_ble_eq_true rfl, Nat.le_of_ble_eq_true rfl⟩ 0 rfl rfl rfl rfl (Nat.le_of_ble_eq_true rfl) ⟨Nat.le_of_ble_eq_true rfl, Nat.le_of_ble_eq_true rfl⟩ dX12_laysRow_96 (fun v ty' w' hp hk' => ?_)
            obtain ⟨y19331, rfl, rfl⟩ := hp
            show GW κ 5 0 0 (wM r g I19073 A19073 L19073) 99 [(4, .int y19327), (3, .int x19069), (2, .int x19070), (0, .ref (r 0)), (1, .int z1)] [.int y19331, .int y19327, .int y19330, .ref (r 22)]
            have b19332l := Int32.le_toInt y19327
            have b19332h := Int32.toInt_lt y19327
            have b19333l := Int32.le_toInt y19331
            have b19333h := Int32.toInt_lt y19331
            refine g_iadd hk dX12_laysRow_99 ?_
            refine g_topi (fun y19334 ey19334 => ?_)
            refine sM_21 (j := y19330.toNatClampNeg) hk (vp_in_iff.mpr ⟨by omega, by omega⟩) rfl dX12_laysRow_100 ?_
            refine g_iload_n hk dX12_laysRow_101 rfl ?_
            refine g_aload_n hk dX12_laysRow_102 rfl ?_
            refine gM_r0_40 hk hin12 (List.mem_cons_of_mem _ (List.mem_append_left _ (List.mem_of_getElem? (i := 11) rfl))) dX12_laysRow_103 ?_
            refine g_bipush (v := 16) hk dX12_laysRow_106 (by decide) ?_
            refine g_iload_n hk dX12_laysRow_108 rfl ?_
            refine g_imul hk dX12_laysRow_109 ?_
            refine g_topi (fun y19335 ey19335 => ?_)
            have hy19335 : y19335.toInt = 16 * z1.toInt := i32_mul ey19335 rfl rfl (by omega) (by omega)
            refine g_iload_n hk dX12_laysRow_110 rfl ?_
            refine g_iadd hk dX12_laysRow_111 ?_
            refine g_topi (fun y19336 ey19336 => ?_)
            have hy19336 : y19336.toInt = y19335.toInt + x19069.toInt := i32_add ey19336 rfl rfl (by omega) (by omega)
            refine lM_21 hk (vp_in_iff.mpr ⟨by omega, by omega⟩) rfl dX12_laysRow_112 ?_
            refine g_topi (fun y19337 ey19337 => ?_)
            refine g_callS (n := 2) hk (j177_X12_least l D zt r g I19073 (up3 A19073 21 (y19330.toNatClampNeg) y19334) L19073 x19070 y19337 ⟨(IvM_f1 (I := I19073) (A := A19073) hV19073), (IvM_f2 (I := I19073) (A := A19073) hV19073), (IvM_f3 (I := I19073) (A := A19073) hV19073), (IvM_f4 (I := I19073) (A := A19073) hV19073), (IvM_f6 (I := I19073) (A := A19073) hV19073), (IvM_f8 (I := I19073) (A := A19073) hV19073), (IvM_f15 (I := I19073) (A := A19073) hV19073), (IvM_f16 (I := I19073) (A := A19073) hV19073), (IvM_f17 (I := I19073) (A := A19073) hV19073), (IvM_f18 (I := I19073) (A := A19073) hV19073), (IvM_f22 (I := I19073) (A := A19073) hV19073), (IvM_f23 (I := I19073) (A := A19073) hV19073), (IvM_f24 (I := I19073) (A := A19073) hV19073), (IvM_a11 (I := I19073) (A := A19073) hV19073), (IvM_a26 (I := I19073) (A := A19073) hV19073), (IvM_s8_0 (I := I19073) (A := A19073) hV19073), (IvM_s8_1 (I := I19073) (A := A19073) hV19073), (IvM_s10_0 (I := I19073) (A := A19073) hV19073), (IvM_s10_1 (I := I19073) (A := A19073) hV19073), (IvM_s17_0 (I := I19073) (A := A19073) hV19073), (IvM_s17_164 (I := I19073) (A := A19073) hV19073), (IvM_lv (I := I19073) (A := A19073) hV19073), (IvM_sd (I := I19073) (A := A19073) hV19073), (IvM_nq (I := I19073) (A := A19073) hV19073), (IvM_hr (I := I19073) (A := A19073) hV19073), (IvM_hh (I := I19073) (A := A19073) hV19073), trivial⟩) (SP.same _) (fun _ h => h) (gi_S (List.mem_cons_of_mem _ (List.mem_append_left _ (List.mem_of_getElem? (i := 9) rfl))) (List.mem_cons_of_mem _ (List.mem_append_left _ (List.mem_of_getElem? (i := 10) rfl))) (List.mem_cons_of_mem _ (List.mem_append_left _ (List.mem_of_getElem? (i := 5) rfl))) (gi_sub (fun w h => (List.mem_cons_of_mem _ (List.mem_append_right _ (List.mem_append_right _ (List.mem_append_right _ (List.mem_append_right _ (List.mem_append_left _ h))))))) zg_j177_X12_least)) rfl rfl rfl (by decide +kernel) ⟨Nat.le_of_ble_eq_true rfl, Nat.le_of_ble_eq_true rfl⟩ rfl rfl (Nat.le_of_ble_eq_true rfl) ⟨Nat.le_of_ble_eq_true rfl, Nat.le_of_ble_eq_true rfl⟩ dX12_laysRow_113 (fun v ty' w' hp hk' => ?_)
            obtain ⟨y19338, rfl, rfl⟩ := hp
            show GW κ 5 0 0 (wM r g I19073 (up3 A19073 21 (y19330.toNatClampNeg) y19334) L19073) 116 [(4, .int y19327), (3, .int x19069), (2, .int x19070), (0, .ref (r 0)), (1, .int z1)] [.int y19338]
            refine g_istore_n (lv' := [(2, .int y19338), (4, .int y19327), (3, .int x19069), (0, .ref (r 0)), (1, .int z1)]) hk dX12_laysRow_116 (by decide) rfl ?_
            refine g_aload_n hk dX12_laysRow_117 rfl ?_
            refine g_dup hk dX12_laysRow_118 rfl ?_
            refine gM_i19 (v := (I19073 19)) hk hin12 (List.mem_cons_of_mem _ (List.mem_append_left _ (List.mem_of_getElem? (i := 17) rfl))) dX12_laysRow_119 rfl ?_
            refine g_iconst (v := 1) hk dX12_laysRow_122 (by decide) ?_
            have b19339l := Int32.le_toInt (I19073 19)
            have b19339h := Int32.toInt_lt (I19073 19)
            refine g_iadd hk dX12_laysRow_123 ?_
            refine g_topi (fun y19340 ey19340 => ?_)
            refine pM_i19 hk hin12 (List.mem_cons_of_mem _ (List.mem_append_left _ (List.mem_of_getElem? (i := 17) rfl))) dX12_laysRow_124 ?_
            obtain ⟨y19341, ey19341⟩ : ∃ y : Int32, y = x19069 + Int32.ofInt 1 := ⟨_, rfl⟩
            have hy19341 : y19341.toInt = x19069.toInt + 1 := i32_add ey19341 rfl (by decide) (by omega) (by omega)
            refine g_iinc (v := y19341) (lv' := [(3, .int y19341), (2, .int y19338), (4, .int y19327), (0, .ref (r 0)), (1, .int z1)]) hk 2 dX12_laysRow_127 rfl ey19341.symm (by decide) rfl ?_
            refine g_goto (tgt := 6) hk dX12_laysRow_130 (by decide) ?_
            have b19342l := Int32.le_toInt y19338
            have b19342h := Int32.toInt_lt y19338
            exact g_lv (List.forall_mem_cons.mpr ⟨List.mem_of_getElem? (i := 0) rfl, (List.forall_mem_cons.mpr ⟨List.mem_of_getElem? (i := 1) rfl, (List.forall_mem_cons.mpr ⟨List.mem_of_getElem? (i := 3) rfl, (List.forall_mem_cons.mpr ⟨List.mem_of_getElem? (i := 4) rfl, (fun _ h => absurd h List.not_mem_nil)⟩)⟩)⟩)⟩) (ih19309 y19341 y19338 (upd I19073 19 y19340) (up3 A19073 21 (y19330.toNatClampNeg) y19334) L19073 (show Md [19] I (upd I19073 19 y19340) from Md.tr hI19073 (show Md [19] I19073 (upd I19073 19 y19340) from (Md.up Md.rf rfl)) rfl) (show Md [21] A (up3 A19073 21 (y19330.toNatClampNeg) y19334) from Md.tr hA19073 (show Md [21] A19073 (up3 A19073 21 (y19330.toNatClampNeg) y19334) from (Md.up3 Md.rf rfl)) rfl) ⟨(IvM_f1 (I := I19073) (A := A19073) hV19073), (IvM_f2 (I := I19073) (A := A19073) hV19073), (IvM_f3 (I := I19073) (A := A19073) hV19073), (IvM_f4 (I := I19073) (A := A19073) hV19073), (IvM_f6 (I := I19073) (A := A19073) hV19073), (IvM_f8 (I := I19073) (A := A19073) hV19073), (IvM_f15 (I := I19073) (A := A19073) hV19073), (IvM_f16 (I := I19073) (A := A19073) hV19073), (IvM_f17 (I := I19073) (A := A19073) hV19073), (IvM_f18 (I := I19073) (A := A19073) hV19073), (IvM_f22 (I := I19073) (A := A19073) hV19073), (IvM_f23 (I := I19073) (A := A19073) hV19073), (IvM_f24 (I := I19073) (A := A19073) hV19073), (IvM_a11 (I := I19073) (A := A19073) hV19073), (IvM_a26 (I := I19073) (A := A19073) hV19073), (IvM_s8_0 (I := I19073) (A := A19073) hV19073), (IvM_s8_1 (I := I19073) (A := A19073) hV19073), (IvM_s10_0 (I := I19073) (A := A19073) hV19073), (IvM_s10_1 (I := I19073) (A := A19073) hV19073), (IvM_s17_0 (I := I19073) (A := A19073) hV19073), (IvM_s17_164 (I := I19073) (A := A19073) hV19073), (IvM_lv (I := I19073) (A := A19073) hV19073), (IvM_sd (I := I19073) (A := A19073) hV19073), (IvM_nq (I := I19073) (A := A19073) hV19073), (IvM_hr (I := I19073) (A := A19073) hV19073), (IvM_hh (I := I19073) (A := A19073) hV19073), trivial⟩ (by omega) (by omega) (by omega) (by omega))
          · skip
            refine g_iload_n hk dX12_laysRow_64 rfl ?_
            refine g_if_ne (tgt := 71) (a := x19069.toInt) hk dX12_laysRow_65 (by decide) rfl (fun c19343 => ?_) (fun c19343 => ?_)
            · skip
              refine g_aload_n hk dX12_laysRow_71 rfl ?_
              refine gM_r0_40 hk hin12 (List.mem_cons_of_mem _ (List.mem_append_left _ (List.mem_of_getElem? (i := 11) rfl))) dX12_laysRow_72 ?_
              refine g_bipush (v := 16) hk dX12_laysRow_75 (by decide) ?_
              refine g_iload_n hk dX12_laysRow_77 rfl ?_
              refine g_imul hk dX12_laysRow_78 ?_
              refine g_topi (fun y19344 ey19344 => ?_)
              have hy19344 : y19344.toInt = 16 * z1.toInt := i32_mul ey19344 rfl rfl (by omega) (by omega)
              refine g_iload_n hk dX12_laysRow_79 rfl ?_
              refine g_iadd hk dX12_laysRow_80 ?_
              refine g_topi (fun y19345 ey19345 => ?_)
              have hy19345 : y19345.toInt = y19344.toInt + x19069.toInt := i32_add ey19345 rfl rfl (by omega) (by omega)
              refine g_iload hk dX12_laysRow_81 rfl ?_
              refine g_aload_n hk dX12_laysRow_83 rfl ?_
              refine g_aload_n hk dX12_laysRow_84 rfl ?_
              refine gM_r0_38 hk hin12 (List.mem_cons_of_mem _ (List.mem_append_left _ (List.mem_of_getElem? (i := 12) rfl))) dX12_laysRow_85 ?_
              refine g_iload_n hk dX12_laysRow_88 rfl ?_
              refine lM_19 (v := (A 19 z1.toNatClampNeg)) hk (vp_in_iff.mpr ⟨by omega, by omega⟩) (congrFun (hA19073 19 rfl) _) dX12_laysRow_89 ?_
              refine g_aload_n hk dX12_laysRow_90 rfl ?_
              refine gM_r0_39 hk hin12 (List.mem_cons_of_mem _ (List.mem_append_left _ (List.mem_of_getElem? (i := 13) rfl))) dX12_laysRow_91 ?_
              refine g_iload_n hk dX12_laysRow_94 rfl ?_
              refine lM_20 (v := (A 20 x19069.toNatClampNeg)) hk (vp_in_iff.mpr ⟨by omega, by omega⟩) (congrFun (hA19073 20 rfl) _) dX12_laysRow_95 ?_
              refine g_callV (n := 2) hk (j178_X12_costOf l D zt r g I19073 A19073 L19073 (A 19 z1.toNatClampNeg) (A 20 x19069.toNatClampNeg) hV19073) (SP.same _) (fun _ h => h) (gi_V (List.mem_cons_of_mem _ (List.mem_append_left _ (List.mem_of_getElem? (i := 14) rfl))) (List.mem_cons_of_mem _ (List.mem_append_left _ (List.mem_of_getElem? (i := 15) rfl))) (List.mem_cons_of_mem _ (List.mem_append_left _ (List.mem_of_getElem? (i := 16) rfl))) (List.mem_cons_of_mem _ (List.mem_append_left _ (List.mem_of_getElem? (i := 5) rfl))) (gi_sub (fun w h => (List.mem_cons_of_mem _ (List.mem_append_right _ (List.mem_append_right _ (List.mem_append_right _ (List.mem_append_right _ (List.mem_append_right _ (List.mem_append_left _ h)))))))) zg_j178_X12_costOf)) rfl rfl rfl (by decide +kernel) ⟨Nat.le_of_ble_eq_true rfl, Nat.le_of_ble_eq_true rfl⟩ 0 rfl rfl rfl rfl (Nat.le_of_ble_eq_true rfl) ⟨Nat.le_of_ble_eq_true rfl, Nat.le_of_ble_eq_true rfl⟩ dX12_laysRow_96 (fun v ty' w' hp hk' => ?_)
              obtain ⟨y19346, rfl, rfl⟩ := hp
              show GW κ 5 0 0 (wM r g I19073 A19073 L19073) 99 [(4, .int y19327), (3, .int x19069), (2, .int x19070), (0, .ref (r 0)), (1, .int z1)] [.int y19346, .int y19327, .int y19345, .ref (r 22)]
              have b19347l := Int32.le_toInt y19327
              have b19347h := Int32.toInt_lt y19327
              have b19348l := Int32.le_toInt y19346
              have b19348h := Int32.toInt_lt y19346
              refine g_iadd hk dX12_laysRow_99 ?_
              refine g_topi (fun y19349 ey19349 => ?_)
              refine sM_21 (j := y19345.toNatClampNeg) hk (vp_in_iff.mpr ⟨by omega, by omega⟩) rfl dX12_laysRow_100 ?_
              refine g_iload_n hk dX12_laysRow_101 rfl ?_
              refine g_aload_n hk dX12_laysRow_102 rfl ?_
              refine gM_r0_40 hk hin12 (List.mem_cons_of_mem _ (List.mem_append_left _ (List.mem_of_getElem? (i := 11) rfl))) dX12_laysRow_103 ?_
              refine g_bipush (v := 16) hk dX12_laysRow_106 (by decide) ?_
              refine g_iload_n hk dX12_laysRow_108 rfl ?_
              refine g_imul hk dX12_laysRow_109 ?_
              refine g_topi (fun y19350 ey19350 => ?_)
              have hy19350 : y19350.toInt = 16 * z1.toInt := i32_mul ey19350 rfl rfl (by omega) (by omega)
              refine g_iload_n hk dX12_laysRow_110 rfl ?_
              refine g_iadd hk dX12_laysRow_111 ?_
              refine g_topi (fun y19351 ey19351 => ?_)
              have hy19351 : y19351.toInt = y19350.toInt + x19069.toInt := i32_add ey19351 rfl rfl (by omega) (by omega)
              refine lM_21 hk (vp_in_iff.mpr ⟨by omega, by omega⟩) rfl dX12_laysRow_112 ?_
              refine g_topi (fun y19352 ey19352 => ?_)
              refine g_callS (n := 2) hk (j177_X12_least l D zt r g I19073 (up3 A19073 21 (y19345.toNatClampNeg) y19349) L19073 x19070 y19352 ⟨(IvM_f1 (I := I19073) (A := A19073) hV19073), (IvM_f2 (I := I19073) (A := A19073) hV19073), (IvM_f3 (I := I19073) (A := A19073) hV19073), (IvM_f4 (I := I19073) (A := A19073) hV19073), (IvM_f6 (I := I19073) (A := A19073) hV19073), (IvM_f8 (I := I19073) (A := A19073) hV19073), (IvM_f15 (I := I19073) (A := A19073) hV19073), (IvM_f16 (I := I19073) (A := A19073) hV19073), (IvM_f17 (I := I19073) (A := A19073) hV19073), (IvM_f18 (I := I19073) (A := A19073) hV19073), (IvM_f22 (I := I19073) (A := A19073) hV19073), (IvM_f23 (I := I19073) (A := A19073) hV19073), (IvM_f24 (I := I19073) (A := A19073) hV19073), (IvM_a11 (I := I19073) (A := A19073) hV19073), (IvM_a26 (I := I19073) (A := A19073) hV19073), (IvM_s8_0 (I := I19073) (A := A19073) hV19073), (IvM_s8_1 (I := I19073) (A := A19073) hV19073), (IvM_s10_0 (I := I19073) (A := A19073) hV19073), (IvM_s10_1 (I := I19073) (A := A19073) hV19073), (IvM_s17_0 (I := I19073) (A := A19073) hV19073), (IvM_s17_164 (I := I19073) (A := A19073) hV19073), (IvM_lv (I := I19073) (A := A19073) hV19073), (IvM_sd (I := I19073) (A := A19073) hV19073), (IvM_nq (I := I19073) (A := A19073) hV19073), (IvM_hr (I := I19073) (A := A19073) hV19073), (IvM_hh (I := I19073) (A := A19073) hV19073), trivial⟩) (SP.same _) (fun _ h => h) (gi_S (List.mem_cons_of_mem _ (List.mem_append_left _ (List.mem_of_getElem? (i := 9) rfl))) (List.mem_cons_of_mem _ (List.mem_append_left _ (List.mem_of_getElem? (i := 10) rfl))) (List.mem_cons_of_mem _ (List.mem_append_left _ (List.mem_of_getElem? (i := 5) rfl))) (gi_sub (fun w h => (List.mem_cons_of_mem _ (List.mem_append_right _ (List.mem_append_right _ (List.mem_append_right _ (List.mem_append_right _ (List.mem_append_left _ h))))))) zg_j177_X12_least)) rfl rfl rfl (by decide +kernel) ⟨Nat.le_of_ble_eq_true rfl, Nat.le_of_ble_eq_true rfl⟩ rfl rfl (Nat.le_of_ble_eq_true rfl) ⟨Nat.le_of_ble_eq_true rfl, Nat.le_of_ble_eq_true rfl⟩ dX12_laysRow_113 (fun v ty' w' hp hk' => ?_)
              obtain ⟨y19353, rfl, rfl⟩ := hp
              show GW κ 5 0 0 (wM r g I19073 (up3 A19073 21 (y19345.toNatClampNeg) y19349) L19073) 116 [(4, .int y19327), (3, .int x19069), (2, .int x19070), (0, .ref (r 0)), (1, .int z1)] [.int y19353]
              refine g_istore_n (lv' := [(2, .int y19353), (4, .int y19327), (3, .int x19069), (0, .ref (r 0)), (1, .int z1)]) hk dX12_laysRow_116 (by decide) rfl ?_
              refine g_aload_n hk dX12_laysRow_117 rfl ?_
              refine g_dup hk dX12_laysRow_118 rfl ?_
              refine gM_i19 (v := (I19073 19)) hk hin12 (List.mem_cons_of_mem _ (List.mem_append_left _ (List.mem_of_getElem? (i := 17) rfl))) dX12_laysRow_119 rfl ?_
              refine g_iconst (v := 1) hk dX12_laysRow_122 (by decide) ?_
              have b19354l := Int32.le_toInt (I19073 19)
              have b19354h := Int32.toInt_lt (I19073 19)
              refine g_iadd hk dX12_laysRow_123 ?_
              refine g_topi (fun y19355 ey19355 => ?_)
              refine pM_i19 hk hin12 (List.mem_cons_of_mem _ (List.mem_append_left _ (List.mem_of_getElem? (i := 17) rfl))) dX12_laysRow_124 ?_
              obtain ⟨y19356, ey19356⟩ : ∃ y : Int32, y = x19069 + Int32.ofInt 1 := ⟨_, rfl⟩
              have hy19356 : y19356.toInt = x19069.toInt + 1 := i32_add ey19356 rfl (by decide) (by omega) (by omega)
              refine g_iinc (v := y19356) (lv' := [(3, .int y19356), (2, .int y19353), (4, .int y19327), (0, .ref (r 0)), (1, .int z1)]) hk 2 dX12_laysRow_127 rfl ey19356.symm (by decide) rfl ?_
              refine g_goto (tgt := 6) hk dX12_laysRow_130 (by decide) ?_
              have b19357l := Int32.le_toInt y19353
              have b19357h := Int32.toInt_lt y19353
              exact g_lv (List.forall_mem_cons.mpr ⟨List.mem_of_getElem? (i := 0) rfl, (List.forall_mem_cons.mpr ⟨List.mem_of_getElem? (i := 1) rfl, (List.forall_mem_cons.mpr ⟨List.mem_of_getElem? (i := 3) rfl, (List.forall_mem_cons.mpr ⟨List.mem_of_getElem? (i := 4) rfl, (fun _ h => absurd h List.not_mem_nil)⟩)⟩)⟩)⟩) (ih19309 y19356 y19353 (upd I19073 19 y19355) (up3 A19073 21 (y19345.toNatClampNeg) y19349) L19073 (show Md [19] I (upd I19073 19 y19355) from Md.tr hI19073 (show Md [19] I19073 (upd I19073 19 y19355) from (Md.up Md.rf rfl)) rfl) (show Md [21] A (up3 A19073 21 (y19345.toNatClampNeg) y19349) from Md.tr hA19073 (show Md [21] A19073 (up3 A19073 21 (y19345.toNatClampNeg) y19349) from (Md.up3 Md.rf rfl)) rfl) ⟨(IvM_f1 (I := I19073) (A := A19073) hV19073), (IvM_f2 (I := I19073) (A := A19073) hV19073), (IvM_f3 (I := I19073) (A := A19073) hV19073), (IvM_f4 (I := I19073) (A := A19073) hV19073), (IvM_f6 (I := I19073) (A := A19073) hV19073), (IvM_f8 (I := I19073) (A := A19073) hV19073), (IvM_f15 (I := I19073) (A := A19073) hV19073), (IvM_f16 (I := I19073) (A := A19073) hV19073), (IvM_f17 (I := I19073) (A := A19073) hV19073), (IvM_f18 (I := I19073) (A := A19073) hV19073), (IvM_f22 (I := I19073) (A := A19073) hV19073), (IvM_f23 (I := I19073) (A := A19073) hV19073), (IvM_f24 (I := I19073) (A := A19073) hV19073), (IvM_a11 (I := I19073) (A := A19073) hV19073), (IvM_a26 (I := I19073) (A := A19073) hV19073), (IvM_s8_0 (I := I19073) (A := A19073) hV19073), (IvM_s8_1 (I := I19073) (A := A19073) hV19073), (IvM_s10_0 (I := I19073) (A := A19073) hV19073), (IvM_s10_1 (I := I19073) (A := A19073) hV19073), (IvM_s17_0 (I := I19073) (A := A19073) hV19073), (IvM_s17_164 (I := I19073) (A := A19073) hV19073), (IvM_lv (I := I19073) (A := A19073) hV19073), (IvM_sd (I := I19073) (A := A19073) hV19073), (IvM_nq (I := I19073) (A := A19073) hV19073), (IvM_hr (I := I19073) (A := A19073) hV19073), (IvM_hh (I := I19073) (A := A19073) hV19073), trivial⟩ (by omega) (by omega) (by omega) (by omega))
            · skip
              refine g_iconst (v := 0) hk dX12_laysRow_68 (by decide) ?_
              refine g_istore (lv' := [(4, .int 0), (3, .int x19069), (2, .int x19070), (0, .ref (r 0)), (1, .int z1)]) hk dX12_laysRow_69 (by decide) rfl ?_
              refine g_aload_n hk dX12_laysRow_71 rfl ?_
              refine gM_r0_40 hk hin12 (List.mem_cons_of_mem _ (List.mem_append_left _ (List.mem_of_getElem? (i := 11) rfl))) dX12_laysRow_72 ?_
              refine g_bipush (v := 16) hk dX12_laysRow_75 (by decide) ?_
              refine g_iload_n hk dX12_laysRow_77 rfl ?_
              refine g_imul hk dX12_laysRow_78 ?_
              refine g_topi (fun y19358 ey19358 => ?_)
              have hy19358 : y19358.toInt = 16 * z1.toInt := i32_mul ey19358 rfl rfl (by omega) (by omega)
              refine g_iload_n hk dX12_laysRow_79 rfl ?_
              refine g_iadd hk dX12_laysRow_80 ?_
              refine g_topi (fun y19359 ey19359 => ?_)
              have hy19359 : y19359.toInt = y19358.toInt + x19069.toInt := i32_add ey19359 rfl rfl (by omega) (by omega)
              refine g_iload hk dX12_laysRow_81 rfl ?_
              refine g_aload_n hk dX12_laysRow_83 rfl ?_
              refine g_aload_n hk dX12_laysRow_84 rfl ?_
              refine gM_r0_38 hk hin12 (List.mem_cons_of_mem _ (List.mem_append_left _ (List.mem_of_getElem? (i := 12) rfl))) dX12_laysRow_85 ?_
              refine g_iload_n hk dX12_laysRow_88 rfl ?_
              refine lM_19 (v := (A 19 z1.toNatClampNeg)) hk (vp_in_iff.mpr ⟨by omega, by omega⟩) (congrFun (hA19073 19 rfl) _) dX12_laysRow_89 ?_
              refine g_aload_n hk dX12_laysRow_90 rfl ?_
              refine gM_r0_39 hk hin12 (List.mem_cons_of_mem _ (List.mem_append_left _ (List.mem_of_getElem? (i := 13) rfl))) dX12_laysRow_91 ?_
              refine g_iload_n hk dX12_laysRow_94 rfl ?_
              refine lM_20 (v := (A 20 x19069.toNatClampNeg)) hk (vp_in_iff.mpr ⟨by omega, by omega⟩) (congrFun (hA19073 20 rfl) _) dX12_laysRow_95 ?_
              refine g_callV (n := 2) hk (j178_X12_costOf l D zt r g I19073 A19073 L19073 (A 19 z1.toNatClampNeg) (A 20 x19069.toNatClampNeg) hV19073) (SP.same _) (fun _ h => h) (gi_V (List.mem_cons_of_mem _ (List.mem_append_left _ (List.mem_of_getElem? (i := 14) rfl))) (List.mem_cons_of_mem _ (List.mem_append_left _ (List.mem_of_getElem? (i := 15) rfl))) (List.mem_cons_of_mem _ (List.mem_append_left _ (List.mem_of_getElem? (i := 16) rfl))) (List.mem_cons_of_mem _ (List.mem_append_left _ (List.mem_of_getElem? (i := 5) rfl))) (gi_sub (fun w h => (List.mem_cons_of_mem _ (List.mem_append_right _ (List.mem_append_right _ (List.mem_append_right _ (List.mem_append_right _ (List.mem_append_right _ (List.mem_append_left _ h)))))))) zg_j178_X12_costOf)) rfl rfl rfl (by decide +kernel) ⟨Nat.le_of_ble_eq_true rfl, Nat.le_of_ble_eq_true rfl⟩ 0 rfl rfl rfl rfl (Nat.le_of_ble_eq_true rfl) ⟨Nat.le_of_ble_eq_true rfl, Nat.le_of_ble_eq_true rfl⟩ dX12_laysRow_96 (fun v ty' w' hp hk' => ?_)
              obtain ⟨y19360, rfl, rfl⟩ := hp
              show GW κ 5 0 0 (wM r g I19073 A19073 L19073) 99 [(4, .int 0), (3, .int x19069), (2, .int x19070), (0, .ref (r 0)), (1, .int z1)] [.int y19360, .int 0, .int y19359, .ref (r 22)]
              have b19361l := Int32.le_toInt y19360
              have b19361h := Int32.toInt_lt y19360
              refine g_iadd hk dX12_laysRow_99 ?_
              refine g_topi (fun y19362 ey19362 => ?_)
              have hy19362 : y19362.toInt = 0 + y19360.toInt := i32_add ey19362 rfl rfl (by omega) (by omega)
              refine sM_21 (j := y19359.toNatClampNeg) hk (vp_in_iff.mpr ⟨by omega, by omega⟩) rfl dX12_laysRow_100 ?_
              refine g_iload_n hk dX12_laysRow_101 rfl ?_
              refine g_aload_n hk dX12_laysRow_102 rfl ?_
              refine gM_r0_40 hk hin12 (List.mem_cons_of_mem _ (List.mem_append_left _ (List.mem_of_getElem? (i := 11) rfl))) dX12_laysRow_103 ?_
              refine g_bipush (v := 16) hk dX12_laysRow_106 (by decide) ?_
              refine g_iload_n hk dX12_laysRow_108 rfl ?_
              refine g_imul hk dX12_laysRow_109 ?_
              refine g_topi (fun y19363 ey19363 => ?_)
              have hy19363 : y19363.toInt = 16 * z1.toInt := i32_mul ey19363 rfl rfl (by omega) (by omega)
              refine g_iload_n hk dX12_laysRow_110 rfl ?_
              refine g_iadd hk dX12_laysRow_111 ?_
              refine g_topi (fun y19364 ey19364 => ?_)
              have hy19364 : y19364.toInt = y19363.toInt + x19069.toInt := i32_add ey19364 rfl rfl (by omega) (by omega)
              refine lM_21 hk (vp_in_iff.mpr ⟨by omega, by omega⟩) rfl dX12_laysRow_112 ?_
              refine g_topi (fun y19365 ey19365 => ?_)
              refine g_callS (n := 2) hk (j177_X12_least l D zt r g I19073 (up3 A19073 21 (y19359.toNatClampNeg) y19362) L19073 x19070 y19365 ⟨(IvM_f1 (I := I19073) (A := A19073) hV19073), (IvM_f2 (I := I19073) (A := A19073) hV19073), (IvM_f3 (I := I19073) (A := A19073) hV19073), (IvM_f4 (I := I19073) (A := A19073) hV19073), (IvM_f6 (I := I19073) (A := A19073) hV19073), (IvM_f8 (I := I19073) (A := A19073) hV19073), (IvM_f15 (I := I19073) (A := A19073) hV19073), (IvM_f16 (I := I19073) (A := A19073) hV19073), (IvM_f17 (I := I19073) (A := A19073) hV19073), (IvM_f18 (I := I19073) (A := A19073) hV19073), (IvM_f22 (I := I19073) (A := A19073) hV19073), (IvM_f23 (I := I19073) (A := A19073) hV19073), (IvM_f24 (I := I19073) (A := A19073) hV19073), (IvM_a11 (I := I19073) (A := A19073) hV19073), (IvM_a26 (I := I19073) (A := A19073) hV19073), (IvM_s8_0 (I := I19073) (A := A19073) hV19073), (IvM_s8_1 (I := I19073) (A := A19073) hV19073), (IvM_s10_0 (I := I19073) (A := A19073) hV19073), (IvM_s10_1 (I := I19073) (A := A19073) hV19073), (IvM_s17_0 (I := I19073) (A := A19073) hV19073), (IvM_s17_164 (I := I19073) (A := A19073) hV19073), (IvM_lv (I := I19073) (A := A19073) hV19073), (IvM_sd (I := I19073) (A := A19073) hV19073), (IvM_nq (I := I19073) (A := A19073) hV19073), (IvM_hr (I := I19073) (A := A19073) hV19073), (IvM_hh (I := I19073) (A := A19073) hV19073), trivial⟩) (SP.same _) (fun _ h => h) (gi_S (List.mem_cons_of_mem _ (List.mem_append_left _ (List.mem_of_getElem? (i := 9) rfl))) (List.mem_cons_of_mem _ (List.mem_append_left _ (List.mem_of_getElem? (i := 10) rfl))) (List.mem_cons_of_mem _ (List.mem_append_left _ (List.mem_of_getElem? (i := 5) rfl))) (gi_sub (fun w h => (List.mem_cons_of_mem _ (List.mem_append_right _ (List.mem_append_right _ (List.mem_append_right _ (List.mem_append_right _ (List.mem_append_left _ h))))))) zg_j177_X12_least)) rfl rfl rfl (by decide +kernel) ⟨Nat.le_of_ble_eq_true rfl, Nat.le_of_ble_eq_true rfl⟩ rfl rfl (Nat.le_of_ble_eq_true rfl) ⟨Nat.le_of_ble_eq_true rfl, Nat.le_of_ble_eq_true rfl⟩ dX12_laysRow_113 (fun v ty' w' hp hk' => ?_)
              obtain ⟨y19366, rfl, rfl⟩ := hp
              show GW κ 5 0 0 (wM r g I19073 (up3 A19073 21 (y19359.toNatClampNeg) y19362) L19073) 116 [(4, .int 0), (3, .int x19069), (2, .int x19070), (0, .ref (r 0)), (1, .int z1)] [.int y19366]
              refine g_istore_n (lv' := [(2, .int y19366), (4, .int 0), (3, .int x19069), (0, .ref (r 0)), (1, .int z1)]) hk dX12_laysRow_116 (by decide) rfl ?_
              refine g_aload_n hk dX12_laysRow_117 rfl ?_
              refine g_dup hk dX12_laysRow_118 rfl ?_
              refine gM_i19 (v := (I19073 19)) hk hin12 (List.mem_cons_of_mem _ (List.mem_append_left _ (List.mem_of_getElem? (i := 17) rfl))) dX12_laysRow_119 rfl ?_
              refine g_iconst (v := 1) hk dX12_laysRow_122 (by decide) ?_
              have b19367l := Int32.le_toInt (I19073 19)
              have b19367h := Int32.toInt_lt (I19073 19)
              refine g_iadd hk dX12_laysRow_123 ?_
              refine g_topi (fun y19368 ey19368 => ?_)
              refine pM_i19 hk hin12 (List.mem_cons_of_mem _ (List.mem_append_left _ (List.mem_of_getElem? (i := 17) rfl))) dX12_laysRow_124 ?_
              obtain ⟨y19369, ey19369⟩ : ∃ y : Int32, y = x19069 + Int32.ofInt 1 := ⟨_, rfl⟩
              have hy19369 : y19369.toInt = x19069.toInt + 1 := i32_add ey19369 rfl (by decide) (by omega) (by omega)
              refine g_iinc (v := y19369) (lv' := [(3, .int y19369), (2, .int y19366), (4, .int 0), (0, .ref (r 0)), (1, .int z1)]) hk 2 dX12_laysRow_127 rfl ey19369.symm (by decide) rfl ?_
              refine g_goto (tgt := 6) hk dX12_laysRow_130 (by decide) ?_
              have b19370l := Int32.le_toInt y19366
              have b19370h := Int32.toInt_lt y19366
              exact g_lv (List.forall_mem_cons.mpr ⟨List.mem_of_getElem? (i := 0) rfl, (List.forall_mem_cons.mpr ⟨List.mem_of_getElem? (i := 1) rfl, (List.forall_mem_cons.mpr ⟨List.mem_of_getElem? (i := 3) rfl, (List.forall_mem_cons.mpr ⟨List.mem_of_getElem? (i := 4) rfl, (fun _ h => absurd h List.not_mem_nil)⟩)⟩)⟩)⟩) (ih19309 y19369 y19366 (upd I19073 19 y19368) (up3 A19073 21 (y19359.toNatClampNeg) y19362) L19073 (show Md [19] I (upd I19073 19 y19368) from Md.tr hI19073 (show Md [19] I19073 (upd I19073 19 y19368) from (Md.up Md.rf rfl)) rfl) (show Md [21] A (up3 A19073 21 (y19359.toNatClampNeg) y19362) from Md.tr hA19073 (show Md [21] A19073 (up3 A19073 21 (y19359.toNatClampNeg) y19362) from (Md.up3 Md.rf rfl)) rfl) ⟨(IvM_f1 (I := I19073) (A := A19073) hV19073), (IvM_f2 (I := I19073) (A := A19073) hV19073), (IvM_f3 (I := I19073) (A := A19073) hV19073), (IvM_f4 (I := I19073) (A := A19073) hV19073), (IvM_f6 (I := I19073) (A := A19073) hV19073), (IvM_f8 (I := I19073) (A := A19073) hV19073), (IvM_f15 (I := I19073) (A := A19073) hV19073), (IvM_f16 (I := I19073) (A := A19073) hV19073), (IvM_f17 (I := I19073) (A := A19073) hV19073), (IvM_f18 (I := I19073) (A := A19073) hV19073), (IvM_f22 (I := I19073) (A := A19073) hV19073), (IvM_f23 (I := I19073) (A := A19073) hV19073), (IvM_f24 (I := I19073) (A := A19073) hV19073), (IvM_a11 (I := I19073) (A := A19073) hV19073), (IvM_a26 (I := I19073) (A := A19073) hV19073), (IvM_s8_0 (I := I19073) (A := A19073) hV19073), (IvM_s8_1 (I := I19073) (A := A19073) hV19073), (IvM_s10_0 (I := I19073) (A := A19073) hV19073), (IvM_s10_1 (I := I19073) (A := A19073) hV19073), (IvM_s17_0 (I := I19073) (A := A19073) hV19073), (IvM_s17_164 (I := I19073) (A := A19073) hV19073), (IvM_lv (I := I19073) (A := A19073) hV19073), (IvM_sd (I := I19073) (A := A19073) hV19073), (IvM_nq (I := I19073) (A := A19073) hV19073), (IvM_hr (I := I19073) (A := A19073) hV19073), (IvM_hh (I := I19073) (A := A19073) hV19073), trivial⟩ (by omega) (by omega) (by omega) (by omega))
  have k19371 : (0 : Int32).toInt = 0 := rfl
  have k19372 : (2000000000 : Int32).toInt = 2000000000 := rfl
  obtain ⟨n19373, n19373a, n19373b⟩ : ∃ n : Nat, 17 - (0 : Int32).toInt < (n : Int) ∧ 0 < n := ⟨((17 - (0 : Int32).toInt : Int)).toNat + 1, by omega, by omega⟩
  exact lp19306 n19373 0 2000000000 I A L Md.rf Md.rf hIv (by omega) (by omega) n19373a n19373b
def wo_j173_X12_laysTable : List Cond := [Cond.fieldLink RX12 292 "WarpDeskModel" "laid" "I", Cond.fieldLink RX12 295 "WarpDeskModel" "brokeAt" "I", Cond.fieldLink RX12 267 "WarpDeskModel" "wide" "I", Cond.methodLink RX12 283 yX12_atTable, Cond.instanceMethod yX12_atTable, Cond.selects RX12 yX12_atTable yX12_atTable, Cond.initialized RX12, Cond.methodLink RX12 298 yX12_laysRow, Cond.instanceMethod yX12_laysRow, Cond.selects RX12 yX12_laysRow yX12_laysRow, Cond.constant RX12 282 (2000000000)]
def wz_j173_X12_laysTable : List Cond := .code yX12_laysTable cX12_laysTable 3 (some .int) :: (wo_j173_X12_laysTable ++ (wsX120 ++ (wz_j174_X12_atTable ++ (wz_j176_X12_laysRow ++ ([] : List Cond)))))
theorem zg_j173_X12_laysTable : ∀ w ∈ wz_j173_X12_laysTable, goodWord w = true := zg_cons rfl (zg_app (by decide +kernel) (zg_app zgU_wsX120 (zg_app zg_j174_X12_atTable (zg_app zg_j176_X12_laysRow zg_nil))))
theorem zi_j173_X12_laysTable : ∀ w ∈ wz_j173_X12_laysTable, w ∈ lw_tbl := zi_cons zw_1779 (zi_app (zi_cons zw_1419 (zi_cons zw_1420 (zi_cons zw_1415 (zi_cons zw_1788 (zi_cons zw_1790 (zi_cons zw_86 (zi_cons zw_115 (zi_cons zw_1780 (zi_cons zw_1782 (zi_cons zw_84 (zi_cons zw_1775 zi_nil))))))))))) (zi_app inX12 (zi_app zi_j174_X12_atTable (zi_app zi_j176_X12_laysRow zi_nil))))
set_option maxHeartbeats 4000000 in
set_option maxRecDepth 100000 in
theorem j173_X12_laysTable (l : Launch) (D : va_G) (zt : Nat × Nat × Nat × (Nat → Nat) × (Nat → Nat)) (r : Nat → Nat) (g : Nat → ClassId) (I : Nat → Int32) (A : Nat → Nat → Int32) (L : Nat → Nat → Int64) (z1 : Int32) (hIv : IvM I A) : GM l D zt (tyM g) yX12_laysTable wz_j173_X12_laysTable ({ frames := 4, cells := 0, slots := 0, locals := 90 } : Room) [.ref (r 0), .int z1] (wM r g I A L) (fun v _ w' => ∃ (I' : Nat → Int32) (A' : Nat → Nat → Int32) (L' : Nat → Nat → Int64), Md [19, 20] I I' ∧ Md [21] A A' ∧ IvM I' A' ∧ ∃ y0 : Int32, v = some (.int y0) ∧ w' = wM r g I' A' L') 0 0 := by
  refine GM.of (cc := cX12_laysTable) (maxL := 3) (ret := (some .int)) (own := RX12) (lv := [(0, .ref (r 0)), (1, .int z1)]) (by decide) rfl rfl (Nat.le_of_ble_eq_true rfl) rfl (fun κ sz hk hR hN => ?_)
  have hin12 : ∀ w ∈ u_ws RX12 TX12 55, w ∈ wz_j173_X12_laysTable := fun w h => (List.mem_cons_of_mem _ (List.mem_append_right _ (List.mem_append_left _ h)))
  refine g_aload_n hk dX12_laysTable_0 rfl ?_
  refine g_iconst (v := 0) hk dX12_laysTable_1 (by decide) ?_
  refine pM_i19 hk hin12 (List.mem_cons_of_mem _ (List.mem_append_left _ (List.mem_of_getElem? (i := 0) rfl))) dX12_laysTable_2 ?_
  refine g_aload_n hk dX12_laysTable_5 rfl ?_
  refine g_iconst (v := (-1)) hk dX12_laysTable_6 (by decide) ?_
  refine pM_i20 hk hin12 (List.mem_cons_of_mem _ (List.mem_append_left _ (List.mem_of_getElem? (i := 1) rfl))) dX12_laysTable_7 ?_
  refine g_iconst (v := 0) hk dX12_laysTable_10 (by decide) ?_
  refine g_istore_n (lv' := [(2, .int 0), (0, .ref (r 0)), (1, .int z1)]) hk dX12_laysTable_11 (by decide) rfl ?_
  have lp19416 : ∀ (n19417 : Nat) (x19034 : Int32) (I19037 : Nat → Int32) (A19037 : Nat → Nat → Int32) (L19037 : Nat → Nat → Int64), (Md [19] (upd (upd I 19 0) 20 (-1)) I19037) → (Md [21] A A19037) → (IvM I19037 A19037) → (0 ≤ x19034.toInt) → (x19034.toInt ≤ 16) → (17 - x19034.toInt < (n19417 : Int)) → (0 < n19417) → GW κ 3 0 0 (wM r g I19037 A19037 L19037) 12 [(2, .int x19034), (0, .ref (r 0)), (1, .int z1)] [] := by
    intro n19417
    induction n19417 with
    | zero =>
      intro x19034 I19037 A19037 L19037 hI19037 hA19037 hV19037 h19414 h19415 m19418 m19418z
      exact absurd m19418z (Nat.lt_irrefl 0)
    | succ n19417 ih19419 =>
      intro x19034 I19037 A19037 L19037 hI19037 hA19037 hV19037 h19414 h19415 m19418 m19418z
      refine g_iload_n hk dX12_laysTable_12 rfl ?_
      refine g_aload_n hk dX12_laysTable_13 rfl ?_
      refine gM_i18 (v := (I 18)) hk hin12 (List.mem_cons_of_mem _ (List.mem_append_left _ (List.mem_of_getElem? (i := 2) rfl))) dX12_laysTable_14 (hI19037 18 rfl) ?_
      have f19420 := IvM_f18 hIv
      refine g_icmp_ge (tgt := 47) (a := x19034.toInt) (b := (I 18).toInt) hk dX12_laysTable_17 (by decide) rfl rfl (fun c19421 => ?_) (fun c19421 => ?_)
      · skip
        refine g_aload_n hk dX12_laysTable_47 rfl ?_
        refine g_aload_n hk dX12_laysTable_48 rfl ?_
        refine gM_i18 (v := (I 18)) hk hin12 (List.mem_cons_of_mem _ (List.mem_append_left _ (List.mem_of_getElem? (i := 2) rfl))) dX12_laysTable_49 (hI19037 18 rfl) ?_
        refine g_iconst (v := 1) hk dX12_laysTable_52 (by decide) ?_
        refine g_isub hk dX12_laysTable_53 ?_
        refine g_topi (fun y19422 ey19422 => ?_)
        have hy19422 : y19422.toInt = (I 18).toInt - 1 := i32_sub ey19422 rfl rfl (by omega) (by omega)
        refine g_aload_n hk dX12_laysTable_54 rfl ?_
        refine gM_i18 (v := (I 18)) hk hin12 (List.mem_cons_of_mem _ (List.mem_append_left _ (List.mem_of_getElem? (i := 2) rfl))) dX12_laysTable_55 (hI19037 18 rfl) ?_
        refine g_iconst (v := 1) hk dX12_laysTable_58 (by decide) ?_
        refine g_isub hk dX12_laysTable_59 ?_
        refine g_topi (fun y19423 ey19423 => ?_)
        have hy19423 : y19423.toInt = (I 18).toInt - 1 := i32_sub ey19423 rfl rfl (by omega) (by omega)
        refine g_callV (n := 2) hk (j174_X12_atTable l D zt r g I19037 A19037 L19037 y19422 y19423 hV19037 (by omega) (by omega) (by omega) (by omega)) (SP.same _) (fun _ h => h) (gi_V (List.mem_cons_of_mem _ (List.mem_append_left _ (List.mem_of_getElem? (i := 3) rfl))) (List.mem_cons_of_mem _ (List.mem_append_left _ (List.mem_of_getElem? (i := 4) rfl))) (List.mem_cons_of_mem _ (List.mem_append_left _ (List.mem_of_getElem? (i := 5) rfl))) (List.mem_cons_of_mem _ (List.mem_append_left _ (List.mem_of_getElem? (i := 6) rfl))) (gi_sub (fun w h => (List.mem_cons_of_mem _ (List.mem_append_right _ (List.mem_append_right _ (List.mem_append_left _ h))))) zg_j174_X12_atTable)) rfl rfl rfl (by decide +kernel) ⟨Nat.le_of_ble_eq_true rfl, Nat.le_of_ble_eq_true rfl⟩ 0 rfl rfl rfl rfl (Nat.le_of_ble_eq_true rfl) ⟨Nat.le_of_ble_eq_true rfl, Nat.le_of_ble_eq_true rfl⟩ dX12_laysTable_60 (fun v ty' w' hp hk' => ?_)
        obtain ⟨y19424, rfl, rfl⟩ := hp
        show GW κ 3 0 0 (wM r g I19037 A19037 L19037) 63 [(2, .int x19034), (0, .ref (r 0)), (1, .int z1)] [.int y19424]
        have b19425l := Int32.le_toInt y19424
        have b19425h := Int32.toInt_lt y19424
        exact g_iret hk hR rfl ⟨I19037, A19037, L19037, (show Md [19, 20] I I19037 from (Md.tr (Md.up (Md.up Md.rf rfl) rfl) hI19037 rfl)), (show Md [21] A A19037 from (Md.tr Md.rf hA19037 rfl)), hV19037, y19424, rfl, rfl⟩ dX12_laysTable_63
      · skip
        refine g_aload_n hk dX12_laysTable_20 rfl ?_
        refine g_iload_n hk dX12_laysTable_21 rfl ?_
        refine g_callV (n := 1) hk (j176_X12_laysRow l D zt r g I19037 A19037 L19037 x19034 hV19037 (by omega) (by omega)) (SP.same _) (fun _ h => h) (gi_V (List.mem_cons_of_mem _ (List.mem_append_left _ (List.mem_of_getElem? (i := 7) rfl))) (List.mem_cons_of_mem _ (List.mem_append_left _ (List.mem_of_getElem? (i := 8) rfl))) (List.mem_cons_of_mem _ (List.mem_append_left _ (List.mem_of_getElem? (i := 9) rfl))) (List.mem_cons_of_mem _ (List.mem_append_left _ (List.mem_of_getElem? (i := 6) rfl))) (gi_sub (fun w h => (List.mem_cons_of_mem _ (List.mem_append_right _ (List.mem_append_right _ (List.mem_append_right _ (List.mem_append_left _ h)))))) zg_j176_X12_laysRow)) rfl rfl rfl (by decide +kernel) ⟨Nat.le_of_ble_eq_true rfl, Nat.le_of_ble_eq_true rfl⟩ 0 rfl rfl rfl rfl (Nat.le_of_ble_eq_true rfl) ⟨Nat.le_of_ble_eq_true rfl, Nat.le_of_ble_eq_true rfl⟩ dX12_laysTable_22 (fun v ty' w' hp hk' => ?_)
        obtain ⟨I19427, A19427, L19427, hI19427, hA19427, hV19427, y19426, rfl, rfl⟩ := hp
        show GW κ 3 0 0 (wM r g I19427 A19427 L19427) 25 [(2, .int x19034), (0, .ref (r 0)), (1, .int z1)] [.int y19426]
        refine g_iload_n hk dX12_laysTable_25 rfl ?_
        have b19428l := Int32.le_toInt y19426
        have b19428h := Int32.toInt_lt y19426
        have b19429l := Int32.le_toInt z1
        have b19429h := Int32.toInt_lt z1
        refine g_icmp_ge (tgt := 32) (a := y19426.toInt) (b := z1.toInt) hk dX12_laysTable_26 (by decide) rfl rfl (fun c19430 => ?_) (fun c19430 => ?_)
        · skip
          refine g_aload_n hk dX12_laysTable_32 rfl ?_
          refine g_iload_n hk dX12_laysTable_33 rfl ?_
          refine pM_i20 hk hin12 (List.mem_cons_of_mem _ (List.mem_append_left _ (List.mem_of_getElem? (i := 1) rfl))) dX12_laysTable_34 ?_
          refine g_ldcw (v := 2000000000) hk (List.mem_cons_of_mem _ (List.mem_append_left _ (List.mem_of_getElem? (i := 10) rfl))) dX12_laysTable_37 ?_
          exact g_iret hk hR rfl ⟨(upd I19427 20 x19034), A19427, L19427, (show Md [19, 20] I (upd I19427 20 x19034) from (Md.up (Md.tr (Md.tr (Md.up (Md.up Md.rf rfl) rfl) hI19037 rfl) hI19427 rfl) rfl)), (show Md [21] A A19427 from (Md.tr (Md.tr Md.rf hA19037 rfl) hA19427 rfl)), ⟨(IvM_f1 (I := I19427) (A := A19427) hV19427), (IvM_f2 (I := I19427) (A := A19427) hV19427), (IvM_f3 (I := I19427) (A := A19427) hV19427), (IvM_f4 (I := I19427) (A := A19427) hV19427), (IvM_f6 (I := I19427) (A := A19427) hV19427), (IvM_f8 (I := I19427) (A := A19427) hV19427), (IvM_f15 (I := I19427) (A := A19427) hV19427), (IvM_f16 (I := I19427) (A := A19427) hV19427), (IvM_f17 (I := I19427) (A := A19427) hV19427), (IvM_f18 (I := I19427) (A := A19427) hV19427), (IvM_f22 (I := I19427) (A := A19427) hV19427), (IvM_f23 (I := I19427) (A := A19427) hV19427), (IvM_f24 (I := I19427) (A := A19427) hV19427), (IvM_a11 (I := I19427) (A := A19427) hV19427), (IvM_a26 (I := I19427) (A := A19427) hV19427), (IvM_s8_0 (I := I19427) (A := A19427) hV19427), (IvM_s8_1 (I := I19427) (A := A19427) hV19427), (IvM_s10_0 (I := I19427) (A := A19427) hV19427), (IvM_s10_1 (I := I19427) (A := A19427) hV19427), (IvM_s17_0 (I := I19427) (A := A19427) hV19427), (IvM_s17_164 (I := I19427) (A := A19427) hV19427), (IvM_lv (I := I19427) (A := A19427) hV19427), (IvM_sd (I := I19427) (A := A19427) hV19427), (IvM_nq (I := I19427) (A := A19427) hV19427), (IvM_hr (I := I19427) (A := A19427) hV19427), (IvM_hh (I := I19427) (A := A19427) hV19427), trivial⟩, 2000000000, rfl, rfl⟩ dX12_laysTable_40
        · skip
          refine g_goto (tgt := 41) hk dX12_laysTable_29 (by decide) ?_
          obtain ⟨y19431, ey19431⟩ : ∃ y : Int32, y = x19034 + Int32.ofInt 1 := ⟨_, rfl⟩
          have hy19431 : y19431.toInt = x19034.toInt + 1 := i32_add ey19431 rfl (by decide) (by omega) (by omega)
          refine g_iinc (v := y19431) (lv' := [(2, .int y19431), (0, .ref (r 0)), (1, .int z1)]) hk 0 dX12_laysTable_41 rfl ey19431.symm (by decide) rfl ?_
          refine g_goto (tgt := 12) hk dX12_laysTable_44 (by decide) ?_
          exact g_lv (List.forall_mem_cons.mpr ⟨List.mem_of_getElem? (i := 0) rfl, (List.forall_mem_cons.mpr ⟨List.mem_of_getElem? (i := 1) rfl, (List.forall_mem_cons.mpr ⟨List.mem_of_getElem? (i := 2) rfl, (fun _ h => absurd h List.not_mem_nil)⟩)⟩)⟩) (ih19419 y19431 I19427 A19427 L19427 (show Md [19] (upd (upd I 19 0) 20 (-1)) I19427 from Md.tr hI19037 (show Md [19] I19037 I19427 from (Md.tr Md.rf hI19427 rfl)) rfl) (show Md [21] A A19427 from Md.tr hA19037 (show Md [21] A19037 A19427 from (Md.tr Md.rf hA19427 rfl)) rfl) hV19427 (by omega) (by omega) (by omega) (by omega))
  have k19432 : (0 : Int32).toInt = 0 := rfl
  obtain ⟨n19433, n19433a, n19433b⟩ : ∃ n : Nat, 17 - (0 : Int32).toInt < (n : Int) ∧ 0 < n := ⟨((17 - (0 : Int32).toInt : Int)).toNat + 1, by omega, by omega⟩
  exact lp19416 n19433 0 (upd (upd I 19 0) 20 (-1)) A L Md.rf Md.rf ⟨(IvM_f1 (I := I) (A := A) hIv), (IvM_f2 (I := I) (A := A) hIv), (IvM_f3 (I := I) (A := A) hIv), (IvM_f4 (I := I) (A := A) hIv), (IvM_f6 (I := I) (A := A) hIv), (IvM_f8 (I := I) (A := A) hIv), (IvM_f15 (I := I) (A := A) hIv), (IvM_f16 (I := I) (A := A) hIv), (IvM_f17 (I := I) (A := A) hIv), (IvM_f18 (I := I) (A := A) hIv), (IvM_f22 (I := I) (A := A) hIv), (IvM_f23 (I := I) (A := A) hIv), (IvM_f24 (I := I) (A := A) hIv), (IvM_a11 (I := I) (A := A) hIv), (IvM_a26 (I := I) (A := A) hIv), (IvM_s8_0 (I := I) (A := A) hIv), (IvM_s8_1 (I := I) (A := A) hIv), (IvM_s10_0 (I := I) (A := A) hIv), (IvM_s10_1 (I := I) (A := A) hIv), (IvM_s17_0 (I := I) (A := A) hIv), (IvM_s17_164 (I := I) (A := A) hIv), (IvM_lv (I := I) (A := A) hIv), (IvM_sd (I := I) (A := A) hIv), (IvM_nq (I := I) (A := A) hIv), (IvM_hr (I := I) (A := A) hIv), (IvM_hh (I := I) (A := A) hIv), trivial⟩ (by omega) (by omega) n19433a n19433b
def wo_j169_X12_distanceOf : List Cond := [Cond.methodLink RX12 301 yX12_laysBoth, Cond.instanceMethod yX12_laysBoth, Cond.selects RX12 yX12_laysBoth yX12_laysBoth, Cond.initialized RX12, Cond.constant RX12 282 (2000000000), Cond.methodLink RX12 304 yX12_laysTable, Cond.instanceMethod yX12_laysTable, Cond.selects RX12 yX12_laysTable yX12_laysTable]
def wz_j169_X12_distanceOf : List Cond := .code yX12_distanceOf cX12_distanceOf 3 (some .int) :: (wo_j169_X12_distanceOf ++ (wz_j170_X12_laysBoth ++ (wz_j173_X12_laysTable ++ ([] : List Cond))))
theorem zg_j169_X12_distanceOf : ∀ w ∈ wz_j169_X12_distanceOf, goodWord w = true := zg_cons rfl (zg_app (by decide +kernel) (zg_app zg_j170_X12_laysBoth (zg_app zg_j173_X12_laysTable zg_nil)))
theorem zi_j169_X12_distanceOf : ∀ w ∈ wz_j169_X12_distanceOf, w ∈ lw_tbl := zi_cons zw_1762 (zi_app (zi_cons zw_1763 (zi_cons zw_1765 (zi_cons zw_80 (zi_cons zw_115 (zi_cons zw_1775 (zi_cons zw_1776 (zi_cons zw_1778 (zi_cons zw_83 zi_nil)))))))) (zi_app zi_j170_X12_laysBoth (zi_app zi_j173_X12_laysTable zi_nil)))
set_option maxHeartbeats 4000000 in
set_option maxRecDepth 100000 in
theorem j169_X12_distanceOf (l : Launch) (D : va_G) (zt : Nat × Nat × Nat × (Nat → Nat) × (Nat → Nat)) (r : Nat → Nat) (g : Nat → ClassId) (I : Nat → Int32) (A : Nat → Nat → Int32) (L : Nat → Nat → Int64) (z1 : Int32) (z2 : Int32) (hIv : IvM I A) (hp0 : 0 ≤ z1.toInt) (hp1 : z1.toInt ≤ 4) (hp2 : 0 ≤ z2.toInt) (hp3 : z2.toInt ≤ 159) (hp4 : 1 ≤ (A 11 (5 * (I 15) + z1).toNatClampNeg).toInt) (hp5 : z2.toInt + (A 11 (5 * (I 15) + z1).toNatClampNeg).toInt ≤ 160) : GM l D zt (tyM g) yX12_distanceOf wz_j169_X12_distanceOf ({ frames := 5, cells := 0, slots := 0, locals := 112 } : Room) [.ref (r 0), .int z1, .int z2] (wM r g I A L) (fun v _ w' => ∃ (I' : Nat → Int32) (A' : Nat → Nat → Int32) (L' : Nat → Nat → Int64), Md [18, 19, 20] I I' ∧ Md [19, 20, 21] A A' ∧ IvM I' A' ∧ ∃ y0 : Int32, (1 ≤ (I' 18).toInt) ∧ v = some (.int y0) ∧ w' = wM r g I' A' L') 0 0 := by
  refine GM.of (cc := cX12_distanceOf) (maxL := 3) (ret := (some .int)) (own := RX12) (lv := [(0, .ref (r 0)), (1, .int z1), (2, .int z2)]) (by decide) rfl rfl (Nat.le_of_ble_eq_true rfl) rfl (fun κ sz hk hR hN => ?_)
  refine g_aload_n hk dX12_distanceOf_0 rfl ?_
  refine g_iload_n hk dX12_distanceOf_1 rfl ?_
  refine g_iload_n hk dX12_distanceOf_2 rfl ?_
  have f19029 : 0 ≤ (A 11 (5 * (I 15) + z1).toNatClampNeg).toInt ∧ (A 11 (5 * (I 15) + z1).toNatClampNeg).toInt ≤ 16 := IvM_a11 hIv _
  refine g_callV (n := 2) hk (j170_X12_laysBoth l D zt r g I A L z1 z2 hIv (by omega) (by omega) (by omega) (by omega) (by omega) (by omega)) (SP.same _) (fun _ h => h) (gi_V (List.mem_cons_of_mem _ (List.mem_append_left _ (List.mem_of_getElem? (i := 0) rfl))) (List.mem_cons_of_mem _ (List.mem_append_left _ (List.mem_of_getElem? (i := 1) rfl))) (List.mem_cons_of_mem _ (List.mem_append_left _ (List.mem_of_getElem? (i := 2) rfl))) (List.mem_cons_of_mem _ (List.mem_append_left _ (List.mem_of_getElem? (i := 3) rfl))) (gi_sub (fun w h => (List.mem_cons_of_mem _ (List.mem_append_right _ (List.mem_append_left _ h)))) zg_j170_X12_laysBoth)) rfl rfl rfl (by decide +kernel) ⟨Nat.le_of_ble_eq_true rfl, Nat.le_of_ble_eq_true rfl⟩ 0 rfl rfl rfl rfl (Nat.le_of_ble_eq_true rfl) ⟨Nat.le_of_ble_eq_true rfl, Nat.le_of_ble_eq_true rfl⟩ dX12_distanceOf_3 (fun v ty' w' hp hk' => ?_)
  obtain ⟨I19031, A19031, L19031, hI19031, hA19031, hV19031, r19032, rfl, rfl⟩ := hp
  have f19033 := IvM_f18 hV19031
  show GW κ 3 0 0 (wM r g I19031 A19031 L19031) 6 [(0, .ref (r 0)), (1, .int z1), (2, .int z2)] []
  refine g_aload_n hk dX12_distanceOf_6 rfl ?_
  refine g_ldcw (v := 2000000000) hk (List.mem_cons_of_mem _ (List.mem_append_left _ (List.mem_of_getElem? (i := 4) rfl))) dX12_distanceOf_7 ?_
  have k19434 : (2000000000 : Int32).toInt = 2000000000 := rfl
  refine g_callV (n := 1) hk (j173_X12_laysTable l D zt r g I19031 A19031 L19031 2000000000 hV19031) (SP.same _) (fun _ h => h) (gi_V (List.mem_cons_of_mem _ (List.mem_append_left _ (List.mem_of_getElem? (i := 5) rfl))) (List.mem_cons_of_mem _ (List.mem_append_left _ (List.mem_of_getElem? (i := 6) rfl))) (List.mem_cons_of_mem _ (List.mem_append_left _ (List.mem_of_getElem? (i := 7) rfl))) (List.mem_cons_of_mem _ (List.mem_append_left _ (List.mem_of_getElem? (i := 3) rfl))) (gi_sub (fun w h => (List.mem_cons_of_mem _ (List.mem_append_right _ (List.mem_append_right _ (List.mem_append_left _ h))))) zg_j173_X12_laysTable)) rfl rfl rfl (by decide +kernel) ⟨Nat.le_of_ble_eq_true rfl, Nat.le_of_ble_eq_true rfl⟩ 0 rfl rfl rfl rfl (Nat.le_of_ble_eq_true rfl) ⟨Nat.le_of_ble_eq_true rfl, Nat.le_of_ble_eq_true rfl⟩ dX12_distanceOf_10 (fun v ty' w' hp hk' => ?_)
  obtain ⟨I19436, A19436, L19436, hI19436, hA19436, hV19436, y19435, rfl, rfl⟩ := hp
  show GW κ 3 0 0 (wM r g I19436 A19436 L19436) 13 [(0, .ref (r 0)), (1, .int z1), (2, .int z2)] [.int y19435]
  have b19437l := Int32.le_toInt y19435
  have b19437h := Int32.toInt_lt y19435
  exact g_iret hk hR rfl ⟨I19436, A19436, L19436, (show Md [18, 19, 20] I I19436 from (Md.tr (Md.tr Md.rf hI19031 rfl) hI19436 rfl)), (show Md [19, 20, 21] A A19436 from (Md.tr (Md.tr Md.rf hA19031 rfl) hA19436 rfl)), hV19436, y19435, (by rw [show (I19436 18) = (I19031 18) from (hI19436 18 rfl)] <;> omega), rfl, rfl⟩ dX12_distanceOf_13
def wo_j167_X12_distance : List Cond := [Cond.methodLink RX12 342 yX12_isOf, Cond.instanceMethod yX12_isOf, Cond.selects RX12 yX12_isOf yX12_isOf, Cond.initialized RX12, Cond.methodLink RX12 323 yX12_copies, Cond.instanceMethod yX12_copies, Cond.selects RX12 yX12_copies yX12_copies, Cond.methodLink RX12 345 yX12_distanceOf, Cond.instanceMethod yX12_distanceOf, Cond.selects RX12 yX12_distanceOf yX12_distanceOf]
def wz_j167_X12_distance : List Cond := .code yX12_distance cX12_distance 3 (some .int) :: (wo_j167_X12_distance ++ (wz_j168_X12_isOf ++ (wz_j151_X12_copies ++ (wz_j169_X12_distanceOf ++ ([] : List Cond)))))
theorem zg_j167_X12_distance : ∀ w ∈ wz_j167_X12_distance, goodWord w = true := zg_cons rfl (zg_app (by decide +kernel) (zg_app zg_j168_X12_isOf (zg_app zg_j151_X12_copies (zg_app zg_j169_X12_distanceOf zg_nil))))
theorem zi_j167_X12_distance : ∀ w ∈ wz_j167_X12_distance, w ∈ lw_tbl := zi_cons zw_1754 (zi_app (zi_cons zw_1755 (zi_cons zw_1757 (zi_cons zw_78 (zi_cons zw_115 (zi_cons zw_1679 (zi_cons zw_1681 (zi_cons zw_70 (zi_cons zw_1759 (zi_cons zw_1761 (zi_cons zw_79 zi_nil)))))))))) (zi_app zi_j168_X12_isOf (zi_app zi_j151_X12_copies (zi_app zi_j169_X12_distanceOf zi_nil))))
set_option maxHeartbeats 4000000 in
set_option maxRecDepth 100000 in
theorem j167_X12_distance (l : Launch) (D : va_G) (zt : Nat × Nat × Nat × (Nat → Nat) × (Nat → Nat)) (r : Nat → Nat) (g : Nat → ClassId) (I : Nat → Int32) (A : Nat → Nat → Int32) (L : Nat → Nat → Int64) (z1 : Int32) (z2 : Int32) (hIv : IvM I A) : GM l D zt (tyM g) yX12_distance wz_j167_X12_distance ({ frames := 6, cells := 0, slots := 0, locals := 134 } : Room) [.ref (r 0), .int z1, .int z2] (wM r g I A L) (fun v _ w' => ∃ (I' : Nat → Int32) (A' : Nat → Nat → Int32) (L' : Nat → Nat → Int64), Md [18, 19, 20] I I' ∧ Md [18, 19, 20, 21] A A' ∧ IvM I' A' ∧ ∃ y0 : Int32, v = some (.int y0) ∧ w' = wM r g I' A' L') 0 0 := by
  refine GM.of (cc := cX12_distance) (maxL := 3) (ret := (some .int)) (own := RX12) (lv := [(0, .ref (r 0)), (1, .int z1), (2, .int z2)]) (by decide) rfl rfl (Nat.le_of_ble_eq_true rfl) rfl (fun κ sz hk hR hN => ?_)
  refine g_aload_n hk dX12_distance_0 rfl ?_
  refine g_iload_n hk dX12_distance_1 rfl ?_
  refine g_iload_n hk dX12_distance_2 rfl ?_
  refine g_callV (n := 2) hk (j168_X12_isOf l D zt r g I A L z1 z2 hIv) (SP.same _) (fun _ h => h) (gi_V (List.mem_cons_of_mem _ (List.mem_append_left _ (List.mem_of_getElem? (i := 0) rfl))) (List.mem_cons_of_mem _ (List.mem_append_left _ (List.mem_of_getElem? (i := 1) rfl))) (List.mem_cons_of_mem _ (List.mem_append_left _ (List.mem_of_getElem? (i := 2) rfl))) (List.mem_cons_of_mem _ (List.mem_append_left _ (List.mem_of_getElem? (i := 3) rfl))) (gi_sub (fun w h => (List.mem_cons_of_mem _ (List.mem_append_right _ (List.mem_append_left _ h)))) zg_j168_X12_isOf)) rfl rfl rfl (by decide +kernel) ⟨Nat.le_of_ble_eq_true rfl, Nat.le_of_ble_eq_true rfl⟩ 0 rfl rfl rfl rfl (Nat.le_of_ble_eq_true rfl) ⟨Nat.le_of_ble_eq_true rfl, Nat.le_of_ble_eq_true rfl⟩ dX12_distance_3 (fun v ty' w' hp hk' => ?_)
  rcases hp with ⟨rfl, rfl⟩ | ⟨c18918, c18919, c18920, c18921, c18922, c18923, c18924, c18925, c18926, c18927, c18928, c18929, rfl, rfl⟩
  · skip
    show GW κ 3 0 0 (wM r g I A L) 6 [(0, .ref (r 0)), (1, .int z1), (2, .int z2)] [.int 0]
    refine g_if_ne (tgt := 11) (a := 0) hk dX12_distance_6 (by decide) rfl (fun z9 => absurd z9 (show ¬ ((0 : Int) ≠ (0 : Int)) from by decide)) (fun _ => ?_)
    refine g_iconst (v := (-1)) hk dX12_distance_9 (by decide) ?_
    exact g_iret hk hR rfl ⟨I, A, L, (show Md [18, 19, 20] I I from Md.rf), (show Md [18, 19, 20, 21] A A from Md.rf), hIv, (-1), rfl, rfl⟩ dX12_distance_10
  · skip
    have f18931 : 0 ≤ (A 11 (5 * (I 15) + z1).toNatClampNeg).toInt ∧ (A 11 (5 * (I 15) + z1).toNatClampNeg).toInt ≤ 16 := IvM_a11 hIv _
    show GW κ 3 0 0 (wM r g I A L) 6 [(0, .ref (r 0)), (1, .int z1), (2, .int z2)] [.int 1]
    refine g_if_ne (tgt := 11) (a := 1) hk dX12_distance_6 (by decide) rfl (fun _ => ?_) (fun z9 => absurd (show (1 : Int) ≠ (0 : Int) from by decide) z9)
    refine g_aload_n hk dX12_distance_11 rfl ?_
    refine g_callV (n := 0) hk (j151_X12_copies l D zt r g I A L  hIv) (SP.same _) (fun _ h => h) (gi_V (List.mem_cons_of_mem _ (List.mem_append_left _ (List.mem_of_getElem? (i := 4) rfl))) (List.mem_cons_of_mem _ (List.mem_append_left _ (List.mem_of_getElem? (i := 5) rfl))) (List.mem_cons_of_mem _ (List.mem_append_left _ (List.mem_of_getElem? (i := 6) rfl))) (List.mem_cons_of_mem _ (List.mem_append_left _ (List.mem_of_getElem? (i := 3) rfl))) (gi_sub (fun w h => (List.mem_cons_of_mem _ (List.mem_append_right _ (List.mem_append_right _ (List.mem_append_left _ h))))) zg_j151_X12_copies)) rfl rfl rfl (by decide +kernel) ⟨Nat.le_of_ble_eq_true rfl, Nat.le_of_ble_eq_true rfl⟩ 0 rfl rfl rfl rfl (Nat.le_of_ble_eq_true rfl) ⟨Nat.le_of_ble_eq_true rfl, Nat.le_of_ble_eq_true rfl⟩ dX12_distance_12 (fun v ty' w' hp hk' => ?_)
    obtain ⟨I18933, A18933, L18933, hI18933, hA18933, hV18933, r18934, r18935, rfl, rfl⟩ := hp
    have f18936 := IvM_s17_0 hIv
    have f18937 := IvM_s17_164 hIv
    show GW κ 3 0 0 (wM r g I18933 A18933 L18933) 15 [(0, .ref (r 0)), (1, .int z1), (2, .int z2)] []
    refine g_aload_n hk dX12_distance_15 rfl ?_
    refine g_iload_n hk dX12_distance_16 rfl ?_
    refine g_iload_n hk dX12_distance_17 rfl ?_
    refine g_callV (n := 2) hk (j169_X12_distanceOf l D zt r g I18933 A18933 L18933 z1 z2 hV18933 (by omega) (by omega) (by omega) (by omega) (by first | (rw [show (A18933 11 (5 * (I18933 15) + z1).toNatClampNeg) = (A 11 (5 * (I 15) + z1).toNatClampNeg) from (by rw [show I18933 15 = (I 15) from (hI18933 15 rfl)]; exact (congrFun (hA18933 11 rfl) _))] <;> omega) | omega) (by first | (rw [show (A18933 11 (5 * (I18933 15) + z1).toNatClampNeg) = (A 11 (5 * (I 15) + z1).toNatClampNeg) from (by rw [show I18933 15 = (I 15) from (hI18933 15 rfl)]; exact (congrFun (hA18933 11 rfl) _))] <;> omega) | omega)) (SP.same _) (fun _ h => h) (gi_V (List.mem_cons_of_mem _ (List.mem_append_left _ (List.mem_of_getElem? (i := 7) rfl))) (List.mem_cons_of_mem _ (List.mem_append_left _ (List.mem_of_getElem? (i := 8) rfl))) (List.mem_cons_of_mem _ (List.mem_append_left _ (List.mem_of_getElem? (i := 9) rfl))) (List.mem_cons_of_mem _ (List.mem_append_left _ (List.mem_of_getElem? (i := 3) rfl))) (gi_sub (fun w h => (List.mem_cons_of_mem _ (List.mem_append_right _ (List.mem_append_right _ (List.mem_append_right _ (List.mem_append_left _ h)))))) zg_j169_X12_distanceOf)) rfl rfl rfl (by decide +kernel) ⟨Nat.le_of_ble_eq_true rfl, Nat.le_of_ble_eq_true rfl⟩ 0 rfl rfl rfl rfl (Nat.le_of_ble_eq_true rfl) ⟨Nat.le_of_ble_eq_true rfl, Nat.le_of_ble_eq_true rfl⟩ dX12_distance_18 (fun v ty' w' hp hk' => ?_)
    obtain ⟨I19439, A19439, L19439, hI19439, hA19439, hV19439, y19438, r19440, rfl, rfl⟩ := hp
    have f19441 := IvM_f18 hV19439
    show GW κ 3 0 0 (wM r g I19439 A19439 L19439) 21 [(0, .ref (r 0)), (1, .int z1), (2, .int z2)] [.int y19438]
    have b19442l := Int32.le_toInt y19438
    have b19442h := Int32.toInt_lt y19438
    exact g_iret hk hR rfl ⟨I19439, A19439, L19439, (show Md [18, 19, 20] I I19439 from (Md.tr (Md.tr Md.rf hI18933 rfl) hI19439 rfl)), (show Md [18, 19, 20, 21] A A19439 from (Md.tr (Md.tr Md.rf hA18933 rfl) hA19439 rfl)), hV19439, y19438, rfl, rfl⟩ dX12_distance_21
def wo_j181_X12_overOf : List Cond := [Cond.fieldLink RX12 267 "WarpDeskModel" "wide" "I", Cond.constant RX12 307 (-2000000000), Cond.constant RX12 282 (2000000000), Cond.methodLink RX12 279 yX12_isBand, Cond.instanceMethod yX12_isBand, Cond.selects RX12 yX12_isBand yX12_isBand, Cond.initialized RX12, Cond.fieldLink RX12 76 "WarpDeskModel" "firstAt" "[I", Cond.fieldLink RX12 79 "WarpDeskModel" "otherAt" "[I", Cond.methodLink RX12 289 yX12_costOf, Cond.instanceMethod yX12_costOf, Cond.selects RX12 yX12_costOf yX12_costOf]
def wz_j181_X12_overOf : List Cond := .code yX12_overOf cX12_overOf 6 (some .int) :: (wo_j181_X12_overOf ++ (wsX120 ++ (wz_j175_X12_isBand ++ (wz_j178_X12_costOf ++ ([] : List Cond)))))
theorem zg_j181_X12_overOf : ∀ w ∈ wz_j181_X12_overOf, goodWord w = true := zg_cons rfl (zg_app (by decide +kernel) (zg_app zgU_wsX120 (zg_app zg_j175_X12_isBand (zg_app zg_j178_X12_costOf zg_nil))))
theorem zi_j181_X12_overOf : ∀ w ∈ wz_j181_X12_overOf, w ∈ lw_tbl := zi_cons zw_1810 (zi_app (zi_cons zw_1415 (zi_cons zw_1811 (zi_cons zw_1775 (zi_cons zw_1784 (zi_cons zw_1786 (zi_cons zw_85 (zi_cons zw_115 (zi_cons zw_1416 (zi_cons zw_1417 (zi_cons zw_1795 (zi_cons zw_1797 (zi_cons zw_87 zi_nil)))))))))))) (zi_app inX12 (zi_app zi_j175_X12_isBand (zi_app zi_j178_X12_costOf zi_nil))))
set_option maxHeartbeats 4000000 in
set_option maxRecDepth 100000 in
theorem j181_X12_overOf (l : Launch) (D : va_G) (zt : Nat × Nat × Nat × (Nat → Nat) × (Nat → Nat)) (r : Nat → Nat) (g : Nat → ClassId) (I : Nat → Int32) (A : Nat → Nat → Int32) (L : Nat → Nat → Int64) (hIv : IvM I A) : GM l D zt (tyM g) yX12_overOf wz_j181_X12_overOf ({ frames := 2, cells := 0, slots := 0, locals := 44 } : Room) [.ref (r 0)] (wM r g I A L) (fun v _ w' => ∃ y0 : Int32, v = some (.int y0) ∧ w' = wM r g I A L) 0 0 := by
  refine GM.of (cc := cX12_overOf) (maxL := 6) (ret := (some .int)) (own := RX12) (lv := [(0, .ref (r 0))]) (by decide) rfl rfl (Nat.le_of_ble_eq_true rfl) rfl (fun κ sz hk hR hN => ?_)
  have hin12 : ∀ w ∈ u_ws RX12 TX12 55, w ∈ wz_j181_X12_overOf := fun w h => (List.mem_cons_of_mem _ (List.mem_append_right _ (List.mem_append_left _ h)))
  refine g_iconst (v := 0) hk dX12_overOf_0 (by decide) ?_
  refine g_istore_n (lv' := [(1, .int 0), (0, .ref (r 0))]) hk dX12_overOf_1 (by decide) rfl ?_
  refine g_iconst (v := 0) hk dX12_overOf_2 (by decide) ?_
  refine g_istore_n (lv' := [(2, .int 0), (1, .int 0), (0, .ref (r 0))]) hk dX12_overOf_3 (by decide) rfl ?_
  have lp20236 : ∀ (n20237 : Nat) (x19481 : Int32) (x19482 : Int32), (0 ≤ x19481.toInt) → (x19481.toInt ≤ 16) → (17 - x19481.toInt < (n20237 : Int)) → (0 < n20237) → GW κ 6 0 0 (wM r g I A L) 4 [(2, .int x19481), (1, .int x19482), (0, .ref (r 0))] [] := by
    intro n20237
    induction n20237 with
    | zero =>
      intro x19481 x19482 h20234 h20235 m20238 m20238z
      exact absurd m20238z (Nat.lt_irrefl 0)
    | succ n20237 ih20239 =>
      intro x19481 x19482 h20234 h20235 m20238 m20238z
      refine g_iload_n hk dX12_overOf_4 rfl ?_
      refine g_aload_n hk dX12_overOf_5 rfl ?_
      refine gM_i18 (v := (I 18)) hk hin12 (List.mem_cons_of_mem _ (List.mem_append_left _ (List.mem_of_getElem? (i := 0) rfl))) dX12_overOf_6 rfl ?_
      have f20240 := IvM_f18 hIv
      refine g_icmp_ge (tgt := 148) (a := x19481.toInt) (b := (I 18).toInt) hk dX12_overOf_9 (by decide) rfl rfl (fun c20241 => ?_) (fun c20241 => ?_)
      · skip
        refine g_iload_n hk dX12_overOf_148 rfl ?_
        have b20242l := Int32.le_toInt x19482
        have b20242h := Int32.toInt_lt x19482
        exact g_iret hk hR rfl ⟨x19482, rfl, rfl⟩ dX12_overOf_149
      · skip
        refine g_ldcw (v := (-2000000000)) hk (List.mem_cons_of_mem _ (List.mem_append_left _ (List.mem_of_getElem? (i := 1) rfl))) dX12_overOf_12 ?_
        refine g_istore_n (lv' := [(3, .int (-2000000000)), (2, .int x19481), (1, .int x19482), (0, .ref (r 0))]) hk dX12_overOf_15 (by decide) rfl ?_
        refine g_ldcw (v := 2000000000) hk (List.mem_cons_of_mem _ (List.mem_append_left _ (List.mem_of_getElem? (i := 2) rfl))) dX12_overOf_16 ?_
        refine g_istore (lv' := [(4, .int 2000000000), (3, .int (-2000000000)), (2, .int x19481), (1, .int x19482), (0, .ref (r 0))]) hk dX12_overOf_19 (by decide) rfl ?_
        refine g_iconst (v := 0) hk dX12_overOf_21 (by decide) ?_
        refine g_istore (lv' := [(5, .int 0), (4, .int 2000000000), (3, .int (-2000000000)), (2, .int x19481), (1, .int x19482), (0, .ref (r 0))]) hk dX12_overOf_22 (by decide) rfl ?_
        have lp20395 : ∀ (n20396 : Nat) (x20243 : Int32) (x20244 : Int32) (x20245 : Int32), (0 ≤ x20243.toInt) → (x20243.toInt ≤ 16) → (x20244.toInt ≤ 2000000000) → ((-2000000000) ≤ x20245.toInt) → (17 - x20243.toInt < (n20396 : Int)) → (0 < n20396) → GW κ 6 0 0 (wM r g I A L) 24 [(5, .int x20243), (4, .int x20244), (3, .int x20245), (2, .int x19481), (1, .int x19482), (0, .ref (r 0))] [] := by
          intro n20396
          induction n20396 with
          | zero =>
            intro x20243 x20244 x20245 h20391 h20392 h20393 h20394 m20397 m20397z
            exact absurd m20397z (Nat.lt_irrefl 0)
          | succ n20396 ih20398 =>
            intro x20243 x20244 x20245 h20391 h20392 h20393 h20394 m20397 m20397z
            refine g_iload hk dX12_overOf_24 rfl ?_
            refine g_aload_n hk dX12_overOf_26 rfl ?_
            refine gM_i18 (v := (I 18)) hk hin12 (List.mem_cons_of_mem _ (List.mem_append_left _ (List.mem_of_getElem? (i := 0) rfl))) dX12_overOf_27 rfl ?_
            refine g_icmp_ge (tgt := 92) (a := x20243.toInt) (b := (I 18).toInt) hk dX12_overOf_30 (by decide) rfl rfl (fun c20399 => ?_) (fun c20399 => ?_)
            · skip
              refine g_aload_n hk dX12_overOf_92 rfl ?_
              refine gM_r0_39 hk hin12 (List.mem_cons_of_mem _ (List.mem_append_left _ (List.mem_of_getElem? (i := 8) rfl))) dX12_overOf_93 ?_
              refine g_iload_n hk dX12_overOf_96 rfl ?_
              refine lM_20 (v := (A 20 x19481.toNatClampNeg)) hk (vp_in_iff.mpr ⟨by omega, by omega⟩) rfl dX12_overOf_97 ?_
              refine g_iload_n hk dX12_overOf_98 rfl ?_
              have b20400l := Int32.le_toInt (A 20 x19481.toNatClampNeg)
              have b20400h := Int32.toInt_lt (A 20 x19481.toNatClampNeg)
              have b20401l := Int32.le_toInt x20245
              have b20401h := Int32.toInt_lt x20245
              refine g_icmp_le (tgt := 116) (a := (A 20 x19481.toNatClampNeg).toInt) (b := x20245.toInt) hk dX12_overOf_99 (by decide) rfl rfl (fun c20402 => ?_) (fun c20402 => ?_)
              · skip
                refine g_aload_n hk dX12_overOf_116 rfl ?_
                refine gM_r0_39 hk hin12 (List.mem_cons_of_mem _ (List.mem_append_left _ (List.mem_of_getElem? (i := 8) rfl))) dX12_overOf_117 ?_
                refine g_iload_n hk dX12_overOf_120 rfl ?_
                refine lM_20 (v := (A 20 x19481.toNatClampNeg)) hk (vp_in_iff.mpr ⟨by omega, by omega⟩) rfl dX12_overOf_121 ?_
                refine g_iload hk dX12_overOf_122 rfl ?_
                have b20403l := Int32.le_toInt x20244
                have b20403h := Int32.toInt_lt x20244
                refine g_icmp_ge (tgt := 142) (a := (A 20 x19481.toNatClampNeg).toInt) (b := x20244.toInt) hk dX12_overOf_124 (by decide) rfl rfl (fun c20404 => ?_) (fun c20404 => ?_)
                · skip
                  obtain ⟨y20405, ey20405⟩ : ∃ y : Int32, y = x19481 + Int32.ofInt 1 := ⟨_, rfl⟩
                  have hy20405 : y20405.toInt = x19481.toInt + 1 := i32_add ey20405 rfl (by decide) (by omega) (by omega)
                  refine g_iinc (v := y20405) (lv' := [(2, .int y20405), (5, .int x20243), (4, .int x20244), (3, .int x20245), (1, .int x19482), (0, .ref (r 0))]) hk 3 dX12_overOf_142 rfl ey20405.symm (by decide) rfl ?_
                  refine g_goto (tgt := 4) hk dX12_overOf_145 (by decide) ?_
                  have b20406l := Int32.le_toInt x19482
                  have b20406h := Int32.toInt_lt x19482
                  exact g_lv (List.forall_mem_cons.mpr ⟨List.mem_of_getElem? (i := 0) rfl, (List.forall_mem_cons.mpr ⟨List.mem_of_getElem? (i := 4) rfl, (List.forall_mem_cons.mpr ⟨List.mem_of_getElem? (i := 5) rfl, (fun _ h => absurd h List.not_mem_nil)⟩)⟩)⟩) (ih20239 y20405 x19482 (by omega) (by omega) (by omega) (by omega))
                · skip
                  refine g_iload_n hk dX12_overOf_127 rfl ?_
                  refine g_aload_n hk dX12_overOf_128 rfl ?_
                  refine g_aload_n hk dX12_overOf_129 rfl ?_
                  refine gM_r0_39 hk hin12 (List.mem_cons_of_mem _ (List.mem_append_left _ (List.mem_of_getElem? (i := 8) rfl))) dX12_overOf_130 ?_
                  refine g_iload_n hk dX12_overOf_133 rfl ?_
                  refine lM_20 (v := (A 20 x19481.toNatClampNeg)) hk (vp_in_iff.mpr ⟨by omega, by omega⟩) rfl dX12_overOf_134 ?_
                  refine g_iload hk dX12_overOf_135 rfl ?_
                  refine g_callV (n := 2) hk (j178_X12_costOf l D zt r g I A L (A 20 x19481.toNatClampNeg) x20244 hIv) (SP.same _) (fun _ h => h) (gi_V (List.mem_cons_of_mem _ (List.mem_append_left _ (List.mem_of_getElem? (i := 9) rfl))) (List.mem_cons_of_mem _ (List.mem_append_left _ (List.mem_of_getElem? (i := 10) rfl))) (List.mem_cons_of_mem _ (List.mem_append_left _ (List.mem_of_getElem? (i := 11) rfl))) (List.mem_cons_of_mem _ (List.mem_append_left _ (List.mem_of_getElem? (i := 6) rfl))) (gi_sub (fun w h => (List.mem_cons_of_mem _ (List.mem_append_right _ (List.mem_append_right _ (List.mem_append_right _ (List.mem_append_left _ h)))))) zg_j178_X12_costOf)) rfl rfl rfl (by decide +kernel) ⟨Nat.le_of_ble_eq_true rfl, Nat.le_of_ble_eq_true rfl⟩ 0 rfl rfl rfl rfl (Nat.le_of_ble_eq_true rfl) ⟨Nat.le_of_ble_eq_true rfl, Nat.le_of_ble_eq_true rfl⟩ dX12_overOf_137 (fun v ty' w' hp hk' => ?_)
                  obtain ⟨y20407, rfl, rfl⟩ := hp
                  show GW κ 6 0 0 (wM r g I A L) 140 [(5, .int x20243), (4, .int x20244), (3, .int x20245), (2, .int x19481), (1, .int x19482), (0, .ref (r 0))] [.int y20407, .int x19482]
                  have b20408l := Int32.le_toInt x19482
                  have b20408h := Int32.toInt_lt x19482
                  have b20409l := Int32.le_toInt y20407
                  have b20409h := Int32.toInt_lt y20407
                  refine g_iadd hk dX12_overOf_140 ?_
                  refine g_topi (fun y20410 ey20410 => ?_)
                  refine g_istore_n (lv' := [(1, .int y20410), (5, .int x20243), (4, .int x20244), (3, .int x20245), (2, .int x19481), (0, .ref (r 0))]) hk dX12_overOf_141 (by decide) rfl ?_
                  obtain ⟨y20411, ey20411⟩ : ∃ y : Int32, y = x19481 + Int32.ofInt 1 := ⟨_, rfl⟩
                  have hy20411 : y20411.toInt = x19481.toInt + 1 := i32_add ey20411 rfl (by decide) (by omega) (by omega)
                  refine g_iinc (v := y20411) (lv' := [(2, .int y20411), (1, .int y20410), (5, .int x20243), (4, .int x20244), (3, .int x20245), (0, .ref (r 0))]) hk 4 dX12_overOf_142 rfl ey20411.symm (by decide) rfl ?_
                  refine g_goto (tgt := 4) hk dX12_overOf_145 (by decide) ?_
                  have b20412l := Int32.le_toInt y20410
                  have b20412h := Int32.toInt_lt y20410
                  exact g_lv (List.forall_mem_cons.mpr ⟨List.mem_of_getElem? (i := 0) rfl, (List.forall_mem_cons.mpr ⟨List.mem_of_getElem? (i := 1) rfl, (List.forall_mem_cons.mpr ⟨List.mem_of_getElem? (i := 5) rfl, (fun _ h => absurd h List.not_mem_nil)⟩)⟩)⟩) (ih20239 y20411 y20410 (by omega) (by omega) (by omega) (by omega))
              · skip
                refine g_iload_n hk dX12_overOf_102 rfl ?_
                refine g_aload_n hk dX12_overOf_103 rfl ?_
                refine g_aload_n hk dX12_overOf_104 rfl ?_
                refine gM_r0_39 hk hin12 (List.mem_cons_of_mem _ (List.mem_append_left _ (List.mem_of_getElem? (i := 8) rfl))) dX12_overOf_105 ?_
                refine g_iload_n hk dX12_overOf_108 rfl ?_
                refine lM_20 (v := (A 20 x19481.toNatClampNeg)) hk (vp_in_iff.mpr ⟨by omega, by omega⟩) rfl dX12_overOf_109 ?_
                refine g_iload_n hk dX12_overOf_110 rfl ?_
                refine g_callV (n := 2) hk (j178_X12_costOf l D zt r g I A L (A 20 x19481.toNatClampNeg) x20245 hIv) (SP.same _) (fun _ h => h) (gi_V (List.mem_cons_of_mem _ (List.mem_append_left _ (List.mem_of_getElem? (i := 9) rfl))) (List.mem_cons_of_mem _ (List.mem_append_left _ (List.mem_of_getElem? (i := 10) rfl))) (List.mem_cons_of_mem _ (List.mem_append_left _ (List.mem_of_getElem? (i := 11) rfl))) (List.mem_cons_of_mem _ (List.mem_append_left _ (List.mem_of_getElem? (i := 6) rfl))) (gi_sub (fun w h => (List.mem_cons_of_mem _ (List.mem_append_right _ (List.mem_append_right _ (List.mem_append_right _ (List.mem_append_left _ h)))))) zg_j178_X12_costOf)) rfl rfl rfl (by decide +kernel) ⟨Nat.le_of_ble_eq_true rfl, Nat.le_of_ble_eq_true rfl⟩ 0 rfl rfl rfl rfl (Nat.le_of_ble_eq_true rfl) ⟨Nat.le_of_ble_eq_true rfl, Nat.le_of_ble_eq_true rfl⟩ dX12_overOf_111 (fun v ty' w' hp hk' => ?_)
                obtain ⟨y20413, rfl, rfl⟩ := hp
                show GW κ 6 0 0 (wM r g I A L) 114 [(5, .int x20243), (4, .int x20244), (3, .int x20245), (2, .int x19481), (1, .int x19482), (0, .ref (r 0))] [.int y20413, .int x19482]
                have b20414l := Int32.le_toInt x19482
                have b20414h := Int32.toInt_lt x19482
                have b20415l := Int32.le_toInt y20413
                have b20415h := Int32.toInt_lt y20413
                refine g_iadd hk dX12_overOf_114 ?_
                refine g_topi (fun y20416 ey20416 => ?_)
                refine g_istore_n (lv' := [(1, .int y20416), (5, .int x20243), (4, .int x20244), (3, .int x20245), (2, .int x19481), (0, .ref (r 0))]) hk dX12_overOf_115 (by decide) rfl ?_
                refine g_aload_n hk dX12_overOf_116 rfl ?_
                refine gM_r0_39 hk hin12 (List.mem_cons_of_mem _ (List.mem_append_left _ (List.mem_of_getElem? (i := 8) rfl))) dX12_overOf_117 ?_
                refine g_iload_n hk dX12_overOf_120 rfl ?_
                refine lM_20 (v := (A 20 x19481.toNatClampNeg)) hk (vp_in_iff.mpr ⟨by omega, by omega⟩) rfl dX12_overOf_121 ?_
                refine g_iload hk dX12_overOf_122 rfl ?_
                have b20417l := Int32.le_toInt x20244
                have b20417h := Int32.toInt_lt x20244
                refine g_icmp_ge (tgt := 142) (a := (A 20 x19481.toNatClampNeg).toInt) (b := x20244.toInt) hk dX12_overOf_124 (by decide) rfl rfl (fun c20418 => ?_) (fun c20418 => ?_)
                · skip
                  obtain ⟨y20419, ey20419⟩ : ∃ y : Int32, y = x19481 + Int32.ofInt 1 := ⟨_, rfl⟩
                  have hy20419 : y20419.toInt = x19481.toInt + 1 := i32_add ey20419 rfl (by decide) (by omega) (by omega)
                  refine g_iinc (v := y20419) (lv' := [(2, .int y20419), (1, .int y20416), (5, .int x20243), (4, .int x20244), (3, .int x20245), (0, .ref (r 0))]) hk 4 dX12_overOf_142 rfl ey20419.symm (by decide) rfl ?_
                  refine g_goto (tgt := 4) hk dX12_overOf_145 (by decide) ?_
                  have b20420l := Int32.le_toInt y20416
                  have b20420h := Int32.toInt_lt y20416
                  exact g_lv (List.forall_mem_cons.mpr ⟨List.mem_of_getElem? (i := 0) rfl, (List.forall_mem_cons.mpr ⟨List.mem_of_getElem? (i := 1) rfl, (List.forall_mem_cons.mpr ⟨List.mem_of_getElem? (i := 5) rfl, (fun _ h => absurd h List.not_mem_nil)⟩)⟩)⟩) (ih20239 y20419 y20416 (by omega) (by omega) (by omega) (by omega))
                · skip
                  refine g_iload_n hk dX12_overOf_127 rfl ?_
                  refine g_aload_n hk dX12_overOf_128 rfl ?_
                  refine g_aload_n hk dX12_overOf_129 rfl ?_
                  refine gM_r0_39 hk hin12 (List.mem_cons_of_mem _ (List.mem_append_left _ (List.mem_of_getElem? (i := 8) rfl))) dX12_overOf_130 ?_
                  refine g_iload_n hk dX12_overOf_133 rfl ?_
                  refine lM_20 (v := (A 20 x19481.toNatClampNeg)) hk (vp_in_iff.mpr ⟨by omega, by omega⟩) rfl dX12_overOf_134 ?_
                  refine g_iload hk dX12_overOf_135 rfl ?_
                  refine g_callV (n := 2) hk (j178_X12_costOf l D zt r g I A L (A 20 x19481.toNatClampNeg) x20244 hIv) (SP.same _) (fun _ h => h) (gi_V (List.mem_cons_of_mem _ (List.mem_append_left _ (List.mem_of_getElem? (i := 9) rfl))) (List.mem_cons_of_mem _ (List.mem_append_left _ (List.mem_of_getElem? (i := 10) rfl))) (List.mem_cons_of_mem _ (List.mem_append_left _ (List.mem_of_getElem? (i := 11) rfl))) (List.mem_cons_of_mem _ (List.mem_append_left _ (List.mem_of_getElem? (i := 6) rfl))) (gi_sub (fun w h => (List.mem_cons_of_mem _ (List.mem_append_right _ (List.mem_append_right _ (List.mem_append_right _ (List.mem_append_left _ h)))))) zg_j178_X12_costOf)) rfl rfl rfl (by decide +kernel) ⟨Nat.le_of_ble_eq_true rfl, Nat.le_of_ble_eq_true rfl⟩ 0 rfl rfl rfl rfl (Nat.le_of_ble_eq_true rfl) ⟨Nat.le_of_ble_eq_true rfl, Nat.le_of_ble_eq_true rfl⟩ dX12_overOf_137 (fun v ty' w' hp hk' => ?_)
                  obtain ⟨y20421, rfl, rfl⟩ := hp
                  show GW κ 6 0 0 (wM r g I A L) 140 [(1, .int y20416), (5, .int x20243), (4, .int x20244), (3, .int x20245), (2, .int x19481), (0, .ref (r 0))] [.int y20421, .int y20416]
                  have b20422l := Int32.le_toInt y20416
                  have b20422h := Int32.toInt_lt y20416
                  have b20423l := Int32.le_toInt y20421
                  have b20423h := Int32.toInt_lt y20421
                  refine g_iadd hk dX12_overOf_140 ?_
                  refine g_topi (fun y20424 ey20424 => ?_)
                  refine g_istore_n (lv' := [(1, .int y20424), (5, .int x20243), (4, .int x20244), (3, .int x20245), (2, .int x19481), (0, .ref (r 0))]) hk dX12_overOf_141 (by decide) rfl ?_
                  obtain ⟨y20425, ey20425⟩ : ∃ y : Int32, y = x19481 + Int32.ofInt 1 := ⟨_, rfl⟩
                  have hy20425 : y20425.toInt = x19481.toInt + 1 := i32_add ey20425 rfl (by decide) (by omega) (by omega)
                  refine g_iinc (v := y20425) (lv' := [(2, .int y20425), (1, .int y20424), (5, .int x20243), (4, .int x20244), (3, .int x20245), (0, .ref (r 0))]) hk 4 dX12_overOf_142 rfl ey20425.symm (by decide) rfl ?_
                  refine g_goto (tgt := 4) hk dX12_overOf_145 (by decide) ?_
                  have b20426l := Int32.le_toInt y20424
                  have b20426h := Int32.toInt_lt y20424
                  exact g_lv (List.forall_mem_cons.mpr ⟨List.mem_of_getElem? (i := 0) rfl, (List.forall_mem_cons.mpr ⟨List.mem_of_getElem? (i := 1) rfl, (List.forall_mem_cons.mpr ⟨List.mem_of_getElem? (i := 5) rfl, (fun _ h => absurd h List.not_mem_nil)⟩)⟩)⟩) (ih20239 y20425 y20424 (by omega) (by omega) (by omega) (by omega))
            · skip
              refine g_aload_n hk dX12_overOf_33 rfl ?_
              refine g_iload hk dX12_overOf_34 rfl ?_
              refine g_iload_n hk dX12_overOf_36 rfl ?_
              refine g_callV (n := 2) hk (j175_X12_isBand l D zt r g I A L x20243 x19481 hIv (by omega) (by omega) (by omega) (by omega)) (SP.same _) (fun _ h => h) (gi_V (List.mem_cons_of_mem _ (List.mem_append_left _ (List.mem_of_getElem? (i := 3) rfl))) (List.mem_cons_of_mem _ (List.mem_append_left _ (List.mem_of_getElem? (i := 4) rfl))) (List.mem_cons_of_mem _ (List.mem_append_left _ (List.mem_of_getElem? (i := 5) rfl))) (List.mem_cons_of_mem _ (List.mem_append_left _ (List.mem_of_getElem? (i := 6) rfl))) (gi_sub (fun w h => (List.mem_cons_of_mem _ (List.mem_append_right _ (List.mem_append_right _ (List.mem_append_left _ h))))) zg_j175_X12_isBand)) rfl rfl rfl (by decide +kernel) ⟨Nat.le_of_ble_eq_true rfl, Nat.le_of_ble_eq_true rfl⟩ 0 rfl rfl rfl rfl (Nat.le_of_ble_eq_true rfl) ⟨Nat.le_of_ble_eq_true rfl, Nat.le_of_ble_eq_true rfl⟩ dX12_overOf_37 (fun v ty' w' hp hk' => ?_)
              rcases hp with ⟨rfl, rfl⟩ | ⟨c20428, c20429, rfl, rfl⟩
              · skip
                show GW κ 6 0 0 (wM r g I A L) 40 [(5, .int x20243), (4, .int x20244), (3, .int x20245), (2, .int x19481), (1, .int x19482), (0, .ref (r 0))] [.int 0]
                refine g_if_ne (tgt := 46) (a := 0) hk dX12_overOf_40 (by decide) rfl (fun z9 => absurd z9 (show ¬ ((0 : Int) ≠ (0 : Int)) from by decide)) (fun _ => ?_)
                refine g_goto (tgt := 86) hk dX12_overOf_43 (by decide) ?_
                obtain ⟨y20431, ey20431⟩ : ∃ y : Int32, y = x20243 + Int32.ofInt 1 := ⟨_, rfl⟩
                have hy20431 : y20431.toInt = x20243.toInt + 1 := i32_add ey20431 rfl (by decide) (by omega) (by omega)
                refine g_iinc (v := y20431) (lv' := [(5, .int y20431), (4, .int x20244), (3, .int x20245), (2, .int x19481), (1, .int x19482), (0, .ref (r 0))]) hk 0 dX12_overOf_86 rfl ey20431.symm (by decide) rfl ?_
                refine g_goto (tgt := 24) hk dX12_overOf_89 (by decide) ?_
                have b20432l := Int32.le_toInt x20244
                have b20432h := Int32.toInt_lt x20244
                have b20433l := Int32.le_toInt x20245
                have b20433h := Int32.toInt_lt x20245
                exact g_lv (List.forall_mem_cons.mpr ⟨List.mem_of_getElem? (i := 0) rfl, (List.forall_mem_cons.mpr ⟨List.mem_of_getElem? (i := 1) rfl, (List.forall_mem_cons.mpr ⟨List.mem_of_getElem? (i := 2) rfl, (List.forall_mem_cons.mpr ⟨List.mem_of_getElem? (i := 3) rfl, (List.forall_mem_cons.mpr ⟨List.mem_of_getElem? (i := 4) rfl, (List.forall_mem_cons.mpr ⟨List.mem_of_getElem? (i := 5) rfl, (fun _ h => absurd h List.not_mem_nil)⟩)⟩)⟩)⟩)⟩)⟩) (ih20398 y20431 x20244 x20245 (by omega) (by omega) (by omega) (by omega) (by omega) (by omega))
              · skip
                show GW κ 6 0 0 (wM r g I A L) 40 [(5, .int x20243), (4, .int x20244), (3, .int x20245), (2, .int x19481), (1, .int x19482), (0, .ref (r 0))] [.int 1]
                refine g_if_ne (tgt := 46) (a := 1) hk dX12_overOf_40 (by decide) rfl (fun _ => ?_) (fun z9 => absurd (show (1 : Int) ≠ (0 : Int) from by decide) z9)
                refine g_aload_n hk dX12_overOf_46 rfl ?_
                refine gM_r0_38 hk hin12 (List.mem_cons_of_mem _ (List.mem_append_left _ (List.mem_of_getElem? (i := 7) rfl))) dX12_overOf_47 ?_
                refine g_iload hk dX12_overOf_50 rfl ?_
                refine lM_19 (v := (A 19 x20243.toNatClampNeg)) hk (vp_in_iff.mpr ⟨by omega, by omega⟩) rfl dX12_overOf_52 ?_
                refine g_iload_n hk dX12_overOf_53 rfl ?_
                have b20434l := Int32.le_toInt (A 19 x20243.toNatClampNeg)
                have b20434h := Int32.toInt_lt (A 19 x20243.toNatClampNeg)
                have b20435l := Int32.le_toInt x20245
                have b20435h := Int32.toInt_lt x20245
                refine g_icmp_le (tgt := 65) (a := (A 19 x20243.toNatClampNeg).toInt) (b := x20245.toInt) hk dX12_overOf_54 (by decide) rfl rfl (fun c20436 => ?_) (fun c20436 => ?_)
                · skip
                  refine g_aload_n hk dX12_overOf_65 rfl ?_
                  refine gM_r0_38 hk hin12 (List.mem_cons_of_mem _ (List.mem_append_left _ (List.mem_of_getElem? (i := 7) rfl))) dX12_overOf_66 ?_
                  refine g_iload hk dX12_overOf_69 rfl ?_
                  refine lM_19 (v := (A 19 x20243.toNatClampNeg)) hk (vp_in_iff.mpr ⟨by omega, by omega⟩) rfl dX12_overOf_71 ?_
                  refine g_iload hk dX12_overOf_72 rfl ?_
                  have b20437l := Int32.le_toInt x20244
                  have b20437h := Int32.toInt_lt x20244
                  refine g_icmp_ge (tgt := 86) (a := (A 19 x20243.toNatClampNeg).toInt) (b := x20244.toInt) hk dX12_overOf_74 (by decide) rfl rfl (fun c20438 => ?_) (fun c20438 => ?_)
                  · skip
                    obtain ⟨y20439, ey20439⟩ : ∃ y : Int32, y = x20243 + Int32.ofInt 1 := ⟨_, rfl⟩
                    have hy20439 : y20439.toInt = x20243.toInt + 1 := i32_add ey20439 rfl (by decide) (by omega) (by omega)
                    refine g_iinc (v := y20439) (lv' := [(5, .int y20439), (4, .int x20244), (3, .int x20245), (2, .int x19481), (1, .int x19482), (0, .ref (r 0))]) hk 0 dX12_overOf_86 rfl ey20439.symm (by decide) rfl ?_
                    refine g_goto (tgt := 24) hk dX12_overOf_89 (by decide) ?_
                    exact g_lv (List.forall_mem_cons.mpr ⟨List.mem_of_getElem? (i := 0) rfl, (List.forall_mem_cons.mpr ⟨List.mem_of_getElem? (i := 1) rfl, (List.forall_mem_cons.mpr ⟨List.mem_of_getElem? (i := 2) rfl, (List.forall_mem_cons.mpr ⟨List.mem_of_getElem? (i := 3) rfl, (List.forall_mem_cons.mpr ⟨List.mem_of_getElem? (i := 4) rfl, (List.forall_mem_cons.mpr ⟨List.mem_of_getElem? (i := 5) rfl, (fun _ h => absurd h List.not_mem_nil)⟩)⟩)⟩)⟩)⟩)⟩) (ih20398 y20439 x20244 x20245 (by omega) (by omega) (by omega) (by omega) (by omega) (by omega))
                  · skip
                    refine g_aload_n hk dX12_overOf_77 rfl ?_
                    refine gM_r0_38 hk hin12 (List.mem_cons_of_mem _ (List.mem_append_left _ (List.mem_of_getElem? (i := 7) rfl))) dX12_overOf_78 ?_
                    refine g_iload hk dX12_overOf_81 rfl ?_
                    refine lM_19 (v := (A 19 x20243.toNatClampNeg)) hk (vp_in_iff.mpr ⟨by omega, by omega⟩) rfl dX12_overOf_83 ?_
                    refine g_istore (lv' := [(4, .int (A 19 x20243.toNatClampNeg)), (5, .int x20243), (3, .int x20245), (2, .int x19481), (1, .int x19482), (0, .ref (r 0))]) hk dX12_overOf_84 (by decide) rfl ?_
                    obtain ⟨y20440, ey20440⟩ : ∃ y : Int32, y = x20243 + Int32.ofInt 1 := ⟨_, rfl⟩
                    have hy20440 : y20440.toInt = x20243.toInt + 1 := i32_add ey20440 rfl (by decide) (by omega) (by omega)
                    refine g_iinc (v := y20440) (lv' := [(5, .int y20440), (4, .int (A 19 x20243.toNatClampNeg)), (3, .int x20245), (2, .int x19481), (1, .int x19482), (0, .ref (r 0))]) hk 1 dX12_overOf_86 rfl ey20440.symm (by decide) rfl ?_
                    refine g_goto (tgt := 24) hk dX12_overOf_89 (by decide) ?_
                    exact g_lv (List.forall_mem_cons.mpr ⟨List.mem_of_getElem? (i := 0) rfl, (List.forall_mem_cons.mpr ⟨List.mem_of_getElem? (i := 1) rfl, (List.forall_mem_cons.mpr ⟨List.mem_of_getElem? (i := 2) rfl, (List.forall_mem_cons.mpr ⟨List.mem_of_getElem? (i := 3) rfl, (List.forall_mem_cons.mpr ⟨List.mem_of_getElem? (i := 4) rfl, (List.forall_mem_cons.mpr ⟨List.mem_of_getElem? (i := 5) rfl, (fun _ h => absurd h List.not_mem_nil)⟩)⟩)⟩)⟩)⟩)⟩) (ih20398 y20440 (A 19 x20243.toNatClampNeg) x20245 (by omega) (by omega) (by omega) (by omega) (by omega) (by omega))
                · skip
                  refine g_aload_n hk dX12_overOf_57 rfl ?_
                  refine gM_r0_38 hk hin12 (List.mem_cons_of_mem _ (List.mem_append_left _ (List.mem_of_getElem? (i := 7) rfl))) dX12_overOf_58 ?_
                  refine g_iload hk dX12_overOf_61 rfl ?_
                  refine lM_19 (v := (A 19 x20243.toNatClampNeg)) hk (vp_in_iff.mpr ⟨by omega, by omega⟩) rfl dX12_overOf_63 ?_
                  refine g_istore_n (lv' := [(3, .int (A 19 x20243.toNatClampNeg)), (5, .int x20243), (4, .int x20244), (2, .int x19481), (1, .int x19482), (0, .ref (r 0))]) hk dX12_overOf_64 (by decide) rfl ?_
                  refine g_aload_n hk dX12_overOf_65 rfl ?_
                  refine gM_r0_38 hk hin12 (List.mem_cons_of_mem _ (List.mem_append_left _ (List.mem_of_getElem? (i := 7) rfl))) dX12_overOf_66 ?_
                  refine g_iload hk dX12_overOf_69 rfl ?_
                  refine lM_19 (v := (A 19 x20243.toNatClampNeg)) hk (vp_in_iff.mpr ⟨by omega, by omega⟩) rfl dX12_overOf_71 ?_
                  refine g_iload hk dX12_overOf_72 rfl ?_
                  have b20441l := Int32.le_toInt x20244
                  have b20441h := Int32.toInt_lt x20244
                  refine g_icmp_ge (tgt := 86) (a := (A 19 x20243.toNatClampNeg).toInt) (b := x20244.toInt) hk dX12_overOf_74 (by decide) rfl rfl (fun c20442 => ?_) (fun c20442 => ?_)
                  · skip
                    obtain ⟨y20443, ey20443⟩ : ∃ y : Int32, y = x20243 + Int32.ofInt 1 := ⟨_, rfl⟩
                    have hy20443 : y20443.toInt = x20243.toInt + 1 := i32_add ey20443 rfl (by decide) (by omega) (by omega)
                    refine g_iinc (v := y20443) (lv' := [(5, .int y20443), (3, .int (A 19 x20243.toNatClampNeg)), (4, .int x20244), (2, .int x19481), (1, .int x19482), (0, .ref (r 0))]) hk 1 dX12_overOf_86 rfl ey20443.symm (by decide) rfl ?_
                    refine g_goto (tgt := 24) hk dX12_overOf_89 (by decide) ?_
                    exact g_lv (List.forall_mem_cons.mpr ⟨List.mem_of_getElem? (i := 0) rfl, (List.forall_mem_cons.mpr ⟨List.mem_of_getElem? (i := 2) rfl, (List.forall_mem_cons.mpr ⟨List.mem_of_getElem? (i := 1) rfl, (List.forall_mem_cons.mpr ⟨List.mem_of_getElem? (i := 3) rfl, (List.forall_mem_cons.mpr ⟨List.mem_of_getElem? (i := 4) rfl, (List.forall_mem_cons.mpr ⟨List.mem_of_getElem? (i := 5) rfl, (fun _ h => absurd h List.not_mem_nil)⟩)⟩)⟩)⟩)⟩)⟩) (ih20398 y20443 x20244 (A 19 x20243.toNatClampNeg) (by omega) (by omega) (by omega) (by omega) (by omega) (by omega))
                  · skip
                    refine g_aload_n hk dX12_overOf_77 rfl ?_
                    refine gM_r0_38 hk hin12 (List.mem_cons_of_mem _ (List.mem_append_left _ (List.mem_of_getElem? (i := 7) rfl))) dX12_overOf_78 ?_
                    refine g_iload hk dX12_overOf_81 rfl ?_
                    refine lM_19 (v := (A 19 x20243.toNatClampNeg)) hk (vp_in_iff.mpr ⟨by omega, by omega⟩) rfl dX12_overOf_83 ?_
                    refine g_istore (lv' := [(4, .int (A 19 x20243.toNatClampNeg)), (3, .int (A 19 x20243.toNatClampNeg)), (5, .int x20243), (2, .int x19481), (1, .int x19482), (0, .ref (r 0))]) hk dX12_overOf_84 (by decide) rfl ?_
                    obtain ⟨y20444, ey20444⟩ : ∃ y : Int32, y = x20243 + Int32.ofInt 1 := ⟨_, rfl⟩
                    have hy20444 : y20444.toInt = x20243.toInt + 1 := i32_add ey20444 rfl (by decide) (by omega) (by omega)
                    refine g_iinc (v := y20444) (lv' := [(5, .int y20444), (4, .int (A 19 x20243.toNatClampNeg)), (3, .int (A 19 x20243.toNatClampNeg)), (2, .int x19481), (1, .int x19482), (0, .ref (r 0))]) hk 2 dX12_overOf_86 rfl ey20444.symm (by decide) rfl ?_
                    refine g_goto (tgt := 24) hk dX12_overOf_89 (by decide) ?_
                    exact g_lv (List.forall_mem_cons.mpr ⟨List.mem_of_getElem? (i := 0) rfl, (List.forall_mem_cons.mpr ⟨List.mem_of_getElem? (i := 1) rfl, (List.forall_mem_cons.mpr ⟨List.mem_of_getElem? (i := 2) rfl, (List.forall_mem_cons.mpr ⟨List.mem_of_getElem? (i := 3) rfl, (List.forall_mem_cons.mpr ⟨List.mem_of_getElem? (i := 4) rfl, (List.forall_mem_cons.mpr ⟨List.mem_of_getElem? (i := 5) rfl, (fun _ h => absurd h List.not_mem_nil)⟩)⟩)⟩)⟩)⟩)⟩) (ih20398 y20444 (A 19 x20243.toNatClampNeg) (A 19 x20243.toNatClampNeg) (by omega) (by omega) (by omega) (by omega) (by omega) (by omega))
        have k20445 : (0 : Int32).toInt = 0 := rfl
        have k20446 : (2000000000 : Int32).toInt = 2000000000 := rfl
        have k20447 : ((-2000000000) : Int32).toInt = (-2000000000) := rfl
        obtain ⟨n20448, n20448a, n20448b⟩ : ∃ n : Nat, 17 - (0 : Int32).toInt < (n : Int) ∧ 0 < n := ⟨((17 - (0 : Int32).toInt : Int)).toNat + 1, by omega, by omega⟩
        exact lp20395 n20448 0 2000000000 (-2000000000) (by omega) (by omega) (by omega) (by omega) n20448a n20448b
  have k20449 : (0 : Int32).toInt = 0 := rfl
  obtain ⟨n20450, n20450a, n20450b⟩ : ∃ n : Nat, 17 - (0 : Int32).toInt < (n : Int) ∧ 0 < n := ⟨((17 - (0 : Int32).toInt : Int)).toNat + 1, by omega, by omega⟩
  exact lp20236 n20450 0 0 (by omega) (by omega) n20450a n20450b
def wo_j180_X12_backOf : List Cond := [Cond.fieldLink RX12 267 "WarpDeskModel" "wide" "I", Cond.methodLink RX12 273 yX12_changesBoth, Cond.instanceMethod yX12_changesBoth, Cond.selects RX12 yX12_changesBoth yX12_changesBoth, Cond.initialized RX12, Cond.methodLink RX12 308 yX12_overOf, Cond.instanceMethod yX12_overOf, Cond.selects RX12 yX12_overOf yX12_overOf]
def wz_j180_X12_backOf : List Cond := .code yX12_backOf cX12_backOf 2 (some .int) :: (wo_j180_X12_backOf ++ (wsX120 ++ (wz_j171_X12_changesBoth ++ (wz_j181_X12_overOf ++ ([] : List Cond)))))
theorem zg_j180_X12_backOf : ∀ w ∈ wz_j180_X12_backOf, goodWord w = true := zg_cons rfl (zg_app (by decide +kernel) (zg_app zgU_wsX120 (zg_app zg_j171_X12_changesBoth (zg_app zg_j181_X12_overOf zg_nil))))
theorem zi_j180_X12_backOf : ∀ w ∈ wz_j180_X12_backOf, w ∈ lw_tbl := zi_cons zw_1815 (zi_app (zi_cons zw_1415 (zi_cons zw_1767 (zi_cons zw_1769 (zi_cons zw_81 (zi_cons zw_115 (zi_cons zw_1807 (zi_cons zw_1809 (zi_cons zw_89 zi_nil)))))))) (zi_app inX12 (zi_app zi_j171_X12_changesBoth (zi_app zi_j181_X12_overOf zi_nil))))
set_option maxHeartbeats 4000000 in
set_option maxRecDepth 100000 in
theorem j180_X12_backOf (l : Launch) (D : va_G) (zt : Nat × Nat × Nat × (Nat → Nat) × (Nat → Nat)) (r : Nat → Nat) (g : Nat → ClassId) (I : Nat → Int32) (A : Nat → Nat → Int32) (L : Nat → Nat → Int64) (hIv : IvM I A) : GM l D zt (tyM g) yX12_backOf wz_j180_X12_backOf ({ frames := 3, cells := 0, slots := 0, locals := 69 } : Room) [.ref (r 0)] (wM r g I A L) (fun v _ w' => ∃ (I' : Nat → Int32) (A' : Nat → Nat → Int32) (L' : Nat → Nat → Int64), Md [] I I' ∧ Md [19, 20] A A' ∧ IvM I' A' ∧ ∃ y0 : Int32, v = some (.int y0) ∧ w' = wM r g I' A' L') 0 0 := by
  refine GM.of (cc := cX12_backOf) (maxL := 2) (ret := (some .int)) (own := RX12) (lv := [(0, .ref (r 0))]) (by decide) rfl rfl (Nat.le_of_ble_eq_true rfl) rfl (fun κ sz hk hR hN => ?_)
  have hin12 : ∀ w ∈ u_ws RX12 TX12 55, w ∈ wz_j180_X12_backOf := fun w h => (List.mem_cons_of_mem _ (List.mem_append_right _ (List.mem_append_left _ h)))
  refine g_aload_n hk dX12_backOf_0 rfl ?_
  refine g_aload_n hk dX12_backOf_1 rfl ?_
  refine gM_i18 (v := (I 18)) hk hin12 (List.mem_cons_of_mem _ (List.mem_append_left _ (List.mem_of_getElem? (i := 0) rfl))) dX12_backOf_2 rfl ?_
  have f19478 := IvM_f18 hIv
  refine g_callV (n := 1) hk (j171_X12_changesBoth l D zt r g I A L (I 18) hIv (by omega) (by omega)) (SP.same _) (fun _ h => h) (gi_V (List.mem_cons_of_mem _ (List.mem_append_left _ (List.mem_of_getElem? (i := 1) rfl))) (List.mem_cons_of_mem _ (List.mem_append_left _ (List.mem_of_getElem? (i := 2) rfl))) (List.mem_cons_of_mem _ (List.mem_append_left _ (List.mem_of_getElem? (i := 3) rfl))) (List.mem_cons_of_mem _ (List.mem_append_left _ (List.mem_of_getElem? (i := 4) rfl))) (gi_sub (fun w h => (List.mem_cons_of_mem _ (List.mem_append_right _ (List.mem_append_right _ (List.mem_append_left _ h))))) zg_j171_X12_changesBoth)) rfl rfl rfl (by decide +kernel) ⟨Nat.le_of_ble_eq_true rfl, Nat.le_of_ble_eq_true rfl⟩ 0 rfl rfl rfl rfl (Nat.le_of_ble_eq_true rfl) ⟨Nat.le_of_ble_eq_true rfl, Nat.le_of_ble_eq_true rfl⟩ dX12_backOf_5 (fun v ty' w' hp hk' => ?_)
  obtain ⟨I19480, A19480, L19480, hI19480, hA19480, hV19480, rfl, rfl⟩ := hp
  show GW κ 2 0 0 (wM r g I19480 A19480 L19480) 8 [(0, .ref (r 0))] []
  refine g_aload_n hk dX12_backOf_8 rfl ?_
  refine g_callV (n := 0) hk (j181_X12_overOf l D zt r g I19480 A19480 L19480  hV19480) (SP.same _) (fun _ h => h) (gi_V (List.mem_cons_of_mem _ (List.mem_append_left _ (List.mem_of_getElem? (i := 5) rfl))) (List.mem_cons_of_mem _ (List.mem_append_left _ (List.mem_of_getElem? (i := 6) rfl))) (List.mem_cons_of_mem _ (List.mem_append_left _ (List.mem_of_getElem? (i := 7) rfl))) (List.mem_cons_of_mem _ (List.mem_append_left _ (List.mem_of_getElem? (i := 4) rfl))) (gi_sub (fun w h => (List.mem_cons_of_mem _ (List.mem_append_right _ (List.mem_append_right _ (List.mem_append_right _ (List.mem_append_left _ h)))))) zg_j181_X12_overOf)) rfl rfl rfl (by decide +kernel) ⟨Nat.le_of_ble_eq_true rfl, Nat.le_of_ble_eq_true rfl⟩ 0 rfl rfl rfl rfl (Nat.le_of_ble_eq_true rfl) ⟨Nat.le_of_ble_eq_true rfl, Nat.le_of_ble_eq_true rfl⟩ dX12_backOf_9 (fun v ty' w' hp hk' => ?_)
  obtain ⟨y20451, rfl, rfl⟩ := hp
  show GW κ 2 0 0 (wM r g I19480 A19480 L19480) 12 [(0, .ref (r 0))] [.int y20451]
  refine g_istore_n (lv' := [(1, .int y20451), (0, .ref (r 0))]) hk dX12_backOf_12 (by decide) rfl ?_
  refine g_aload_n hk dX12_backOf_13 rfl ?_
  refine g_aload_n hk dX12_backOf_14 rfl ?_
  refine gM_i18 (v := (I 18)) hk hin12 (List.mem_cons_of_mem _ (List.mem_append_left _ (List.mem_of_getElem? (i := 0) rfl))) dX12_backOf_15 (hI19480 18 rfl) ?_
  refine g_callV (n := 1) hk (j171_X12_changesBoth l D zt r g I19480 A19480 L19480 (I 18) hV19480 (by omega) (by omega)) (SP.same _) (fun _ h => h) (gi_V (List.mem_cons_of_mem _ (List.mem_append_left _ (List.mem_of_getElem? (i := 1) rfl))) (List.mem_cons_of_mem _ (List.mem_append_left _ (List.mem_of_getElem? (i := 2) rfl))) (List.mem_cons_of_mem _ (List.mem_append_left _ (List.mem_of_getElem? (i := 3) rfl))) (List.mem_cons_of_mem _ (List.mem_append_left _ (List.mem_of_getElem? (i := 4) rfl))) (gi_sub (fun w h => (List.mem_cons_of_mem _ (List.mem_append_right _ (List.mem_append_right _ (List.mem_append_left _ h))))) zg_j171_X12_changesBoth)) rfl rfl rfl (by decide +kernel) ⟨Nat.le_of_ble_eq_true rfl, Nat.le_of_ble_eq_true rfl⟩ 0 rfl rfl rfl rfl (Nat.le_of_ble_eq_true rfl) ⟨Nat.le_of_ble_eq_true rfl, Nat.le_of_ble_eq_true rfl⟩ dX12_backOf_18 (fun v ty' w' hp hk' => ?_)
  obtain ⟨I20453, A20453, L20453, hI20453, hA20453, hV20453, rfl, rfl⟩ := hp
  show GW κ 2 0 0 (wM r g I20453 A20453 L20453) 21 [(1, .int y20451), (0, .ref (r 0))] []
  refine g_iload_n hk dX12_backOf_21 rfl ?_
  have b20454l := Int32.le_toInt y20451
  have b20454h := Int32.toInt_lt y20451
  exact g_iret hk hR rfl ⟨I20453, A20453, L20453, (show Md [] I I20453 from (Md.tr (Md.tr Md.rf hI19480 rfl) hI20453 rfl)), (show Md [19, 20] A A20453 from (Md.tr (Md.tr Md.rf hA19480 rfl) hA20453 rfl)), hV20453, y20451, rfl, rfl⟩ dX12_backOf_22
def wo_j182_X12_endsOf : List Cond := [Cond.fieldLink RX12 76 "WarpDeskModel" "firstAt" "[I", Cond.fieldLink RX12 79 "WarpDeskModel" "otherAt" "[I", Cond.methodLink RX12 289 yX12_costOf, Cond.instanceMethod yX12_costOf, Cond.selects RX12 yX12_costOf yX12_costOf, Cond.initialized RX12, Cond.fieldLink RX12 267 "WarpDeskModel" "wide" "I"]
def wz_j182_X12_endsOf : List Cond := .code yX12_endsOf cX12_endsOf 1 (some .int) :: (wo_j182_X12_endsOf ++ (wsX120 ++ (wz_j178_X12_costOf ++ ([] : List Cond))))
theorem zg_j182_X12_endsOf : ∀ w ∈ wz_j182_X12_endsOf, goodWord w = true := zg_cons rfl (zg_app (by decide +kernel) (zg_app zgU_wsX120 (zg_app zg_j178_X12_costOf zg_nil)))
theorem zi_j182_X12_endsOf : ∀ w ∈ wz_j182_X12_endsOf, w ∈ lw_tbl := zi_cons zw_1806 (zi_app (zi_cons zw_1416 (zi_cons zw_1417 (zi_cons zw_1795 (zi_cons zw_1797 (zi_cons zw_87 (zi_cons zw_115 (zi_cons zw_1415 zi_nil))))))) (zi_app inX12 (zi_app zi_j178_X12_costOf zi_nil)))
set_option maxHeartbeats 4000000 in
set_option maxRecDepth 100000 in
theorem j182_X12_endsOf (l : Launch) (D : va_G) (zt : Nat × Nat × Nat × (Nat → Nat) × (Nat → Nat)) (r : Nat → Nat) (g : Nat → ClassId) (I : Nat → Int32) (A : Nat → Nat → Int32) (L : Nat → Nat → Int64) (hIv : IvM I A) (hp0 : 1 ≤ (I 18).toInt) : GM l D zt (tyM g) yX12_endsOf wz_j182_X12_endsOf ({ frames := 1, cells := 0, slots := 0, locals := 23 } : Room) [.ref (r 0)] (wM r g I A L) (fun v _ w' => ∃ y0 : Int32, v = some (.int y0) ∧ w' = wM r g I A L) 0 0 := by
  refine GM.of (cc := cX12_endsOf) (maxL := 1) (ret := (some .int)) (own := RX12) (lv := [(0, .ref (r 0))]) (by decide) rfl rfl (Nat.le_of_ble_eq_true rfl) rfl (fun κ sz hk hR hN => ?_)
  have hin12 : ∀ w ∈ u_ws RX12 TX12 55, w ∈ wz_j182_X12_endsOf := fun w h => (List.mem_cons_of_mem _ (List.mem_append_right _ (List.mem_append_left _ h)))
  refine g_aload_n hk dX12_endsOf_0 rfl ?_
  refine g_aload_n hk dX12_endsOf_1 rfl ?_
  refine gM_r0_38 hk hin12 (List.mem_cons_of_mem _ (List.mem_append_left _ (List.mem_of_getElem? (i := 0) rfl))) dX12_endsOf_2 ?_
  refine g_iconst (v := 0) hk dX12_endsOf_5 (by decide) ?_
  refine lM_19 (v := (A 19 0)) hk (vp_in_iff.mpr ⟨by decide, by decide⟩) rfl dX12_endsOf_6 ?_
  refine g_aload_n hk dX12_endsOf_7 rfl ?_
  refine gM_r0_39 hk hin12 (List.mem_cons_of_mem _ (List.mem_append_left _ (List.mem_of_getElem? (i := 1) rfl))) dX12_endsOf_8 ?_
  refine g_iconst (v := 0) hk dX12_endsOf_11 (by decide) ?_
  refine lM_20 (v := (A 20 0)) hk (vp_in_iff.mpr ⟨by decide, by decide⟩) rfl dX12_endsOf_12 ?_
  refine g_callV (n := 2) hk (j178_X12_costOf l D zt r g I A L (A 19 0) (A 20 0) hIv) (SP.same _) (fun _ h => h) (gi_V (List.mem_cons_of_mem _ (List.mem_append_left _ (List.mem_of_getElem? (i := 2) rfl))) (List.mem_cons_of_mem _ (List.mem_append_left _ (List.mem_of_getElem? (i := 3) rfl))) (List.mem_cons_of_mem _ (List.mem_append_left _ (List.mem_of_getElem? (i := 4) rfl))) (List.mem_cons_of_mem _ (List.mem_append_left _ (List.mem_of_getElem? (i := 5) rfl))) (gi_sub (fun w h => (List.mem_cons_of_mem _ (List.mem_append_right _ (List.mem_append_right _ (List.mem_append_left _ h))))) zg_j178_X12_costOf)) rfl rfl rfl (by decide +kernel) ⟨Nat.le_of_ble_eq_true rfl, Nat.le_of_ble_eq_true rfl⟩ 0 rfl rfl rfl rfl (Nat.le_of_ble_eq_true rfl) ⟨Nat.le_of_ble_eq_true rfl, Nat.le_of_ble_eq_true rfl⟩ dX12_endsOf_13 (fun v ty' w' hp hk' => ?_)
  obtain ⟨y20460, rfl, rfl⟩ := hp
  show GW κ 1 0 0 (wM r g I A L) 16 [(0, .ref (r 0))] [.int y20460]
  refine g_aload_n hk dX12_endsOf_16 rfl ?_
  refine g_aload_n hk dX12_endsOf_17 rfl ?_
  refine gM_r0_38 hk hin12 (List.mem_cons_of_mem _ (List.mem_append_left _ (List.mem_of_getElem? (i := 0) rfl))) dX12_endsOf_18 ?_
  refine g_aload_n hk dX12_endsOf_21 rfl ?_
  refine gM_i18 (v := (I 18)) hk hin12 (List.mem_cons_of_mem _ (List.mem_append_left _ (List.mem_of_getElem? (i := 6) rfl))) dX12_endsOf_22 rfl ?_
  have f20461 := IvM_f18 hIv
  refine g_iconst (v := 1) hk dX12_endsOf_25 (by decide) ?_
  refine g_isub hk dX12_endsOf_26 ?_
  refine g_topi (fun y20462 ey20462 => ?_)
  have hy20462 : y20462.toInt = (I 18).toInt - 1 := i32_sub ey20462 rfl rfl (by omega) (by omega)
  refine lM_19 (v := (A 19 y20462.toNatClampNeg)) hk (vp_in_iff.mpr ⟨by omega, by omega⟩) rfl dX12_endsOf_27 ?_
  refine g_aload_n hk dX12_endsOf_28 rfl ?_
  refine gM_r0_39 hk hin12 (List.mem_cons_of_mem _ (List.mem_append_left _ (List.mem_of_getElem? (i := 1) rfl))) dX12_endsOf_29 ?_
  refine g_aload_n hk dX12_endsOf_32 rfl ?_
  refine gM_i18 (v := (I 18)) hk hin12 (List.mem_cons_of_mem _ (List.mem_append_left _ (List.mem_of_getElem? (i := 6) rfl))) dX12_endsOf_33 rfl ?_
  refine g_iconst (v := 1) hk dX12_endsOf_36 (by decide) ?_
  refine g_isub hk dX12_endsOf_37 ?_
  refine g_topi (fun y20463 ey20463 => ?_)
  have hy20463 : y20463.toInt = (I 18).toInt - 1 := i32_sub ey20463 rfl rfl (by omega) (by omega)
  refine lM_20 (v := (A 20 y20463.toNatClampNeg)) hk (vp_in_iff.mpr ⟨by omega, by omega⟩) rfl dX12_endsOf_38 ?_
  refine g_callV (n := 2) hk (j178_X12_costOf l D zt r g I A L (A 19 y20462.toNatClampNeg) (A 20 y20463.toNatClampNeg) hIv) (SP.same _) (fun _ h => h) (gi_V (List.mem_cons_of_mem _ (List.mem_append_left _ (List.mem_of_getElem? (i := 2) rfl))) (List.mem_cons_of_mem _ (List.mem_append_left _ (List.mem_of_getElem? (i := 3) rfl))) (List.mem_cons_of_mem _ (List.mem_append_left _ (List.mem_of_getElem? (i := 4) rfl))) (List.mem_cons_of_mem _ (List.mem_append_left _ (List.mem_of_getElem? (i := 5) rfl))) (gi_sub (fun w h => (List.mem_cons_of_mem _ (List.mem_append_right _ (List.mem_append_right _ (List.mem_append_left _ h))))) zg_j178_X12_costOf)) rfl rfl rfl (by decide +kernel) ⟨Nat.le_of_ble_eq_true rfl, Nat.le_of_ble_eq_true rfl⟩ 0 rfl rfl rfl rfl (Nat.le_of_ble_eq_true rfl) ⟨Nat.le_of_ble_eq_true rfl, Nat.le_of_ble_eq_true rfl⟩ dX12_endsOf_39 (fun v ty' w' hp hk' => ?_)
  obtain ⟨y20464, rfl, rfl⟩ := hp
  show GW κ 1 0 0 (wM r g I A L) 42 [(0, .ref (r 0))] [.int y20464, .int y20460]
  have b20465l := Int32.le_toInt y20460
  have b20465h := Int32.toInt_lt y20460
  have b20466l := Int32.le_toInt y20464
  have b20466h := Int32.toInt_lt y20464
  refine g_iadd hk dX12_endsOf_42 ?_
  refine g_topi (fun y20467 ey20467 => ?_)
  have b20468l := Int32.le_toInt y20467
  have b20468h := Int32.toInt_lt y20467
  exact g_iret hk hR rfl ⟨y20467, rfl, rfl⟩ dX12_endsOf_43
def wo_j179_X12_bound : List Cond := [Cond.methodLink RX12 342 yX12_isOf, Cond.instanceMethod yX12_isOf, Cond.selects RX12 yX12_isOf yX12_isOf, Cond.initialized RX12, Cond.methodLink RX12 244 yX12_in, Cond.static yX12_in, Cond.methodLink RX12 323 yX12_copies, Cond.instanceMethod yX12_copies, Cond.selects RX12 yX12_copies yX12_copies, Cond.methodLink RX12 301 yX12_laysBoth, Cond.instanceMethod yX12_laysBoth, Cond.selects RX12 yX12_laysBoth yX12_laysBoth, Cond.methodLink RX12 317 yX12_backOf, Cond.instanceMethod yX12_backOf, Cond.selects RX12 yX12_backOf yX12_backOf, Cond.methodLink RX12 308 yX12_overOf, Cond.instanceMethod yX12_overOf, Cond.selects RX12 yX12_overOf yX12_overOf, Cond.methodLink RX12 314 yX12_endsOf, Cond.instanceMethod yX12_endsOf, Cond.selects RX12 yX12_endsOf yX12_endsOf]
def wz_j179_X12_bound : List Cond := .code yX12_bound cX12_bound 4 (some .int) :: (wo_j179_X12_bound ++ (wz_j168_X12_isOf ++ (wz_j145_X12_in ++ (wz_j151_X12_copies ++ (wz_j170_X12_laysBoth ++ (wz_j180_X12_backOf ++ (wz_j181_X12_overOf ++ (wz_j182_X12_endsOf ++ ([] : List Cond)))))))))
theorem zg_j179_X12_bound : ∀ w ∈ wz_j179_X12_bound, goodWord w = true := zg_cons rfl (zg_app (by decide +kernel) (zg_app zg_j168_X12_isOf (zg_app zg_j145_X12_in (zg_app zg_j151_X12_copies (zg_app zg_j170_X12_laysBoth (zg_app zg_j180_X12_backOf (zg_app zg_j181_X12_overOf (zg_app zg_j182_X12_endsOf zg_nil))))))))
theorem zi_j179_X12_bound : ∀ w ∈ wz_j179_X12_bound, w ∈ lw_tbl := zi_cons zw_1802 (zi_app (zi_cons zw_1755 (zi_cons zw_1757 (zi_cons zw_78 (zi_cons zw_115 (zi_cons zw_1656 (zi_cons zw_1657 (zi_cons zw_1679 (zi_cons zw_1681 (zi_cons zw_70 (zi_cons zw_1763 (zi_cons zw_1765 (zi_cons zw_80 (zi_cons zw_1812 (zi_cons zw_1814 (zi_cons zw_90 (zi_cons zw_1807 (zi_cons zw_1809 (zi_cons zw_89 (zi_cons zw_1803 (zi_cons zw_1805 (zi_cons zw_88 zi_nil))))))))))))))))))))) (zi_app zi_j168_X12_isOf (zi_app zi_j145_X12_in (zi_app zi_j151_X12_copies (zi_app zi_j170_X12_laysBoth (zi_app zi_j180_X12_backOf (zi_app zi_j181_X12_overOf (zi_app zi_j182_X12_endsOf zi_nil))))))))
set_option maxHeartbeats 4000000 in
set_option maxRecDepth 100000 in
theorem j179_X12_bound (l : Launch) (D : va_G) (zt : Nat × Nat × Nat × (Nat → Nat) × (Nat → Nat)) (r : Nat → Nat) (g : Nat → ClassId) (I : Nat → Int32) (A : Nat → Nat → Int32) (L : Nat → Nat → Int64) (z1 : Int32) (z2 : Int32) (z3 : Int32) (hIv : IvM I A) : GM l D zt (tyM g) yX12_bound wz_j179_X12_bound ({ frames := 4, cells := 0, slots := 0, locals := 94 } : Room) [.ref (r 0), .int z1, .int z2, .int z3] (wM r g I A L) (fun v _ w' => ∃ (I' : Nat → Int32) (A' : Nat → Nat → Int32) (L' : Nat → Nat → Int64), Md [18] I I' ∧ Md [18, 19, 20] A A' ∧ IvM I' A' ∧ ∃ y0 : Int32, v = some (.int y0) ∧ w' = wM r g I' A' L') 0 0 := by
  refine GM.of (cc := cX12_bound) (maxL := 4) (ret := (some .int)) (own := RX12) (lv := [(0, .ref (r 0)), (1, .int z1), (2, .int z2), (3, .int z3)]) (by decide) rfl rfl (Nat.le_of_ble_eq_true rfl) rfl (fun κ sz hk hR hN => ?_)
  refine g_aload_n hk dX12_bound_0 rfl ?_
  refine g_iload_n hk dX12_bound_1 rfl ?_
  refine g_iload_n hk dX12_bound_2 rfl ?_
  refine g_callV (n := 2) hk (j168_X12_isOf l D zt r g I A L z1 z2 hIv) (SP.same _) (fun _ h => h) (gi_V (List.mem_cons_of_mem _ (List.mem_append_left _ (List.mem_of_getElem? (i := 0) rfl))) (List.mem_cons_of_mem _ (List.mem_append_left _ (List.mem_of_getElem? (i := 1) rfl))) (List.mem_cons_of_mem _ (List.mem_append_left _ (List.mem_of_getElem? (i := 2) rfl))) (List.mem_cons_of_mem _ (List.mem_append_left _ (List.mem_of_getElem? (i := 3) rfl))) (gi_sub (fun w h => (List.mem_cons_of_mem _ (List.mem_append_right _ (List.mem_append_left _ h)))) zg_j168_X12_isOf)) rfl rfl rfl (by decide +kernel) ⟨Nat.le_of_ble_eq_true rfl, Nat.le_of_ble_eq_true rfl⟩ 0 rfl rfl rfl rfl (Nat.le_of_ble_eq_true rfl) ⟨Nat.le_of_ble_eq_true rfl, Nat.le_of_ble_eq_true rfl⟩ dX12_bound_3 (fun v ty' w' hp hk' => ?_)
  rcases hp with ⟨rfl, rfl⟩ | ⟨c19444, c19445, c19446, c19447, c19448, c19449, c19450, c19451, c19452, c19453, c19454, c19455, rfl, rfl⟩
  · skip
    show GW κ 4 0 0 (wM r g I A L) 6 [(0, .ref (r 0)), (1, .int z1), (2, .int z2), (3, .int z3)] [.int 0]
    refine g_if_eq (tgt := 18) (a := 0) hk dX12_bound_6 (by decide) rfl (fun _ => ?_) (fun z9 => absurd (show (0 : Int) = (0 : Int) from by decide) z9)
    refine g_iconst (v := (-1)) hk dX12_bound_18 (by decide) ?_
    exact g_iret hk hR rfl ⟨I, A, L, (show Md [18] I I from Md.rf), (show Md [18, 19, 20] A A from Md.rf), hIv, (-1), rfl, rfl⟩ dX12_bound_19
  · skip
    have f19457 : 0 ≤ (A 11 (5 * (I 15) + z1).toNatClampNeg).toInt ∧ (A 11 (5 * (I 15) + z1).toNatClampNeg).toInt ≤ 16 := IvM_a11 hIv _
    show GW κ 4 0 0 (wM r g I A L) 6 [(0, .ref (r 0)), (1, .int z1), (2, .int z2), (3, .int z3)] [.int 1]
    refine g_if_eq (tgt := 18) (a := 1) hk dX12_bound_6 (by decide) rfl (fun z9 => absurd z9 (show ¬ ((1 : Int) = (0 : Int)) from by decide)) (fun _ => ?_)
    refine g_iload_n hk dX12_bound_9 rfl ?_
    refine g_iconst (v := 0) hk dX12_bound_10 (by decide) ?_
    refine g_iconst (v := 2) hk dX12_bound_11 (by decide) ?_
    have k19458 : (0 : Int32).toInt = 0 := rfl
    have k19459 : (2 : Int32).toInt = 2 := rfl
    refine g_callS (n := 3) hk (j145_X12_in l D zt r g I A L z3 0 2 hIv) (SP.same _) (fun _ h => h) (gi_S (List.mem_cons_of_mem _ (List.mem_append_left _ (List.mem_of_getElem? (i := 4) rfl))) (List.mem_cons_of_mem _ (List.mem_append_left _ (List.mem_of_getElem? (i := 5) rfl))) (List.mem_cons_of_mem _ (List.mem_append_left _ (List.mem_of_getElem? (i := 3) rfl))) (gi_sub (fun w h => (List.mem_cons_of_mem _ (List.mem_append_right _ (List.mem_append_right _ (List.mem_append_left _ h))))) zg_j145_X12_in)) rfl rfl rfl (by decide +kernel) ⟨Nat.le_of_ble_eq_true rfl, Nat.le_of_ble_eq_true rfl⟩ rfl rfl (Nat.le_of_ble_eq_true rfl) ⟨Nat.le_of_ble_eq_true rfl, Nat.le_of_ble_eq_true rfl⟩ dX12_bound_12 (fun v ty' w' hp hk' => ?_)
    rcases hp with ⟨c19460, rfl, rfl⟩ | ⟨c19462, c19463, rfl, rfl⟩
    · skip
      have b19465l := Int32.le_toInt z3
      have b19465h := Int32.toInt_lt z3
      show GW κ 4 0 0 (wM r g I A L) 15 [(0, .ref (r 0)), (1, .int z1), (2, .int z2), (3, .int z3)] [.int 0]
      refine g_if_ne (tgt := 20) (a := 0) hk dX12_bound_15 (by decide) rfl (fun z9 => absurd z9 (show ¬ ((0 : Int) ≠ (0 : Int)) from by decide)) (fun _ => ?_)
      refine g_iconst (v := (-1)) hk dX12_bound_18 (by decide) ?_
      exact g_iret hk hR rfl ⟨I, A, L, (show Md [18] I I from Md.rf), (show Md [18, 19, 20] A A from Md.rf), hIv, (-1), rfl, rfl⟩ dX12_bound_19
    · skip
      show GW κ 4 0 0 (wM r g I A L) 15 [(0, .ref (r 0)), (1, .int z1), (2, .int z2), (3, .int z3)] [.int 1]
      refine g_if_ne (tgt := 20) (a := 1) hk dX12_bound_15 (by decide) rfl (fun _ => ?_) (fun z9 => absurd (show (1 : Int) ≠ (0 : Int) from by decide) z9)
      refine g_aload_n hk dX12_bound_20 rfl ?_
      refine g_callV (n := 0) hk (j151_X12_copies l D zt r g I A L  hIv) (SP.same _) (fun _ h => h) (gi_V (List.mem_cons_of_mem _ (List.mem_append_left _ (List.mem_of_getElem? (i := 6) rfl))) (List.mem_cons_of_mem _ (List.mem_append_left _ (List.mem_of_getElem? (i := 7) rfl))) (List.mem_cons_of_mem _ (List.mem_append_left _ (List.mem_of_getElem? (i := 8) rfl))) (List.mem_cons_of_mem _ (List.mem_append_left _ (List.mem_of_getElem? (i := 3) rfl))) (gi_sub (fun w h => (List.mem_cons_of_mem _ (List.mem_append_right _ (List.mem_append_right _ (List.mem_append_right _ (List.mem_append_left _ h)))))) zg_j151_X12_copies)) rfl rfl rfl (by decide +kernel) ⟨Nat.le_of_ble_eq_true rfl, Nat.le_of_ble_eq_true rfl⟩ 0 rfl rfl rfl rfl (Nat.le_of_ble_eq_true rfl) ⟨Nat.le_of_ble_eq_true rfl, Nat.le_of_ble_eq_true rfl⟩ dX12_bound_21 (fun v ty' w' hp hk' => ?_)
      obtain ⟨I19467, A19467, L19467, hI19467, hA19467, hV19467, r19468, r19469, rfl, rfl⟩ := hp
      have f19470 := IvM_s17_0 hIv
      have f19471 := IvM_s17_164 hIv
      show GW κ 4 0 0 (wM r g I19467 A19467 L19467) 24 [(0, .ref (r 0)), (1, .int z1), (2, .int z2), (3, .int z3)] []
      refine g_aload_n hk dX12_bound_24 rfl ?_
      refine g_iload_n hk dX12_bound_25 rfl ?_
      refine g_iload_n hk dX12_bound_26 rfl ?_
      refine g_callV (n := 2) hk (j170_X12_laysBoth l D zt r g I19467 A19467 L19467 z1 z2 hV19467 (by omega) (by omega) (by omega) (by omega) (by first | (rw [show (A19467 11 (5 * (I19467 15) + z1).toNatClampNeg) = (A 11 (5 * (I 15) + z1).toNatClampNeg) from (by rw [show I19467 15 = (I 15) from (hI19467 15 rfl)]; exact (congrFun (hA19467 11 rfl) _))] <;> omega) | omega) (by first | (rw [show (A19467 11 (5 * (I19467 15) + z1).toNatClampNeg) = (A 11 (5 * (I 15) + z1).toNatClampNeg) from (by rw [show I19467 15 = (I 15) from (hI19467 15 rfl)]; exact (congrFun (hA19467 11 rfl) _))] <;> omega) | omega)) (SP.same _) (fun _ h => h) (gi_V (List.mem_cons_of_mem _ (List.mem_append_left _ (List.mem_of_getElem? (i := 9) rfl))) (List.mem_cons_of_mem _ (List.mem_append_left _ (List.mem_of_getElem? (i := 10) rfl))) (List.mem_cons_of_mem _ (List.mem_append_left _ (List.mem_of_getElem? (i := 11) rfl))) (List.mem_cons_of_mem _ (List.mem_append_left _ (List.mem_of_getElem? (i := 3) rfl))) (gi_sub (fun w h => (List.mem_cons_of_mem _ (List.mem_append_right _ (List.mem_append_right _ (List.mem_append_right _ (List.mem_append_right _ (List.mem_append_left _ h))))))) zg_j170_X12_laysBoth)) rfl rfl rfl (by decide +kernel) ⟨Nat.le_of_ble_eq_true rfl, Nat.le_of_ble_eq_true rfl⟩ 0 rfl rfl rfl rfl (Nat.le_of_ble_eq_true rfl) ⟨Nat.le_of_ble_eq_true rfl, Nat.le_of_ble_eq_true rfl⟩ dX12_bound_27 (fun v ty' w' hp hk' => ?_)
      obtain ⟨I19473, A19473, L19473, hI19473, hA19473, hV19473, r19474, rfl, rfl⟩ := hp
      have f19475 := IvM_f18 hV19473
      show GW κ 4 0 0 (wM r g I19473 A19473 L19473) 30 [(0, .ref (r 0)), (1, .int z1), (2, .int z2), (3, .int z3)] []
      refine g_iload_n hk dX12_bound_30 rfl ?_
      refine g_if_ne (tgt := 41) (a := z3.toInt) hk dX12_bound_31 (by decide) rfl (fun c19476 => ?_) (fun c19476 => ?_)
      · skip
        refine g_iload_n hk dX12_bound_41 rfl ?_
        refine g_iconst (v := 1) hk dX12_bound_42 (by decide) ?_
        refine g_icmp_ne (tgt := 53) (a := z3.toInt) (b := 1) hk dX12_bound_43 (by decide) rfl rfl (fun c19477 => ?_) (fun c19477 => ?_)
        · skip
          refine g_aload_n hk dX12_bound_53 rfl ?_
          refine g_callV (n := 0) hk (j180_X12_backOf l D zt r g I19473 A19473 L19473  hV19473) (SP.same _) (fun _ h => h) (gi_V (List.mem_cons_of_mem _ (List.mem_append_left _ (List.mem_of_getElem? (i := 12) rfl))) (List.mem_cons_of_mem _ (List.mem_append_left _ (List.mem_of_getElem? (i := 13) rfl))) (List.mem_cons_of_mem _ (List.mem_append_left _ (List.mem_of_getElem? (i := 14) rfl))) (List.mem_cons_of_mem _ (List.mem_append_left _ (List.mem_of_getElem? (i := 3) rfl))) (gi_sub (fun w h => (List.mem_cons_of_mem _ (List.mem_append_right _ (List.mem_append_right _ (List.mem_append_right _ (List.mem_append_right _ (List.mem_append_right _ (List.mem_append_left _ h)))))))) zg_j180_X12_backOf)) rfl rfl rfl (by decide +kernel) ⟨Nat.le_of_ble_eq_true rfl, Nat.le_of_ble_eq_true rfl⟩ 0 rfl rfl rfl rfl (Nat.le_of_ble_eq_true rfl) ⟨Nat.le_of_ble_eq_true rfl, Nat.le_of_ble_eq_true rfl⟩ dX12_bound_54 (fun v ty' w' hp hk' => ?_)
          obtain ⟨I20456, A20456, L20456, hI20456, hA20456, hV20456, y20455, rfl, rfl⟩ := hp
          show GW κ 4 0 0 (wM r g I20456 A20456 L20456) 57 [(0, .ref (r 0)), (1, .int z1), (2, .int z2), (3, .int z3)] [.int y20455]
          have b20457l := Int32.le_toInt y20455
          have b20457h := Int32.toInt_lt y20455
          exact g_iret hk hR rfl ⟨I20456, A20456, L20456, (show Md [18] I I20456 from (Md.tr (Md.tr (Md.tr Md.rf hI19467 rfl) hI19473 rfl) hI20456 rfl)), (show Md [18, 19, 20] A A20456 from (Md.tr (Md.tr (Md.tr Md.rf hA19467 rfl) hA19473 rfl) hA20456 rfl)), hV20456, y20455, rfl, rfl⟩ dX12_bound_57
        · skip
          refine g_aload_n hk dX12_bound_46 rfl ?_
          refine g_callV (n := 0) hk (j181_X12_overOf l D zt r g I19473 A19473 L19473  hV19473) (SP.same _) (fun _ h => h) (gi_V (List.mem_cons_of_mem _ (List.mem_append_left _ (List.mem_of_getElem? (i := 15) rfl))) (List.mem_cons_of_mem _ (List.mem_append_left _ (List.mem_of_getElem? (i := 16) rfl))) (List.mem_cons_of_mem _ (List.mem_append_left _ (List.mem_of_getElem? (i := 17) rfl))) (List.mem_cons_of_mem _ (List.mem_append_left _ (List.mem_of_getElem? (i := 3) rfl))) (gi_sub (fun w h => (List.mem_cons_of_mem _ (List.mem_append_right _ (List.mem_append_right _ (List.mem_append_right _ (List.mem_append_right _ (List.mem_append_right _ (List.mem_append_right _ (List.mem_append_left _ h))))))))) zg_j181_X12_overOf)) rfl rfl rfl (by decide +kernel) ⟨Nat.le_of_ble_eq_true rfl, Nat.le_of_ble_eq_true rfl⟩ 0 rfl rfl rfl rfl (Nat.le_of_ble_eq_true rfl) ⟨Nat.le_of_ble_eq_true rfl, Nat.le_of_ble_eq_true rfl⟩ dX12_bound_47 (fun v ty' w' hp hk' => ?_)
          obtain ⟨y20458, rfl, rfl⟩ := hp
          show GW κ 4 0 0 (wM r g I19473 A19473 L19473) 50 [(0, .ref (r 0)), (1, .int z1), (2, .int z2), (3, .int z3)] [.int y20458]
          refine g_goto (tgt := 57) hk dX12_bound_50 (by decide) ?_
          have b20459l := Int32.le_toInt y20458
          have b20459h := Int32.toInt_lt y20458
          exact g_iret hk hR rfl ⟨I19473, A19473, L19473, (show Md [18] I I19473 from (Md.tr (Md.tr Md.rf hI19467 rfl) hI19473 rfl)), (show Md [18, 19, 20] A A19473 from (Md.tr (Md.tr Md.rf hA19467 rfl) hA19473 rfl)), hV19473, y20458, rfl, rfl⟩ dX12_bound_57
      · skip
        refine g_aload_n hk dX12_bound_34 rfl ?_
        refine g_callV (n := 0) hk (j182_X12_endsOf l D zt r g I19473 A19473 L19473  hV19473 (by omega)) (SP.same _) (fun _ h => h) (gi_V (List.mem_cons_of_mem _ (List.mem_append_left _ (List.mem_of_getElem? (i := 18) rfl))) (List.mem_cons_of_mem _ (List.mem_append_left _ (List.mem_of_getElem? (i := 19) rfl))) (List.mem_cons_of_mem _ (List.mem_append_left _ (List.mem_of_getElem? (i := 20) rfl))) (List.mem_cons_of_mem _ (List.mem_append_left _ (List.mem_of_getElem? (i := 3) rfl))) (gi_sub (fun w h => (List.mem_cons_of_mem _ (List.mem_append_right _ (List.mem_append_right _ (List.mem_append_right _ (List.mem_append_right _ (List.mem_append_right _ (List.mem_append_right _ (List.mem_append_right _ (List.mem_append_left _ h)))))))))) zg_j182_X12_endsOf)) rfl rfl rfl (by decide +kernel) ⟨Nat.le_of_ble_eq_true rfl, Nat.le_of_ble_eq_true rfl⟩ 0 rfl rfl rfl rfl (Nat.le_of_ble_eq_true rfl) ⟨Nat.le_of_ble_eq_true rfl, Nat.le_of_ble_eq_true rfl⟩ dX12_bound_35 (fun v ty' w' hp hk' => ?_)
        obtain ⟨y20469, rfl, rfl⟩ := hp
        show GW κ 4 0 0 (wM r g I19473 A19473 L19473) 38 [(0, .ref (r 0)), (1, .int z1), (2, .int z2), (3, .int z3)] [.int y20469]
        refine g_goto (tgt := 57) hk dX12_bound_38 (by decide) ?_
        have b20470l := Int32.le_toInt y20469
        have b20470h := Int32.toInt_lt y20469
        exact g_iret hk hR rfl ⟨I19473, A19473, L19473, (show Md [18] I I19473 from (Md.tr (Md.tr Md.rf hI19467 rfl) hI19473 rfl)), (show Md [18, 19, 20] A A19473 from (Md.tr (Md.tr Md.rf hA19467 rfl) hA19473 rfl)), hV19473, y20469, rfl, rfl⟩ dX12_bound_57
def wo_j184_X12_passes : List Cond := [Cond.methodLink RX12 301 yX12_laysBoth, Cond.instanceMethod yX12_laysBoth, Cond.selects RX12 yX12_laysBoth yX12_laysBoth, Cond.initialized RX12, Cond.fieldLink RX12 292 "WarpDeskModel" "laid" "I", Cond.fieldLink RX12 295 "WarpDeskModel" "brokeAt" "I", Cond.constant RX12 282 (2000000000), Cond.fieldLink RX12 311 "WarpDeskModel" "looksAt" "I", Cond.methodLink RX12 314 yX12_endsOf, Cond.instanceMethod yX12_endsOf, Cond.selects RX12 yX12_endsOf yX12_endsOf, Cond.methodLink RX12 308 yX12_overOf, Cond.instanceMethod yX12_overOf, Cond.selects RX12 yX12_overOf yX12_overOf, Cond.methodLink RX12 317 yX12_backOf, Cond.instanceMethod yX12_backOf, Cond.selects RX12 yX12_backOf yX12_backOf, Cond.methodLink RX12 304 yX12_laysTable, Cond.instanceMethod yX12_laysTable, Cond.selects RX12 yX12_laysTable yX12_laysTable]
def wz_j184_X12_passes : List Cond := .code yX12_passes cX12_passes 4 (some .int) :: (wo_j184_X12_passes ++ (wsX120 ++ (wz_j170_X12_laysBoth ++ (wz_j182_X12_endsOf ++ (wz_j181_X12_overOf ++ (wz_j180_X12_backOf ++ (wz_j173_X12_laysTable ++ ([] : List Cond))))))))
theorem zg_j184_X12_passes : ∀ w ∈ wz_j184_X12_passes, goodWord w = true := zg_cons rfl (zg_app (by decide +kernel) (zg_app zgU_wsX120 (zg_app zg_j170_X12_laysBoth (zg_app zg_j182_X12_endsOf (zg_app zg_j181_X12_overOf (zg_app zg_j180_X12_backOf (zg_app zg_j173_X12_laysTable zg_nil)))))))
theorem zi_j184_X12_passes : ∀ w ∈ wz_j184_X12_passes, w ∈ lw_tbl := zi_cons zw_1823 (zi_app (zi_cons zw_1763 (zi_cons zw_1765 (zi_cons zw_80 (zi_cons zw_115 (zi_cons zw_1419 (zi_cons zw_1420 (zi_cons zw_1775 (zi_cons zw_1421 (zi_cons zw_1803 (zi_cons zw_1805 (zi_cons zw_88 (zi_cons zw_1807 (zi_cons zw_1809 (zi_cons zw_89 (zi_cons zw_1812 (zi_cons zw_1814 (zi_cons zw_90 (zi_cons zw_1776 (zi_cons zw_1778 (zi_cons zw_83 zi_nil)))))))))))))))))))) (zi_app inX12 (zi_app zi_j170_X12_laysBoth (zi_app zi_j182_X12_endsOf (zi_app zi_j181_X12_overOf (zi_app zi_j180_X12_backOf (zi_app zi_j173_X12_laysTable zi_nil)))))))
set_option maxHeartbeats 4000000 in
set_option maxRecDepth 100000 in
theorem j184_X12_passes (l : Launch) (D : va_G) (zt : Nat × Nat × Nat × (Nat → Nat) × (Nat → Nat)) (r : Nat → Nat) (g : Nat → ClassId) (I : Nat → Int32) (A : Nat → Nat → Int32) (L : Nat → Nat → Int64) (z1 : Int32) (z2 : Int32) (z3 : Int32) (hIv : IvM I A) (hp0 : 0 ≤ z1.toInt) (hp1 : z1.toInt ≤ 4) (hp2 : 0 ≤ z2.toInt) (hp3 : z2.toInt ≤ 159) (hp4 : 1 ≤ (A 11 (5 * (I 15) + z1).toNatClampNeg).toInt) (hp5 : z2.toInt + (A 11 (5 * (I 15) + z1).toNatClampNeg).toInt ≤ 160) : GM l D zt (tyM g) yX12_passes wz_j184_X12_passes ({ frames := 5, cells := 0, slots := 0, locals := 112 } : Room) [.ref (r 0), .int z1, .int z2, .int z3] (wM r g I A L) (fun v _ w' => ∃ (I' : Nat → Int32) (A' : Nat → Nat → Int32) (L' : Nat → Nat → Int64), Md [18, 19, 20, 21] I I' ∧ Md [19, 20, 21] A A' ∧ IvM I' A' ∧ ∃ y0 : Int32, (0 ≤ y0.toInt) ∧ (y0.toInt ≤ 5) ∧ v = some (.int y0) ∧ w' = wM r g I' A' L') 0 0 := by
  refine GM.of (cc := cX12_passes) (maxL := 4) (ret := (some .int)) (own := RX12) (lv := [(0, .ref (r 0)), (1, .int z1), (2, .int z2), (3, .int z3)]) (by decide) rfl rfl (Nat.le_of_ble_eq_true rfl) rfl (fun κ sz hk hR hN => ?_)
  have hin12 : ∀ w ∈ u_ws RX12 TX12 55, w ∈ wz_j184_X12_passes := fun w h => (List.mem_cons_of_mem _ (List.mem_append_right _ (List.mem_append_left _ h)))
  refine g_aload_n hk dX12_passes_0 rfl ?_
  refine g_iload_n hk dX12_passes_1 rfl ?_
  refine g_iload_n hk dX12_passes_2 rfl ?_
  have f20502 : 0 ≤ (A 11 (5 * (I 15) + z1).toNatClampNeg).toInt ∧ (A 11 (5 * (I 15) + z1).toNatClampNeg).toInt ≤ 16 := IvM_a11 hIv _
  refine g_callV (n := 2) hk (j170_X12_laysBoth l D zt r g I A L z1 z2 hIv (by omega) (by omega) (by omega) (by omega) (by omega) (by omega)) (SP.same _) (fun _ h => h) (gi_V (List.mem_cons_of_mem _ (List.mem_append_left _ (List.mem_of_getElem? (i := 0) rfl))) (List.mem_cons_of_mem _ (List.mem_append_left _ (List.mem_of_getElem? (i := 1) rfl))) (List.mem_cons_of_mem _ (List.mem_append_left _ (List.mem_of_getElem? (i := 2) rfl))) (List.mem_cons_of_mem _ (List.mem_append_left _ (List.mem_of_getElem? (i := 3) rfl))) (gi_sub (fun w h => (List.mem_cons_of_mem _ (List.mem_append_right _ (List.mem_append_right _ (List.mem_append_left _ h))))) zg_j170_X12_laysBoth)) rfl rfl rfl (by decide +kernel) ⟨Nat.le_of_ble_eq_true rfl, Nat.le_of_ble_eq_true rfl⟩ 0 rfl rfl rfl rfl (Nat.le_of_ble_eq_true rfl) ⟨Nat.le_of_ble_eq_true rfl, Nat.le_of_ble_eq_true rfl⟩ dX12_passes_3 (fun v ty' w' hp hk' => ?_)
  obtain ⟨I20504, A20504, L20504, hI20504, hA20504, hV20504, r20505, rfl, rfl⟩ := hp
  have f20506 := IvM_f18 hV20504
  show GW κ 4 0 0 (wM r g I20504 A20504 L20504) 6 [(0, .ref (r 0)), (1, .int z1), (2, .int z2), (3, .int z3)] []
  refine g_aload_n hk dX12_passes_6 rfl ?_
  refine g_iconst (v := 0) hk dX12_passes_7 (by decide) ?_
  refine pM_i19 hk hin12 (List.mem_cons_of_mem _ (List.mem_append_left _ (List.mem_of_getElem? (i := 4) rfl))) dX12_passes_8 ?_
  refine g_aload_n hk dX12_passes_11 rfl ?_
  refine g_iconst (v := (-1)) hk dX12_passes_12 (by decide) ?_
  refine pM_i20 hk hin12 (List.mem_cons_of_mem _ (List.mem_append_left _ (List.mem_of_getElem? (i := 5) rfl))) dX12_passes_13 ?_
  refine g_aload_n hk dX12_passes_16 rfl ?_
  refine g_ldcw (v := 2000000000) hk (List.mem_cons_of_mem _ (List.mem_append_left _ (List.mem_of_getElem? (i := 6) rfl))) dX12_passes_17 ?_
  refine pM_i21 hk hin12 (List.mem_cons_of_mem _ (List.mem_append_left _ (List.mem_of_getElem? (i := 7) rfl))) dX12_passes_20 ?_
  refine g_aload_n hk dX12_passes_23 rfl ?_
  refine g_callV (n := 0) hk (j182_X12_endsOf l D zt r g (upd (upd (upd I20504 19 0) 20 (-1)) 21 2000000000) A20504 L20504  ⟨(IvM_f1 (I := I20504) (A := A20504) hV20504), (IvM_f2 (I := I20504) (A := A20504) hV20504), (IvM_f3 (I := I20504) (A := A20504) hV20504), (IvM_f4 (I := I20504) (A := A20504) hV20504), (IvM_f6 (I := I20504) (A := A20504) hV20504), (IvM_f8 (I := I20504) (A := A20504) hV20504), (IvM_f15 (I := I20504) (A := A20504) hV20504), (IvM_f16 (I := I20504) (A := A20504) hV20504), (IvM_f17 (I := I20504) (A := A20504) hV20504), (IvM_f18 (I := I20504) (A := A20504) hV20504), (IvM_f22 (I := I20504) (A := A20504) hV20504), (IvM_f23 (I := I20504) (A := A20504) hV20504), (IvM_f24 (I := I20504) (A := A20504) hV20504), (IvM_a11 (I := I20504) (A := A20504) hV20504), (IvM_a26 (I := I20504) (A := A20504) hV20504), (IvM_s8_0 (I := I20504) (A := A20504) hV20504), (IvM_s8_1 (I := I20504) (A := A20504) hV20504), (IvM_s10_0 (I := I20504) (A := A20504) hV20504), (IvM_s10_1 (I := I20504) (A := A20504) hV20504), (IvM_s17_0 (I := I20504) (A := A20504) hV20504), (IvM_s17_164 (I := I20504) (A := A20504) hV20504), (IvM_lv (I := I20504) (A := A20504) hV20504), (IvM_sd (I := I20504) (A := A20504) hV20504), (IvM_nq (I := I20504) (A := A20504) hV20504), (IvM_hr (I := I20504) (A := A20504) hV20504), (IvM_hh (I := I20504) (A := A20504) hV20504), trivial⟩ (by first | (rw [show ((upd (upd (upd I20504 19 0) 20 (-1)) 21 2000000000) 18) = (I20504 18) from rfl] <;> omega) | omega)) (SP.same _) (fun _ h => h) (gi_V (List.mem_cons_of_mem _ (List.mem_append_left _ (List.mem_of_getElem? (i := 8) rfl))) (List.mem_cons_of_mem _ (List.mem_append_left _ (List.mem_of_getElem? (i := 9) rfl))) (List.mem_cons_of_mem _ (List.mem_append_left _ (List.mem_of_getElem? (i := 10) rfl))) (List.mem_cons_of_mem _ (List.mem_append_left _ (List.mem_of_getElem? (i := 3) rfl))) (gi_sub (fun w h => (List.mem_cons_of_mem _ (List.mem_append_right _ (List.mem_append_right _ (List.mem_append_right _ (List.mem_append_left _ h)))))) zg_j182_X12_endsOf)) rfl rfl rfl (by decide +kernel) ⟨Nat.le_of_ble_eq_true rfl, Nat.le_of_ble_eq_true rfl⟩ 0 rfl rfl rfl rfl (Nat.le_of_ble_eq_true rfl) ⟨Nat.le_of_ble_eq_true rfl, Nat.le_of_ble_eq_true rfl⟩ dX12_passes_24 (fun v ty' w' hp hk' => ?_)
  obtain ⟨y20507, rfl, rfl⟩ := hp
  show GW κ 4 0 0 (wM r g (upd (upd (upd I20504 19 0) 20 (-1)) 21 2000000000) A20504 L20504) 27 [(0, .ref (r 0)), (1, .int z1), (2, .int z2), (3, .int z3)] [.int y20507]
  refine g_iload_n hk dX12_passes_27 rfl ?_
  have b20508l := Int32.le_toInt y20507
  have b20508h := Int32.toInt_lt y20507
  have b20509l := Int32.le_toInt z3
  have b20509h := Int32.toInt_lt z3
  refine g_icmp_lt (tgt := 33) (a := y20507.toInt) (b := z3.toInt) hk dX12_passes_28 (by decide) rfl rfl (fun c20510 => ?_) (fun c20510 => ?_)
  · skip
    refine g_aload_n hk dX12_passes_33 rfl ?_
    refine g_callV (n := 0) hk (j181_X12_overOf l D zt r g (upd (upd (upd I20504 19 0) 20 (-1)) 21 2000000000) A20504 L20504  ⟨(IvM_f1 (I := I20504) (A := A20504) hV20504), (IvM_f2 (I := I20504) (A := A20504) hV20504), (IvM_f3 (I := I20504) (A := A20504) hV20504), (IvM_f4 (I := I20504) (A := A20504) hV20504), (IvM_f6 (I := I20504) (A := A20504) hV20504), (IvM_f8 (I := I20504) (A := A20504) hV20504), (IvM_f15 (I := I20504) (A := A20504) hV20504), (IvM_f16 (I := I20504) (A := A20504) hV20504), (IvM_f17 (I := I20504) (A := A20504) hV20504), (IvM_f18 (I := I20504) (A := A20504) hV20504), (IvM_f22 (I := I20504) (A := A20504) hV20504), (IvM_f23 (I := I20504) (A := A20504) hV20504), (IvM_f24 (I := I20504) (A := A20504) hV20504), (IvM_a11 (I := I20504) (A := A20504) hV20504), (IvM_a26 (I := I20504) (A := A20504) hV20504), (IvM_s8_0 (I := I20504) (A := A20504) hV20504), (IvM_s8_1 (I := I20504) (A := A20504) hV20504), (IvM_s10_0 (I := I20504) (A := A20504) hV20504), (IvM_s10_1 (I := I20504) (A := A20504) hV20504), (IvM_s17_0 (I := I20504) (A := A20504) hV20504), (IvM_s17_164 (I := I20504) (A := A20504) hV20504), (IvM_lv (I := I20504) (A := A20504) hV20504), (IvM_sd (I := I20504) (A := A20504) hV20504), (IvM_nq (I := I20504) (A := A20504) hV20504), (IvM_hr (I := I20504) (A := A20504) hV20504), (IvM_hh (I := I20504) (A := A20504) hV20504), trivial⟩) (SP.same _) (fun _ h => h) (gi_V (List.mem_cons_of_mem _ (List.mem_append_left _ (List.mem_of_getElem? (i := 11) rfl))) (List.mem_cons_of_mem _ (List.mem_append_left _ (List.mem_of_getElem? (i := 12) rfl))) (List.mem_cons_of_mem _ (List.mem_append_left _ (List.mem_of_getElem? (i := 13) rfl))) (List.mem_cons_of_mem _ (List.mem_append_left _ (List.mem_of_getElem? (i := 3) rfl))) (gi_sub (fun w h => (List.mem_cons_of_mem _ (List.mem_append_right _ (List.mem_append_right _ (List.mem_append_right _ (List.mem_append_right _ (List.mem_append_left _ h))))))) zg_j181_X12_overOf)) rfl rfl rfl (by decide +kernel) ⟨Nat.le_of_ble_eq_true rfl, Nat.le_of_ble_eq_true rfl⟩ 0 rfl rfl rfl rfl (Nat.le_of_ble_eq_true rfl) ⟨Nat.le_of_ble_eq_true rfl, Nat.le_of_ble_eq_true rfl⟩ dX12_passes_34 (fun v ty' w' hp hk' => ?_)
    obtain ⟨y20511, rfl, rfl⟩ := hp
    show GW κ 4 0 0 (wM r g (upd (upd (upd I20504 19 0) 20 (-1)) 21 2000000000) A20504 L20504) 37 [(0, .ref (r 0)), (1, .int z1), (2, .int z2), (3, .int z3)] [.int y20511]
    refine g_iload_n hk dX12_passes_37 rfl ?_
    have b20512l := Int32.le_toInt y20511
    have b20512h := Int32.toInt_lt y20511
    refine g_icmp_lt (tgt := 43) (a := y20511.toInt) (b := z3.toInt) hk dX12_passes_38 (by decide) rfl rfl (fun c20513 => ?_) (fun c20513 => ?_)
    · skip
      refine g_aload_n hk dX12_passes_43 rfl ?_
      refine g_callV (n := 0) hk (j180_X12_backOf l D zt r g (upd (upd (upd I20504 19 0) 20 (-1)) 21 2000000000) A20504 L20504  ⟨(IvM_f1 (I := I20504) (A := A20504) hV20504), (IvM_f2 (I := I20504) (A := A20504) hV20504), (IvM_f3 (I := I20504) (A := A20504) hV20504), (IvM_f4 (I := I20504) (A := A20504) hV20504), (IvM_f6 (I := I20504) (A := A20504) hV20504), (IvM_f8 (I := I20504) (A := A20504) hV20504), (IvM_f15 (I := I20504) (A := A20504) hV20504), (IvM_f16 (I := I20504) (A := A20504) hV20504), (IvM_f17 (I := I20504) (A := A20504) hV20504), (IvM_f18 (I := I20504) (A := A20504) hV20504), (IvM_f22 (I := I20504) (A := A20504) hV20504), (IvM_f23 (I := I20504) (A := A20504) hV20504), (IvM_f24 (I := I20504) (A := A20504) hV20504), (IvM_a11 (I := I20504) (A := A20504) hV20504), (IvM_a26 (I := I20504) (A := A20504) hV20504), (IvM_s8_0 (I := I20504) (A := A20504) hV20504), (IvM_s8_1 (I := I20504) (A := A20504) hV20504), (IvM_s10_0 (I := I20504) (A := A20504) hV20504), (IvM_s10_1 (I := I20504) (A := A20504) hV20504), (IvM_s17_0 (I := I20504) (A := A20504) hV20504), (IvM_s17_164 (I := I20504) (A := A20504) hV20504), (IvM_lv (I := I20504) (A := A20504) hV20504), (IvM_sd (I := I20504) (A := A20504) hV20504), (IvM_nq (I := I20504) (A := A20504) hV20504), (IvM_hr (I := I20504) (A := A20504) hV20504), (IvM_hh (I := I20504) (A := A20504) hV20504), trivial⟩) (SP.same _) (fun _ h => h) (gi_V (List.mem_cons_of_mem _ (List.mem_append_left _ (List.mem_of_getElem? (i := 14) rfl))) (List.mem_cons_of_mem _ (List.mem_append_left _ (List.mem_of_getElem? (i := 15) rfl))) (List.mem_cons_of_mem _ (List.mem_append_left _ (List.mem_of_getElem? (i := 16) rfl))) (List.mem_cons_of_mem _ (List.mem_append_left _ (List.mem_of_getElem? (i := 3) rfl))) (gi_sub (fun w h => (List.mem_cons_of_mem _ (List.mem_append_right _ (List.mem_append_right _ (List.mem_append_right _ (List.mem_append_right _ (List.mem_append_right _ (List.mem_append_left _ h)))))))) zg_j180_X12_backOf)) rfl rfl rfl (by decide +kernel) ⟨Nat.le_of_ble_eq_true rfl, Nat.le_of_ble_eq_true rfl⟩ 0 rfl rfl rfl rfl (Nat.le_of_ble_eq_true rfl) ⟨Nat.le_of_ble_eq_true rfl, Nat.le_of_ble_eq_true rfl⟩ dX12_passes_44 (fun v ty' w' hp hk' => ?_)
      obtain ⟨I20515, A20515, L20515, hI20515, hA20515, hV20515, y20514, rfl, rfl⟩ := hp
      show GW κ 4 0 0 (wM r g I20515 A20515 L20515) 47 [(0, .ref (r 0)), (1, .int z1), (2, .int z2), (3, .int z3)] [.int y20514]
      refine g_iload_n hk dX12_passes_47 rfl ?_
      have b20516l := Int32.le_toInt y20514
      have b20516h := Int32.toInt_lt y20514
      refine g_icmp_lt (tgt := 53) (a := y20514.toInt) (b := z3.toInt) hk dX12_passes_48 (by decide) rfl rfl (fun c20517 => ?_) (fun c20517 => ?_)
      · skip
        refine g_aload_n hk dX12_passes_53 rfl ?_
        refine g_aload_n hk dX12_passes_54 rfl ?_
        refine g_iload_n hk dX12_passes_55 rfl ?_
        refine g_callV (n := 1) hk (j173_X12_laysTable l D zt r g I20515 A20515 L20515 z3 hV20515) (SP.same _) (fun _ h => h) (gi_V (List.mem_cons_of_mem _ (List.mem_append_left _ (List.mem_of_getElem? (i := 17) rfl))) (List.mem_cons_of_mem _ (List.mem_append_left _ (List.mem_of_getElem? (i := 18) rfl))) (List.mem_cons_of_mem _ (List.mem_append_left _ (List.mem_of_getElem? (i := 19) rfl))) (List.mem_cons_of_mem _ (List.mem_append_left _ (List.mem_of_getElem? (i := 3) rfl))) (gi_sub (fun w h => (List.mem_cons_of_mem _ (List.mem_append_right _ (List.mem_append_right _ (List.mem_append_right _ (List.mem_append_right _ (List.mem_append_right _ (List.mem_append_right _ (List.mem_append_left _ h))))))))) zg_j173_X12_laysTable)) rfl rfl rfl (by decide +kernel) ⟨Nat.le_of_ble_eq_true rfl, Nat.le_of_ble_eq_true rfl⟩ 0 rfl rfl rfl rfl (Nat.le_of_ble_eq_true rfl) ⟨Nat.le_of_ble_eq_true rfl, Nat.le_of_ble_eq_true rfl⟩ dX12_passes_56 (fun v ty' w' hp hk' => ?_)
        obtain ⟨I20519, A20519, L20519, hI20519, hA20519, hV20519, y20518, rfl, rfl⟩ := hp
        show GW κ 4 0 0 (wM r g I20519 A20519 L20519) 59 [(0, .ref (r 0)), (1, .int z1), (2, .int z2), (3, .int z3)] [.int y20518, .ref (r 0)]
        refine pM_i21 hk hin12 (List.mem_cons_of_mem _ (List.mem_append_left _ (List.mem_of_getElem? (i := 7) rfl))) dX12_passes_59 ?_
        refine g_aload_n hk dX12_passes_62 rfl ?_
        refine gM_i20 (v := (I20519 20)) hk hin12 (List.mem_cons_of_mem _ (List.mem_append_left _ (List.mem_of_getElem? (i := 5) rfl))) dX12_passes_63 rfl ?_
        have b20520l := Int32.le_toInt (I20519 20)
        have b20520h := Int32.toInt_lt (I20519 20)
        refine g_if_lt (tgt := 73) (a := (I20519 20).toInt) hk dX12_passes_66 (by decide) rfl (fun c20521 => ?_) (fun c20521 => ?_)
        · skip
          refine g_aload_n hk dX12_passes_73 rfl ?_
          refine gM_i21 (v := y20518) hk hin12 (List.mem_cons_of_mem _ (List.mem_append_left _ (List.mem_of_getElem? (i := 7) rfl))) dX12_passes_74 rfl ?_
          refine g_iload_n hk dX12_passes_77 rfl ?_
          have b20522l := Int32.le_toInt y20518
          have b20522h := Int32.toInt_lt y20518
          refine g_icmp_lt (tgt := 85) (a := y20518.toInt) (b := z3.toInt) hk dX12_passes_78 (by decide) rfl rfl (fun c20523 => ?_) (fun c20523 => ?_)
          · skip
            refine g_iconst (v := 0) hk dX12_passes_85 (by decide) ?_
            exact g_iret hk hR rfl ⟨(upd I20519 21 y20518), A20519, L20519, (show Md [18, 19, 20, 21] I (upd I20519 21 y20518) from (Md.up (Md.tr (Md.tr (Md.up (Md.up (Md.up (Md.tr Md.rf hI20504 rfl) rfl) rfl) rfl) hI20515 rfl) hI20519 rfl) rfl)), (show Md [19, 20, 21] A A20519 from (Md.tr (Md.tr (Md.tr Md.rf hA20504 rfl) hA20515 rfl) hA20519 rfl)), ⟨(IvM_f1 (I := I20519) (A := A20519) hV20519), (IvM_f2 (I := I20519) (A := A20519) hV20519), (IvM_f3 (I := I20519) (A := A20519) hV20519), (IvM_f4 (I := I20519) (A := A20519) hV20519), (IvM_f6 (I := I20519) (A := A20519) hV20519), (IvM_f8 (I := I20519) (A := A20519) hV20519), (IvM_f15 (I := I20519) (A := A20519) hV20519), (IvM_f16 (I := I20519) (A := A20519) hV20519), (IvM_f17 (I := I20519) (A := A20519) hV20519), (IvM_f18 (I := I20519) (A := A20519) hV20519), (IvM_f22 (I := I20519) (A := A20519) hV20519), (IvM_f23 (I := I20519) (A := A20519) hV20519), (IvM_f24 (I := I20519) (A := A20519) hV20519), (IvM_a11 (I := I20519) (A := A20519) hV20519), (IvM_a26 (I := I20519) (A := A20519) hV20519), (IvM_s8_0 (I := I20519) (A := A20519) hV20519), (IvM_s8_1 (I := I20519) (A := A20519) hV20519), (IvM_s10_0 (I := I20519) (A := A20519) hV20519), (IvM_s10_1 (I := I20519) (A := A20519) hV20519), (IvM_s17_0 (I := I20519) (A := A20519) hV20519), (IvM_s17_164 (I := I20519) (A := A20519) hV20519), (IvM_lv (I := I20519) (A := A20519) hV20519), (IvM_sd (I := I20519) (A := A20519) hV20519), (IvM_nq (I := I20519) (A := A20519) hV20519), (IvM_hr (I := I20519) (A := A20519) hV20519), (IvM_hh (I := I20519) (A := A20519) hV20519), trivial⟩, 0, (by decide), (by decide), rfl, rfl⟩ dX12_passes_86
          · skip
            refine g_iconst (v := 5) hk dX12_passes_81 (by decide) ?_
            refine g_goto (tgt := 86) hk dX12_passes_82 (by decide) ?_
            exact g_iret hk hR rfl ⟨(upd I20519 21 y20518), A20519, L20519, (show Md [18, 19, 20, 21] I (upd I20519 21 y20518) from (Md.up (Md.tr (Md.tr (Md.up (Md.up (Md.up (Md.tr Md.rf hI20504 rfl) rfl) rfl) rfl) hI20515 rfl) hI20519 rfl) rfl)), (show Md [19, 20, 21] A A20519 from (Md.tr (Md.tr (Md.tr Md.rf hA20504 rfl) hA20515 rfl) hA20519 rfl)), ⟨(IvM_f1 (I := I20519) (A := A20519) hV20519), (IvM_f2 (I := I20519) (A := A20519) hV20519), (IvM_f3 (I := I20519) (A := A20519) hV20519), (IvM_f4 (I := I20519) (A := A20519) hV20519), (IvM_f6 (I := I20519) (A := A20519) hV20519), (IvM_f8 (I := I20519) (A := A20519) hV20519), (IvM_f15 (I := I20519) (A := A20519) hV20519), (IvM_f16 (I := I20519) (A := A20519) hV20519), (IvM_f17 (I := I20519) (A := A20519) hV20519), (IvM_f18 (I := I20519) (A := A20519) hV20519), (IvM_f22 (I := I20519) (A := A20519) hV20519), (IvM_f23 (I := I20519) (A := A20519) hV20519), (IvM_f24 (I := I20519) (A := A20519) hV20519), (IvM_a11 (I := I20519) (A := A20519) hV20519), (IvM_a26 (I := I20519) (A := A20519) hV20519), (IvM_s8_0 (I := I20519) (A := A20519) hV20519), (IvM_s8_1 (I := I20519) (A := A20519) hV20519), (IvM_s10_0 (I := I20519) (A := A20519) hV20519), (IvM_s10_1 (I := I20519) (A := A20519) hV20519), (IvM_s17_0 (I := I20519) (A := A20519) hV20519), (IvM_s17_164 (I := I20519) (A := A20519) hV20519), (IvM_lv (I := I20519) (A := A20519) hV20519), (IvM_sd (I := I20519) (A := A20519) hV20519), (IvM_nq (I := I20519) (A := A20519) hV20519), (IvM_hr (I := I20519) (A := A20519) hV20519), (IvM_hh (I := I20519) (A := A20519) hV20519), trivial⟩, 5, (by decide), (by decide), rfl, rfl⟩ dX12_passes_86
        · skip
          refine g_iconst (v := 4) hk dX12_passes_69 (by decide) ?_
          refine g_goto (tgt := 86) hk dX12_passes_70 (by decide) ?_
          exact g_iret hk hR rfl ⟨(upd I20519 21 y20518), A20519, L20519, (show Md [18, 19, 20, 21] I (upd I20519 21 y20518) from (Md.up (Md.tr (Md.tr (Md.up (Md.up (Md.up (Md.tr Md.rf hI20504 rfl) rfl) rfl) rfl) hI20515 rfl) hI20519 rfl) rfl)), (show Md [19, 20, 21] A A20519 from (Md.tr (Md.tr (Md.tr Md.rf hA20504 rfl) hA20515 rfl) hA20519 rfl)), ⟨(IvM_f1 (I := I20519) (A := A20519) hV20519), (IvM_f2 (I := I20519) (A := A20519) hV20519), (IvM_f3 (I := I20519) (A := A20519) hV20519), (IvM_f4 (I := I20519) (A := A20519) hV20519), (IvM_f6 (I := I20519) (A := A20519) hV20519), (IvM_f8 (I := I20519) (A := A20519) hV20519), (IvM_f15 (I := I20519) (A := A20519) hV20519), (IvM_f16 (I := I20519) (A := A20519) hV20519), (IvM_f17 (I := I20519) (A := A20519) hV20519), (IvM_f18 (I := I20519) (A := A20519) hV20519), (IvM_f22 (I := I20519) (A := A20519) hV20519), (IvM_f23 (I := I20519) (A := A20519) hV20519), (IvM_f24 (I := I20519) (A := A20519) hV20519), (IvM_a11 (I := I20519) (A := A20519) hV20519), (IvM_a26 (I := I20519) (A := A20519) hV20519), (IvM_s8_0 (I := I20519) (A := A20519) hV20519), (IvM_s8_1 (I := I20519) (A := A20519) hV20519), (IvM_s10_0 (I := I20519) (A := A20519) hV20519), (IvM_s10_1 (I := I20519) (A := A20519) hV20519), (IvM_s17_0 (I := I20519) (A := A20519) hV20519), (IvM_s17_164 (I := I20519) (A := A20519) hV20519), (IvM_lv (I := I20519) (A := A20519) hV20519), (IvM_sd (I := I20519) (A := A20519) hV20519), (IvM_nq (I := I20519) (A := A20519) hV20519), (IvM_hr (I := I20519) (A := A20519) hV20519), (IvM_hh (I := I20519) (A := A20519) hV20519), trivial⟩, 4, (by decide), (by decide), rfl, rfl⟩ dX12_passes_86
      · skip
        refine g_iconst (v := 3) hk dX12_passes_51 (by decide) ?_
        exact g_iret hk hR rfl ⟨I20515, A20515, L20515, (show Md [18, 19, 20, 21] I I20515 from (Md.tr (Md.up (Md.up (Md.up (Md.tr Md.rf hI20504 rfl) rfl) rfl) rfl) hI20515 rfl)), (show Md [19, 20, 21] A A20515 from (Md.tr (Md.tr Md.rf hA20504 rfl) hA20515 rfl)), hV20515, 3, (by decide), (by decide), rfl, rfl⟩ dX12_passes_52
    · skip
      refine g_iconst (v := 2) hk dX12_passes_41 (by decide) ?_
      exact g_iret hk hR rfl ⟨(upd (upd (upd I20504 19 0) 20 (-1)) 21 2000000000), A20504, L20504, (show Md [18, 19, 20, 21] I (upd (upd (upd I20504 19 0) 20 (-1)) 21 2000000000) from (Md.up (Md.up (Md.up (Md.tr Md.rf hI20504 rfl) rfl) rfl) rfl)), (show Md [19, 20, 21] A A20504 from (Md.tr Md.rf hA20504 rfl)), ⟨(IvM_f1 (I := I20504) (A := A20504) hV20504), (IvM_f2 (I := I20504) (A := A20504) hV20504), (IvM_f3 (I := I20504) (A := A20504) hV20504), (IvM_f4 (I := I20504) (A := A20504) hV20504), (IvM_f6 (I := I20504) (A := A20504) hV20504), (IvM_f8 (I := I20504) (A := A20504) hV20504), (IvM_f15 (I := I20504) (A := A20504) hV20504), (IvM_f16 (I := I20504) (A := A20504) hV20504), (IvM_f17 (I := I20504) (A := A20504) hV20504), (IvM_f18 (I := I20504) (A := A20504) hV20504), (IvM_f22 (I := I20504) (A := A20504) hV20504), (IvM_f23 (I := I20504) (A := A20504) hV20504), (IvM_f24 (I := I20504) (A := A20504) hV20504), (IvM_a11 (I := I20504) (A := A20504) hV20504), (IvM_a26 (I := I20504) (A := A20504) hV20504), (IvM_s8_0 (I := I20504) (A := A20504) hV20504), (IvM_s8_1 (I := I20504) (A := A20504) hV20504), (IvM_s10_0 (I := I20504) (A := A20504) hV20504), (IvM_s10_1 (I := I20504) (A := A20504) hV20504), (IvM_s17_0 (I := I20504) (A := A20504) hV20504), (IvM_s17_164 (I := I20504) (A := A20504) hV20504), (IvM_lv (I := I20504) (A := A20504) hV20504), (IvM_sd (I := I20504) (A := A20504) hV20504), (IvM_nq (I := I20504) (A := A20504) hV20504), (IvM_hr (I := I20504) (A := A20504) hV20504), (IvM_hh (I := I20504) (A := A20504) hV20504), trivial⟩, 2, (by decide), (by decide), rfl, rfl⟩ dX12_passes_42
  · skip
    refine g_iconst (v := 1) hk dX12_passes_31 (by decide) ?_
    exact g_iret hk hR rfl ⟨(upd (upd (upd I20504 19 0) 20 (-1)) 21 2000000000), A20504, L20504, (show Md [18, 19, 20, 21] I (upd (upd (upd I20504 19 0) 20 (-1)) 21 2000000000) from (Md.up (Md.up (Md.up (Md.tr Md.rf hI20504 rfl) rfl) rfl) rfl)), (show Md [19, 20, 21] A A20504 from (Md.tr Md.rf hA20504 rfl)), ⟨(IvM_f1 (I := I20504) (A := A20504) hV20504), (IvM_f2 (I := I20504) (A := A20504) hV20504), (IvM_f3 (I := I20504) (A := A20504) hV20504), (IvM_f4 (I := I20504) (A := A20504) hV20504), (IvM_f6 (I := I20504) (A := A20504) hV20504), (IvM_f8 (I := I20504) (A := A20504) hV20504), (IvM_f15 (I := I20504) (A := A20504) hV20504), (IvM_f16 (I := I20504) (A := A20504) hV20504), (IvM_f17 (I := I20504) (A := A20504) hV20504), (IvM_f18 (I := I20504) (A := A20504) hV20504), (IvM_f22 (I := I20504) (A := A20504) hV20504), (IvM_f23 (I := I20504) (A := A20504) hV20504), (IvM_f24 (I := I20504) (A := A20504) hV20504), (IvM_a11 (I := I20504) (A := A20504) hV20504), (IvM_a26 (I := I20504) (A := A20504) hV20504), (IvM_s8_0 (I := I20504) (A := A20504) hV20504), (IvM_s8_1 (I := I20504) (A := A20504) hV20504), (IvM_s10_0 (I := I20504) (A := A20504) hV20504), (IvM_s10_1 (I := I20504) (A := A20504) hV20504), (IvM_s17_0 (I := I20504) (A := A20504) hV20504), (IvM_s17_164 (I := I20504) (A := A20504) hV20504), (IvM_lv (I := I20504) (A := A20504) hV20504), (IvM_sd (I := I20504) (A := A20504) hV20504), (IvM_nq (I := I20504) (A := A20504) hV20504), (IvM_hr (I := I20504) (A := A20504) hV20504), (IvM_hh (I := I20504) (A := A20504) hV20504), trivial⟩, 1, (by decide), (by decide), rfl, rfl⟩ dX12_passes_32
def wo_j183_X12_look : List Cond := [Cond.methodLink RX12 342 yX12_isOf, Cond.instanceMethod yX12_isOf, Cond.selects RX12 yX12_isOf yX12_isOf, Cond.initialized RX12, Cond.methodLink RX12 244 yX12_in, Cond.static yX12_in, Cond.methodLink RX12 323 yX12_copies, Cond.instanceMethod yX12_copies, Cond.selects RX12 yX12_copies yX12_copies, Cond.methodLink RX12 348 yX12_passes, Cond.instanceMethod yX12_passes, Cond.selects RX12 yX12_passes yX12_passes, Cond.fieldLink RX12 295 "WarpDeskModel" "brokeAt" "I", Cond.fieldLink RX12 292 "WarpDeskModel" "laid" "I"]
def wz_j183_X12_look : List Cond := .code yX12_look cX12_look 6 (some .int) :: (wo_j183_X12_look ++ (wsX120 ++ (wz_j168_X12_isOf ++ (wz_j145_X12_in ++ (wz_j151_X12_copies ++ (wz_j184_X12_passes ++ ([] : List Cond)))))))
theorem zg_j183_X12_look : ∀ w ∈ wz_j183_X12_look, goodWord w = true := zg_cons rfl (zg_app (by decide +kernel) (zg_app zgU_wsX120 (zg_app zg_j168_X12_isOf (zg_app zg_j145_X12_in (zg_app zg_j151_X12_copies (zg_app zg_j184_X12_passes zg_nil))))))
theorem zi_j183_X12_look : ∀ w ∈ wz_j183_X12_look, w ∈ lw_tbl := zi_cons zw_1819 (zi_app (zi_cons zw_1755 (zi_cons zw_1757 (zi_cons zw_78 (zi_cons zw_115 (zi_cons zw_1656 (zi_cons zw_1657 (zi_cons zw_1679 (zi_cons zw_1681 (zi_cons zw_70 (zi_cons zw_1820 (zi_cons zw_1822 (zi_cons zw_91 (zi_cons zw_1420 (zi_cons zw_1419 zi_nil)))))))))))))) (zi_app inX12 (zi_app zi_j168_X12_isOf (zi_app zi_j145_X12_in (zi_app zi_j151_X12_copies (zi_app zi_j184_X12_passes zi_nil))))))
set_option maxHeartbeats 4000000 in
set_option maxRecDepth 100000 in
theorem j183_X12_look (l : Launch) (D : va_G) (zt : Nat × Nat × Nat × (Nat → Nat) × (Nat → Nat)) (r : Nat → Nat) (g : Nat → ClassId) (I : Nat → Int32) (A : Nat → Nat → Int32) (L : Nat → Nat → Int64) (z1 : Int32) (z2 : Int32) (z3 : Int32) (z4 : Int32) (hIv : IvM I A) : GM l D zt (tyM g) yX12_look wz_j183_X12_look ({ frames := 6, cells := 0, slots := 0, locals := 135 } : Room) [.ref (r 0), .int z1, .int z2, .int z3, .int z4] (wM r g I A L) (fun v _ w' => ∃ (I' : Nat → Int32) (A' : Nat → Nat → Int32) (L' : Nat → Nat → Int64), Md [18, 19, 20, 21] I I' ∧ Md [18, 19, 20, 21] A A' ∧ IvM I' A' ∧ ∃ y0 : Int32, v = some (.int y0) ∧ w' = wM r g I' A' L') 0 0 := by
  refine GM.of (cc := cX12_look) (maxL := 6) (ret := (some .int)) (own := RX12) (lv := [(0, .ref (r 0)), (1, .int z1), (2, .int z2), (3, .int z3), (4, .int z4)]) (by decide) rfl rfl (Nat.le_of_ble_eq_true rfl) rfl (fun κ sz hk hR hN => ?_)
  have hin12 : ∀ w ∈ u_ws RX12 TX12 55, w ∈ wz_j183_X12_look := fun w h => (List.mem_cons_of_mem _ (List.mem_append_right _ (List.mem_append_left _ h)))
  refine g_aload_n hk dX12_look_0 rfl ?_
  refine g_iload_n hk dX12_look_1 rfl ?_
  refine g_iload_n hk dX12_look_2 rfl ?_
  refine g_callV (n := 2) hk (j168_X12_isOf l D zt r g I A L z1 z2 hIv) (SP.same _) (fun _ h => h) (gi_V (List.mem_cons_of_mem _ (List.mem_append_left _ (List.mem_of_getElem? (i := 0) rfl))) (List.mem_cons_of_mem _ (List.mem_append_left _ (List.mem_of_getElem? (i := 1) rfl))) (List.mem_cons_of_mem _ (List.mem_append_left _ (List.mem_of_getElem? (i := 2) rfl))) (List.mem_cons_of_mem _ (List.mem_append_left _ (List.mem_of_getElem? (i := 3) rfl))) (gi_sub (fun w h => (List.mem_cons_of_mem _ (List.mem_append_right _ (List.mem_append_right _ (List.mem_append_left _ h))))) zg_j168_X12_isOf)) rfl rfl rfl (by decide +kernel) ⟨Nat.le_of_ble_eq_true rfl, Nat.le_of_ble_eq_true rfl⟩ 0 rfl rfl rfl rfl (Nat.le_of_ble_eq_true rfl) ⟨Nat.le_of_ble_eq_true rfl, Nat.le_of_ble_eq_true rfl⟩ dX12_look_3 (fun v ty' w' hp hk' => ?_)
  rcases hp with ⟨rfl, rfl⟩ | ⟨c20472, c20473, c20474, c20475, c20476, c20477, c20478, c20479, c20480, c20481, c20482, c20483, rfl, rfl⟩
  · skip
    show GW κ 6 0 0 (wM r g I A L) 6 [(0, .ref (r 0)), (1, .int z1), (2, .int z2), (3, .int z3), (4, .int z4)] [.int 0]
    refine g_if_eq (tgt := 23) (a := 0) hk dX12_look_6 (by decide) rfl (fun _ => ?_) (fun z9 => absurd (show (0 : Int) = (0 : Int) from by decide) z9)
    refine g_iconst (v := (-1)) hk dX12_look_23 (by decide) ?_
    exact g_iret hk hR rfl ⟨I, A, L, (show Md [18, 19, 20, 21] I I from Md.rf), (show Md [18, 19, 20, 21] A A from Md.rf), hIv, (-1), rfl, rfl⟩ dX12_look_24
  · skip
    have f20485 : 0 ≤ (A 11 (5 * (I 15) + z1).toNatClampNeg).toInt ∧ (A 11 (5 * (I 15) + z1).toNatClampNeg).toInt ≤ 16 := IvM_a11 hIv _
    show GW κ 6 0 0 (wM r g I A L) 6 [(0, .ref (r 0)), (1, .int z1), (2, .int z2), (3, .int z3), (4, .int z4)] [.int 1]
    refine g_if_eq (tgt := 23) (a := 1) hk dX12_look_6 (by decide) rfl (fun z9 => absurd z9 (show ¬ ((1 : Int) = (0 : Int)) from by decide)) (fun _ => ?_)
    refine g_iload_n hk dX12_look_9 rfl ?_
    have b20486l := Int32.le_toInt z3
    have b20486h := Int32.toInt_lt z3
    refine g_if_lt (tgt := 23) (a := z3.toInt) hk dX12_look_10 (by decide) rfl (fun c20487 => ?_) (fun c20487 => ?_)
    · skip
      refine g_iconst (v := (-1)) hk dX12_look_23 (by decide) ?_
      exact g_iret hk hR rfl ⟨I, A, L, (show Md [18, 19, 20, 21] I I from Md.rf), (show Md [18, 19, 20, 21] A A from Md.rf), hIv, (-1), rfl, rfl⟩ dX12_look_24
    · skip
      refine g_iload hk dX12_look_13 rfl ?_
      refine g_iconst (v := 0) hk dX12_look_15 (by decide) ?_
      refine g_iconst (v := 2) hk dX12_look_16 (by decide) ?_
      have k20488 : (0 : Int32).toInt = 0 := rfl
      have k20489 : (2 : Int32).toInt = 2 := rfl
      refine g_callS (n := 3) hk (j145_X12_in l D zt r g I A L z4 0 2 hIv) (SP.same _) (fun _ h => h) (gi_S (List.mem_cons_of_mem _ (List.mem_append_left _ (List.mem_of_getElem? (i := 4) rfl))) (List.mem_cons_of_mem _ (List.mem_append_left _ (List.mem_of_getElem? (i := 5) rfl))) (List.mem_cons_of_mem _ (List.mem_append_left _ (List.mem_of_getElem? (i := 3) rfl))) (gi_sub (fun w h => (List.mem_cons_of_mem _ (List.mem_append_right _ (List.mem_append_right _ (List.mem_append_right _ (List.mem_append_left _ h)))))) zg_j145_X12_in)) rfl rfl rfl (by decide +kernel) ⟨Nat.le_of_ble_eq_true rfl, Nat.le_of_ble_eq_true rfl⟩ rfl rfl (Nat.le_of_ble_eq_true rfl) ⟨Nat.le_of_ble_eq_true rfl, Nat.le_of_ble_eq_true rfl⟩ dX12_look_17 (fun v ty' w' hp hk' => ?_)
      rcases hp with ⟨c20490, rfl, rfl⟩ | ⟨c20492, c20493, rfl, rfl⟩
      · skip
        have b20495l := Int32.le_toInt z4
        have b20495h := Int32.toInt_lt z4
        show GW κ 6 0 0 (wM r g I A L) 20 [(0, .ref (r 0)), (1, .int z1), (2, .int z2), (3, .int z3), (4, .int z4)] [.int 0]
        refine g_if_ne (tgt := 25) (a := 0) hk dX12_look_20 (by decide) rfl (fun z9 => absurd z9 (show ¬ ((0 : Int) ≠ (0 : Int)) from by decide)) (fun _ => ?_)
        refine g_iconst (v := (-1)) hk dX12_look_23 (by decide) ?_
        exact g_iret hk hR rfl ⟨I, A, L, (show Md [18, 19, 20, 21] I I from Md.rf), (show Md [18, 19, 20, 21] A A from Md.rf), hIv, (-1), rfl, rfl⟩ dX12_look_24
      · skip
        show GW κ 6 0 0 (wM r g I A L) 20 [(0, .ref (r 0)), (1, .int z1), (2, .int z2), (3, .int z3), (4, .int z4)] [.int 1]
        refine g_if_ne (tgt := 25) (a := 1) hk dX12_look_20 (by decide) rfl (fun _ => ?_) (fun z9 => absurd (show (1 : Int) ≠ (0 : Int) from by decide) z9)
        refine g_aload_n hk dX12_look_25 rfl ?_
        refine g_callV (n := 0) hk (j151_X12_copies l D zt r g I A L  hIv) (SP.same _) (fun _ h => h) (gi_V (List.mem_cons_of_mem _ (List.mem_append_left _ (List.mem_of_getElem? (i := 6) rfl))) (List.mem_cons_of_mem _ (List.mem_append_left _ (List.mem_of_getElem? (i := 7) rfl))) (List.mem_cons_of_mem _ (List.mem_append_left _ (List.mem_of_getElem? (i := 8) rfl))) (List.mem_cons_of_mem _ (List.mem_append_left _ (List.mem_of_getElem? (i := 3) rfl))) (gi_sub (fun w h => (List.mem_cons_of_mem _ (List.mem_append_right _ (List.mem_append_right _ (List.mem_append_right _ (List.mem_append_right _ (List.mem_append_left _ h))))))) zg_j151_X12_copies)) rfl rfl rfl (by decide +kernel) ⟨Nat.le_of_ble_eq_true rfl, Nat.le_of_ble_eq_true rfl⟩ 0 rfl rfl rfl rfl (Nat.le_of_ble_eq_true rfl) ⟨Nat.le_of_ble_eq_true rfl, Nat.le_of_ble_eq_true rfl⟩ dX12_look_26 (fun v ty' w' hp hk' => ?_)
        obtain ⟨I20497, A20497, L20497, hI20497, hA20497, hV20497, r20498, r20499, rfl, rfl⟩ := hp
        have f20500 := IvM_s17_0 hIv
        have f20501 := IvM_s17_164 hIv
        show GW κ 6 0 0 (wM r g I20497 A20497 L20497) 29 [(0, .ref (r 0)), (1, .int z1), (2, .int z2), (3, .int z3), (4, .int z4)] []
        refine g_aload_n hk dX12_look_29 rfl ?_
        refine g_iload_n hk dX12_look_30 rfl ?_
        refine g_iload_n hk dX12_look_31 rfl ?_
        refine g_iload_n hk dX12_look_32 rfl ?_
        refine g_callV (n := 3) hk (j184_X12_passes l D zt r g I20497 A20497 L20497 z1 z2 z3 hV20497 (by omega) (by omega) (by omega) (by omega) (by first | (rw [show (A20497 11 (5 * (I20497 15) + z1).toNatClampNeg) = (A 11 (5 * (I 15) + z1).toNatClampNeg) from (by rw [show I20497 15 = (I 15) from (hI20497 15 rfl)]; exact (congrFun (hA20497 11 rfl) _))] <;> omega) | omega) (by first | (rw [show (A20497 11 (5 * (I20497 15) + z1).toNatClampNeg) = (A 11 (5 * (I 15) + z1).toNatClampNeg) from (by rw [show I20497 15 = (I 15) from (hI20497 15 rfl)]; exact (congrFun (hA20497 11 rfl) _))] <;> omega) | omega)) (SP.same _) (fun _ h => h) (gi_V (List.mem_cons_of_mem _ (List.mem_append_left _ (List.mem_of_getElem? (i := 9) rfl))) (List.mem_cons_of_mem _ (List.mem_append_left _ (List.mem_of_getElem? (i := 10) rfl))) (List.mem_cons_of_mem _ (List.mem_append_left _ (List.mem_of_getElem? (i := 11) rfl))) (List.mem_cons_of_mem _ (List.mem_append_left _ (List.mem_of_getElem? (i := 3) rfl))) (gi_sub (fun w h => (List.mem_cons_of_mem _ (List.mem_append_right _ (List.mem_append_right _ (List.mem_append_right _ (List.mem_append_right _ (List.mem_append_right _ (List.mem_append_left _ h)))))))) zg_j184_X12_passes)) rfl rfl rfl (by decide +kernel) ⟨Nat.le_of_ble_eq_true rfl, Nat.le_of_ble_eq_true rfl⟩ 0 rfl rfl rfl rfl (Nat.le_of_ble_eq_true rfl) ⟨Nat.le_of_ble_eq_true rfl, Nat.le_of_ble_eq_true rfl⟩ dX12_look_33 (fun v ty' w' hp hk' => ?_)
        obtain ⟨I20527, A20527, L20527, hI20527, hA20527, hV20527, y20524, c20525, c20526, rfl, rfl⟩ := hp
        show GW κ 6 0 0 (wM r g I20527 A20527 L20527) 36 [(0, .ref (r 0)), (1, .int z1), (2, .int z2), (3, .int z3), (4, .int z4)] [.int y20524]
        refine g_istore (lv' := [(5, .int y20524), (0, .ref (r 0)), (1, .int z1), (2, .int z2), (3, .int z3), (4, .int z4)]) hk dX12_look_36 (by decide) rfl ?_
        refine g_iload hk dX12_look_38 rfl ?_
        refine g_if_ne (tgt := 48) (a := z4.toInt) hk dX12_look_40 (by decide) rfl (fun c20528 => ?_) (fun c20528 => ?_)
        · skip
          refine g_iload hk dX12_look_48 rfl ?_
          refine g_iconst (v := 1) hk dX12_look_50 (by decide) ?_
          refine g_icmp_ne (tgt := 61) (a := z4.toInt) (b := 1) hk dX12_look_51 (by decide) rfl rfl (fun c20529 => ?_) (fun c20529 => ?_)
          · skip
            refine g_aload_n hk dX12_look_61 rfl ?_
            refine gM_i20 (v := (I20527 20)) hk hin12 (List.mem_cons_of_mem _ (List.mem_append_left _ (List.mem_of_getElem? (i := 12) rfl))) dX12_look_62 rfl ?_
            have b20530l := Int32.le_toInt (I20527 20)
            have b20530h := Int32.toInt_lt (I20527 20)
            refine g_if_lt (tgt := 75) (a := (I20527 20).toInt) hk dX12_look_65 (by decide) rfl (fun c20531 => ?_) (fun c20531 => ?_)
            · skip
              refine g_bipush (v := (-2)) hk dX12_look_75 (by decide) ?_
              exact g_iret hk hR rfl ⟨I20527, A20527, L20527, (show Md [18, 19, 20, 21] I I20527 from (Md.tr (Md.tr Md.rf hI20497 rfl) hI20527 rfl)), (show Md [18, 19, 20, 21] A A20527 from (Md.tr (Md.tr Md.rf hA20497 rfl) hA20527 rfl)), hV20527, (-2), rfl, rfl⟩ dX12_look_77
            · skip
              refine g_aload_n hk dX12_look_68 rfl ?_
              refine gM_i20 (v := (I20527 20)) hk hin12 (List.mem_cons_of_mem _ (List.mem_append_left _ (List.mem_of_getElem? (i := 12) rfl))) dX12_look_69 rfl ?_
              refine g_goto (tgt := 77) hk dX12_look_72 (by decide) ?_
              exact g_iret hk hR rfl ⟨I20527, A20527, L20527, (show Md [18, 19, 20, 21] I I20527 from (Md.tr (Md.tr Md.rf hI20497 rfl) hI20527 rfl)), (show Md [18, 19, 20, 21] A A20527 from (Md.tr (Md.tr Md.rf hA20497 rfl) hA20527 rfl)), hV20527, (I20527 20), rfl, rfl⟩ dX12_look_77
          · skip
            refine g_aload_n hk dX12_look_54 rfl ?_
            refine gM_i19 (v := (I20527 19)) hk hin12 (List.mem_cons_of_mem _ (List.mem_append_left _ (List.mem_of_getElem? (i := 13) rfl))) dX12_look_55 rfl ?_
            refine g_goto (tgt := 77) hk dX12_look_58 (by decide) ?_
            have b20532l := Int32.le_toInt (I20527 19)
            have b20532h := Int32.toInt_lt (I20527 19)
            exact g_iret hk hR rfl ⟨I20527, A20527, L20527, (show Md [18, 19, 20, 21] I I20527 from (Md.tr (Md.tr Md.rf hI20497 rfl) hI20527 rfl)), (show Md [18, 19, 20, 21] A A20527 from (Md.tr (Md.tr Md.rf hA20497 rfl) hA20527 rfl)), hV20527, (I20527 19), rfl, rfl⟩ dX12_look_77
        · skip
          refine g_iload hk dX12_look_43 rfl ?_
          refine g_goto (tgt := 77) hk dX12_look_45 (by decide) ?_
          exact g_iret hk hR rfl ⟨I20527, A20527, L20527, (show Md [18, 19, 20, 21] I I20527 from (Md.tr (Md.tr Md.rf hI20497 rfl) hI20527 rfl)), (show Md [18, 19, 20, 21] A A20527 from (Md.tr (Md.tr Md.rf hA20497 rfl) hA20527 rfl)), hV20527, y20524, rfl, rfl⟩ dX12_look_77
def wo_j186_X12_fillsFar : List Cond := [Cond.methodLink RX12 323 yX12_copies, Cond.instanceMethod yX12_copies, Cond.selects RX12 yX12_copies yX12_copies, Cond.initialized RX12, Cond.fieldLink RX12 91 "WarpDeskModel" "farBy" "[I", Cond.methodLink RX12 342 yX12_isOf, Cond.instanceMethod yX12_isOf, Cond.selects RX12 yX12_isOf yX12_isOf, Cond.methodLink RX12 345 yX12_distanceOf, Cond.instanceMethod yX12_distanceOf, Cond.selects RX12 yX12_distanceOf yX12_distanceOf]
def wz_j186_X12_fillsFar : List Cond := .code yX12_fillsFar cX12_fillsFar 3 none :: (wo_j186_X12_fillsFar ++ (wsX120 ++ (wz_j151_X12_copies ++ (wz_j168_X12_isOf ++ (wz_j169_X12_distanceOf ++ ([] : List Cond))))))
theorem zg_j186_X12_fillsFar : ∀ w ∈ wz_j186_X12_fillsFar, goodWord w = true := zg_cons rfl (zg_app (by decide +kernel) (zg_app zgU_wsX120 (zg_app zg_j151_X12_copies (zg_app zg_j168_X12_isOf (zg_app zg_j169_X12_distanceOf zg_nil)))))
theorem zi_j186_X12_fillsFar : ∀ w ∈ wz_j186_X12_fillsFar, w ∈ lw_tbl := zi_cons zw_1847 (zi_app (zi_cons zw_1679 (zi_cons zw_1681 (zi_cons zw_70 (zi_cons zw_115 (zi_cons zw_1426 (zi_cons zw_1755 (zi_cons zw_1757 (zi_cons zw_78 (zi_cons zw_1759 (zi_cons zw_1761 (zi_cons zw_79 zi_nil))))))))))) (zi_app inX12 (zi_app zi_j151_X12_copies (zi_app zi_j168_X12_isOf (zi_app zi_j169_X12_distanceOf zi_nil)))))
set_option maxHeartbeats 4000000 in
set_option maxRecDepth 100000 in
theorem j186_X12_fillsFar (l : Launch) (D : va_G) (zt : Nat × Nat × Nat × (Nat → Nat) × (Nat → Nat)) (r : Nat → Nat) (g : Nat → ClassId) (I : Nat → Int32) (A : Nat → Nat → Int32) (L : Nat → Nat → Int64) (z1 : Int32) (hIv : IvM I A) (hp0 : 0 ≤ z1.toInt) (hp1 : z1.toInt ≤ 4) : GM l D zt (tyM g) yX12_fillsFar wz_j186_X12_fillsFar ({ frames := 6, cells := 0, slots := 0, locals := 134 } : Room) [.ref (r 0), .int z1] (wM r g I A L) (fun v _ w' => ∃ (I' : Nat → Int32) (A' : Nat → Nat → Int32) (L' : Nat → Nat → Int64), Md [18, 19, 20] I I' ∧ Md [18, 19, 20, 21, 24] A A' ∧ IvM I' A' ∧ (1 ≤ (A' 18 164).toInt) ∧ v = none ∧ w' = wM r g I' A' L') 0 0 := by
  refine GM.of (cc := cX12_fillsFar) (maxL := 3) (ret := none) (own := RX12) (lv := [(0, .ref (r 0)), (1, .int z1)]) (by decide) rfl rfl (Nat.le_of_ble_eq_true rfl) rfl (fun κ sz hk hR hN => ?_)
  have hin12 : ∀ w ∈ u_ws RX12 TX12 55, w ∈ wz_j186_X12_fillsFar := fun w h => (List.mem_cons_of_mem _ (List.mem_append_right _ (List.mem_append_left _ h)))
  refine g_aload_n hk dX12_fillsFar_0 rfl ?_
  refine g_callV (n := 0) hk (j151_X12_copies l D zt r g I A L  hIv) (SP.same _) (fun _ h => h) (gi_V (List.mem_cons_of_mem _ (List.mem_append_left _ (List.mem_of_getElem? (i := 0) rfl))) (List.mem_cons_of_mem _ (List.mem_append_left _ (List.mem_of_getElem? (i := 1) rfl))) (List.mem_cons_of_mem _ (List.mem_append_left _ (List.mem_of_getElem? (i := 2) rfl))) (List.mem_cons_of_mem _ (List.mem_append_left _ (List.mem_of_getElem? (i := 3) rfl))) (gi_sub (fun w h => (List.mem_cons_of_mem _ (List.mem_append_right _ (List.mem_append_right _ (List.mem_append_left _ h))))) zg_j151_X12_copies)) rfl rfl rfl (by decide +kernel) ⟨Nat.le_of_ble_eq_true rfl, Nat.le_of_ble_eq_true rfl⟩ 0 rfl rfl rfl rfl (Nat.le_of_ble_eq_true rfl) ⟨Nat.le_of_ble_eq_true rfl, Nat.le_of_ble_eq_true rfl⟩ dX12_fillsFar_1 (fun v ty' w' hp hk' => ?_)
  obtain ⟨I20549, A20549, L20549, hI20549, hA20549, hV20549, r20550, r20551, rfl, rfl⟩ := hp
  have f20552 := IvM_s17_0 hIv
  have f20553 := IvM_s17_164 hIv
  show GW κ 3 0 0 (wM r g I20549 A20549 L20549) 4 [(0, .ref (r 0)), (1, .int z1)] []
  refine g_iconst (v := 0) hk dX12_fillsFar_4 (by decide) ?_
  refine g_istore_n (lv' := [(2, .int 0), (0, .ref (r 0)), (1, .int z1)]) hk dX12_fillsFar_5 (by decide) rfl ?_
  have lp20650 : ∀ (n20651 : Nat) (x20554 : Int32) (I20557 : Nat → Int32) (A20557 : Nat → Nat → Int32) (L20557 : Nat → Nat → Int64), (Md [18, 19, 20] I20549 I20557) → (Md [19, 20, 21, 24] A20549 A20557) → (IvM I20557 A20557) → (0 ≤ x20554.toInt) → (x20554.toInt ≤ 160) → (161 - x20554.toInt < (n20651 : Int)) → (0 < n20651) → GW κ 3 0 0 (wM r g I20557 A20557 L20557) 6 [(2, .int x20554), (0, .ref (r 0)), (1, .int z1)] [] := by
    intro n20651
    induction n20651 with
    | zero =>
      intro x20554 I20557 A20557 L20557 hI20557 hA20557 hV20557 h20648 h20649 m20652 m20652z
      exact absurd m20652z (Nat.lt_irrefl 0)
    | succ n20651 ih20653 =>
      intro x20554 I20557 A20557 L20557 hI20557 hA20557 hV20557 h20648 h20649 m20652 m20652z
      refine g_iload_n hk dX12_fillsFar_6 rfl ?_
      refine g_sipush (v := 160) hk dX12_fillsFar_7 (by decide) ?_
      refine g_icmp_ge (tgt := 44) (a := x20554.toInt) (b := 160) hk dX12_fillsFar_10 (by decide) rfl rfl (fun c20654 => ?_) (fun c20654 => ?_)
      · skip
        exact g_vret hk hR ⟨I20557, A20557, L20557, (show Md [18, 19, 20] I I20557 from (Md.tr (Md.tr Md.rf hI20549 rfl) hI20557 rfl)), (show Md [18, 19, 20, 21, 24] A A20557 from (Md.tr (Md.tr Md.rf hA20549 rfl) hA20557 rfl)), hV20557, (by rw [show (A20557 18 164) = (A20549 18 164) from (congrFun (hA20557 18 rfl) _)] <;> omega), rfl, rfl⟩ dX12_fillsFar_44
      · skip
        refine g_aload_n hk dX12_fillsFar_13 rfl ?_
        refine gM_r0_48 hk hin12 (List.mem_cons_of_mem _ (List.mem_append_left _ (List.mem_of_getElem? (i := 4) rfl))) dX12_fillsFar_14 ?_
        refine g_iload_n hk dX12_fillsFar_17 rfl ?_
        refine g_aload_n hk dX12_fillsFar_18 rfl ?_
        refine g_iload_n hk dX12_fillsFar_19 rfl ?_
        refine g_iload_n hk dX12_fillsFar_20 rfl ?_
        refine g_callV (n := 2) hk (j168_X12_isOf l D zt r g I20557 A20557 L20557 z1 x20554 hV20557) (SP.same _) (fun _ h => h) (gi_V (List.mem_cons_of_mem _ (List.mem_append_left _ (List.mem_of_getElem? (i := 5) rfl))) (List.mem_cons_of_mem _ (List.mem_append_left _ (List.mem_of_getElem? (i := 6) rfl))) (List.mem_cons_of_mem _ (List.mem_append_left _ (List.mem_of_getElem? (i := 7) rfl))) (List.mem_cons_of_mem _ (List.mem_append_left _ (List.mem_of_getElem? (i := 3) rfl))) (gi_sub (fun w h => (List.mem_cons_of_mem _ (List.mem_append_right _ (List.mem_append_right _ (List.mem_append_right _ (List.mem_append_left _ h)))))) zg_j168_X12_isOf)) rfl rfl rfl (by decide +kernel) ⟨Nat.le_of_ble_eq_true rfl, Nat.le_of_ble_eq_true rfl⟩ 0 rfl rfl rfl rfl (Nat.le_of_ble_eq_true rfl) ⟨Nat.le_of_ble_eq_true rfl, Nat.le_of_ble_eq_true rfl⟩ dX12_fillsFar_21 (fun v ty' w' hp hk' => ?_)
        rcases hp with ⟨rfl, rfl⟩ | ⟨c20656, c20657, c20658, c20659, c20660, c20661, c20662, c20663, c20664, c20665, c20666, c20667, rfl, rfl⟩
        · skip
          show GW κ 3 0 0 (wM r g I20557 A20557 L20557) 24 [(2, .int x20554), (0, .ref (r 0)), (1, .int z1)] [.int 0, .int x20554, .ref (r 25)]
          refine g_if_eq (tgt := 36) (a := 0) hk dX12_fillsFar_24 (by decide) rfl (fun _ => ?_) (fun z9 => absurd (show (0 : Int) = (0 : Int) from by decide) z9)
          refine g_iconst (v := (-1)) hk dX12_fillsFar_36 (by decide) ?_
          have k20669 : ((-1) : Int32).toInt = (-1) := rfl
          refine sM_24 (j := x20554.toNatClampNeg) hk (vp_in_iff.mpr ⟨by omega, by omega⟩) rfl dX12_fillsFar_37 ?_
          obtain ⟨y20670, ey20670⟩ : ∃ y : Int32, y = x20554 + Int32.ofInt 1 := ⟨_, rfl⟩
          have hy20670 : y20670.toInt = x20554.toInt + 1 := i32_add ey20670 rfl (by decide) (by omega) (by omega)
          refine g_iinc (v := y20670) (lv' := [(2, .int y20670), (0, .ref (r 0)), (1, .int z1)]) hk 0 dX12_fillsFar_38 rfl ey20670.symm (by decide) rfl ?_
          refine g_goto (tgt := 6) hk dX12_fillsFar_41 (by decide) ?_
          exact g_lv (List.forall_mem_cons.mpr ⟨List.mem_of_getElem? (i := 0) rfl, (List.forall_mem_cons.mpr ⟨List.mem_of_getElem? (i := 1) rfl, (List.forall_mem_cons.mpr ⟨List.mem_of_getElem? (i := 2) rfl, (fun _ h => absurd h List.not_mem_nil)⟩)⟩)⟩) (ih20653 y20670 I20557 (up3 A20557 24 (x20554.toNatClampNeg) (-1)) L20557 (show Md [18, 19, 20] I20549 I20557 from Md.tr hI20557 (show Md [18, 19, 20] I20557 I20557 from Md.rf) rfl) (show Md [19, 20, 21, 24] A20549 (up3 A20557 24 (x20554.toNatClampNeg) (-1)) from Md.tr hA20557 (show Md [19, 20, 21, 24] A20557 (up3 A20557 24 (x20554.toNatClampNeg) (-1)) from (Md.up3 Md.rf rfl)) rfl) ⟨(IvM_f1 (I := I20557) (A := A20557) hV20557), (IvM_f2 (I := I20557) (A := A20557) hV20557), (IvM_f3 (I := I20557) (A := A20557) hV20557), (IvM_f4 (I := I20557) (A := A20557) hV20557), (IvM_f6 (I := I20557) (A := A20557) hV20557), (IvM_f8 (I := I20557) (A := A20557) hV20557), (IvM_f15 (I := I20557) (A := A20557) hV20557), (IvM_f16 (I := I20557) (A := A20557) hV20557), (IvM_f17 (I := I20557) (A := A20557) hV20557), (IvM_f18 (I := I20557) (A := A20557) hV20557), (IvM_f22 (I := I20557) (A := A20557) hV20557), (IvM_f23 (I := I20557) (A := A20557) hV20557), (IvM_f24 (I := I20557) (A := A20557) hV20557), (IvM_a11 (I := I20557) (A := A20557) hV20557), (IvM_a26 (I := I20557) (A := A20557) hV20557), (IvM_s8_0 (I := I20557) (A := A20557) hV20557), (IvM_s8_1 (I := I20557) (A := A20557) hV20557), (IvM_s10_0 (I := I20557) (A := A20557) hV20557), (IvM_s10_1 (I := I20557) (A := A20557) hV20557), (IvM_s17_0 (I := I20557) (A := A20557) hV20557), (IvM_s17_164 (I := I20557) (A := A20557) hV20557), (IvM_lv (I := I20557) (A := A20557) hV20557), (IvM_sd (I := I20557) (A := A20557) hV20557), (IvM_nq (I := I20557) (A := A20557) hV20557), (IvM_hr (I := I20557) (A := A20557) hV20557), (IvM_hh (I := I20557) (A := A20557) hV20557), trivial⟩ (by omega) (by omega) (by omega) (by omega))
        · skip
          have f20671 : 0 ≤ (A 11 (5 * (I 15) + z1).toNatClampNeg).toInt ∧ (A 11 (5 * (I 15) + z1).toNatClampNeg).toInt ≤ 16 := IvM_a11 hIv _
          rw [show (A20557 11 (5 * (I20557 15) + z1).toNatClampNeg) = (A 11 (5 * (I 15) + z1).toNatClampNeg) from (by rw [show I20557 15 = (I 15) from ((hI20557 15 rfl).trans (hI20549 15 rfl))]; exact ((congrFun (hA20557 11 rfl) _).trans (congrFun (hA20549 11 rfl) _)))] at c20666
          rw [show (A20557 11 (5 * (I20557 15) + z1).toNatClampNeg) = (A 11 (5 * (I 15) + z1).toNatClampNeg) from (by rw [show I20557 15 = (I 15) from ((hI20557 15 rfl).trans (hI20549 15 rfl))]; exact ((congrFun (hA20557 11 rfl) _).trans (congrFun (hA20549 11 rfl) _)))] at c20667
          show GW κ 3 0 0 (wM r g I20557 A20557 L20557) 24 [(2, .int x20554), (0, .ref (r 0)), (1, .int z1)] [.int 1, .int x20554, .ref (r 25)]
          refine g_if_eq (tgt := 36) (a := 1) hk dX12_fillsFar_24 (by decide) rfl (fun z9 => absurd z9 (show ¬ ((1 : Int) = (0 : Int)) from by decide)) (fun _ => ?_)
          refine g_aload_n hk dX12_fillsFar_27 rfl ?_
          refine g_iload_n hk dX12_fillsFar_28 rfl ?_
          refine g_iload_n hk dX12_fillsFar_29 rfl ?_
          refine g_callV (n := 2) hk (j169_X12_distanceOf l D zt r g I20557 A20557 L20557 z1 x20554 hV20557 (by omega) (by omega) (by omega) (by omega) (by first | (rw [show (A20557 11 (5 * (I20557 15) + z1).toNatClampNeg) = (A 11 (5 * (I 15) + z1).toNatClampNeg) from (by rw [show I20557 15 = (I 15) from ((hI20557 15 rfl).trans (hI20549 15 rfl))]; exact ((congrFun (hA20557 11 rfl) _).trans (congrFun (hA20549 11 rfl) _)))] <;> omega) | omega) (by first | (rw [show (A20557 11 (5 * (I20557 15) + z1).toNatClampNeg) = (A 11 (5 * (I 15) + z1).toNatClampNeg) from (by rw [show I20557 15 = (I 15) from ((hI20557 15 rfl).trans (hI20549 15 rfl))]; exact ((congrFun (hA20557 11 rfl) _).trans (congrFun (hA20549 11 rfl) _)))] <;> omega) | omega)) (SP.same _) (fun _ h => h) (gi_V (List.mem_cons_of_mem _ (List.mem_append_left _ (List.mem_of_getElem? (i := 8) rfl))) (List.mem_cons_of_mem _ (List.mem_append_left _ (List.mem_of_getElem? (i := 9) rfl))) (List.mem_cons_of_mem _ (List.mem_append_left _ (List.mem_of_getElem? (i := 10) rfl))) (List.mem_cons_of_mem _ (List.mem_append_left _ (List.mem_of_getElem? (i := 3) rfl))) (gi_sub (fun w h => (List.mem_cons_of_mem _ (List.mem_append_right _ (List.mem_append_right _ (List.mem_append_right _ (List.mem_append_right _ (List.mem_append_left _ h))))))) zg_j169_X12_distanceOf)) rfl rfl rfl (by decide +kernel) ⟨Nat.le_of_ble_eq_true rfl, Nat.le_of_ble_eq_true rfl⟩ 0 rfl rfl rfl rfl (Nat.le_of_ble_eq_true rfl) ⟨Nat.le_of_ble_eq_true rfl, Nat.le_of_ble_eq_true rfl⟩ dX12_fillsFar_30 (fun v ty' w' hp hk' => ?_)
          obtain ⟨I20673, A20673, L20673, hI20673, hA20673, hV20673, y20672, r20674, rfl, rfl⟩ := hp
          have f20675 := IvM_f18 hV20673
          show GW κ 3 0 0 (wM r g I20673 A20673 L20673) 33 [(2, .int x20554), (0, .ref (r 0)), (1, .int z1)] [.int y20672, .int x20554, .ref (r 25)]
          refine g_goto (tgt := 37) hk dX12_fillsFar_33 (by decide) ?_
          refine sM_24 (j := x20554.toNatClampNeg) hk (vp_in_iff.mpr ⟨by omega, by omega⟩) rfl dX12_fillsFar_37 ?_
          obtain ⟨y20676, ey20676⟩ : ∃ y : Int32, y = x20554 + Int32.ofInt 1 := ⟨_, rfl⟩
          have hy20676 : y20676.toInt = x20554.toInt + 1 := i32_add ey20676 rfl (by decide) (by omega) (by omega)
          refine g_iinc (v := y20676) (lv' := [(2, .int y20676), (0, .ref (r 0)), (1, .int z1)]) hk 0 dX12_fillsFar_38 rfl ey20676.symm (by decide) rfl ?_
          refine g_goto (tgt := 6) hk dX12_fillsFar_41 (by decide) ?_
          exact g_lv (List.forall_mem_cons.mpr ⟨List.mem_of_getElem? (i := 0) rfl, (List.forall_mem_cons.mpr ⟨List.mem_of_getElem? (i := 1) rfl, (List.forall_mem_cons.mpr ⟨List.mem_of_getElem? (i := 2) rfl, (fun _ h => absurd h List.not_mem_nil)⟩)⟩)⟩) (ih20653 y20676 I20673 (up3 A20673 24 (x20554.toNatClampNeg) y20672) L20673 (show Md [18, 19, 20] I20549 I20673 from Md.tr hI20557 (show Md [18, 19, 20] I20557 I20673 from (Md.tr Md.rf hI20673 rfl)) rfl) (show Md [19, 20, 21, 24] A20549 (up3 A20673 24 (x20554.toNatClampNeg) y20672) from Md.tr hA20557 (show Md [19, 20, 21, 24] A20557 (up3 A20673 24 (x20554.toNatClampNeg) y20672) from (Md.up3 (Md.tr Md.rf hA20673 rfl) rfl)) rfl) ⟨(IvM_f1 (I := I20673) (A := A20673) hV20673), (IvM_f2 (I := I20673) (A := A20673) hV20673), (IvM_f3 (I := I20673) (A := A20673) hV20673), (IvM_f4 (I := I20673) (A := A20673) hV20673), (IvM_f6 (I := I20673) (A := A20673) hV20673), (IvM_f8 (I := I20673) (A := A20673) hV20673), (IvM_f15 (I := I20673) (A := A20673) hV20673), (IvM_f16 (I := I20673) (A := A20673) hV20673), (IvM_f17 (I := I20673) (A := A20673) hV20673), (IvM_f18 (I := I20673) (A := A20673) hV20673), (IvM_f22 (I := I20673) (A := A20673) hV20673), (IvM_f23 (I := I20673) (A := A20673) hV20673), (IvM_f24 (I := I20673) (A := A20673) hV20673), (IvM_a11 (I := I20673) (A := A20673) hV20673), (IvM_a26 (I := I20673) (A := A20673) hV20673), (IvM_s8_0 (I := I20673) (A := A20673) hV20673), (IvM_s8_1 (I := I20673) (A := A20673) hV20673), (IvM_s10_0 (I := I20673) (A := A20673) hV20673), (IvM_s10_1 (I := I20673) (A := A20673) hV20673), (IvM_s17_0 (I := I20673) (A := A20673) hV20673), (IvM_s17_164 (I := I20673) (A := A20673) hV20673), (IvM_lv (I := I20673) (A := A20673) hV20673), (IvM_sd (I := I20673) (A := A20673) hV20673), (IvM_nq (I := I20673) (A := A20673) hV20673), (IvM_hr (I := I20673) (A := A20673) hV20673), (IvM_hh (I := I20673) (A := A20673) hV20673), trivial⟩ (by omega) (by omega) (by omega) (by omega))
  have k20677 : (0 : Int32).toInt = 0 := rfl
  obtain ⟨n20678, n20678a, n20678b⟩ : ∃ n : Nat, 161 - (0 : Int32).toInt < (n : Int) ∧ 0 < n := ⟨((161 - (0 : Int32).toInt : Int)).toNat + 1, by omega, by omega⟩
  exact lp20650 n20678 0 I20549 A20549 L20549 Md.rf Md.rf hV20549 (by omega) (by omega) n20678a n20678b
