noncomputable def fM12_readingTold (I : Nat → Int32) (A : Nat → Nat → Int32) (L : Nat → Nat → Int64) : Int32 × (Nat → Int32) × (Nat → Nat → Int32) × (Nat → Nat → Int64) := if fM12_is I A L 9 = 0 then f_bdM (fM12_bounded I A L 0 999) fun y15424 I15425 A15425 L15425 => (y15424, I15425, A15425, L15425) else f_bdM (fM12_goesOn I A L) fun _ I15439 A15439 L15439 => f_bdM (fM12_bounded I15439 A15439 L15439 0 999) fun y15450 I15451 A15451 L15451 => f_lt (-y15450) fun y15461 => (y15461, I15451, A15451, L15451)
def wo_j132_X12_readingTold : List Cond := [Cond.methodLink RX12 188 yX12_is, Cond.instanceMethod yX12_is, Cond.selects RX12 yX12_is yX12_is, Cond.initialized RX12, Cond.methodLink RX12 212 yX12_bounded, Cond.instanceMethod yX12_bounded, Cond.selects RX12 yX12_bounded yX12_bounded, Cond.methodLink RX12 191 yX12_goesOn, Cond.instanceMethod yX12_goesOn, Cond.selects RX12 yX12_goesOn yX12_goesOn]
def wz_j132_X12_readingTold : List Cond := .code yX12_readingTold cX12_readingTold 3 (some .int) :: (wo_j132_X12_readingTold ++ (wz_j125_X12_is ++ (wz_j133_X12_bounded ++ (wz_j127_X12_goesOn ++ ([] : List Cond)))))
theorem zg_j132_X12_readingTold : ∀ w ∈ wz_j132_X12_readingTold, goodWord w = true := zg_cons rfl (zg_app (by decide +kernel) (zg_app zg_j125_X12_is (zg_app zg_j133_X12_bounded (zg_app zg_j127_X12_goesOn zg_nil))))
theorem zi_j132_X12_readingTold : ∀ w ∈ wz_j132_X12_readingTold, w ∈ lw_tbl := zi_cons zw_1611 (zi_app (zi_cons zw_1583 (zi_cons zw_1585 (zi_cons zw_52 (zi_cons zw_115 (zi_cons zw_1612 (zi_cons zw_1614 (zi_cons zw_59 (zi_cons zw_1591 (zi_cons zw_1593 (zi_cons zw_54 zi_nil)))))))))) (zi_app zi_j125_X12_is (zi_app zi_j133_X12_bounded (zi_app zi_j127_X12_goesOn zi_nil))))
set_option maxHeartbeats 4000000 in
set_option maxRecDepth 100000 in
theorem j132_X12_readingTold (l : Launch) (D : va_G) (zt : Nat × Nat × Nat × (Nat → Nat) × (Nat → Nat)) (r : Nat → Nat) (g : Nat → ClassId) (I : Nat → Int32) (A : Nat → Nat → Int32) (L : Nat → Nat → Int64) (hIv : IvM I A) : GM l D zt (tyM g) yX12_readingTold wz_j132_X12_readingTold ({ frames := 3, cells := 0, slots := 0, locals := 64 } : Room) [.ref (r 0)] (wM r g I A L) (fun v _ w' => ∃ (I' : Nat → Int32) (A' : Nat → Nat → Int32) (L' : Nat → Nat → Int64), Md [4, 6, 7, 8, 9, 12, 13] I I' ∧ Md [] A A' ∧ IvM I' A' ∧ ∃ y0 : Int32, ((I 4).toInt ≤ (I' 4).toInt) ∧ ((I 6).toInt ≤ (I' 6).toInt) ∧ ((I 8).toInt ≤ 9 * (I' 8).toInt) ∧ ((I 4).toInt < (I' 4).toInt + (I' 6).toInt) ∧ (L' = L) ∧ FE (fM12_readingTold I A L) (y0, I', A', L') ∧ v = some (.int y0) ∧ w' = wM r g I' A' L') 0 0 := by
  refine GM.of (cc := cX12_readingTold) (maxL := 3) (ret := (some .int)) (own := RX12) (lv := [(0, .ref (r 0))]) (by decide) rfl rfl (Nat.le_of_ble_eq_true rfl) rfl (fun κ sz hk hR hN => ?_)
  have hF : FE (fM12_readingTold I A L) (fM12_readingTold I A L) := FE.rf
  refine g_aload_n hk dX12_readingTold_0 rfl ?_
  refine g_bipush (v := 9) hk dX12_readingTold_1 (by decide) ?_
  have k15332 : (9 : Int32).toInt = 9 := rfl
  refine g_callV (n := 1) hk (j125_X12_is l D zt r g I A L 9 hIv) (SP.same _) (fun _ h => h) (gi_V (List.mem_cons_of_mem _ (List.mem_append_left _ (List.mem_of_getElem? (i := 0) rfl))) (List.mem_cons_of_mem _ (List.mem_append_left _ (List.mem_of_getElem? (i := 1) rfl))) (List.mem_cons_of_mem _ (List.mem_append_left _ (List.mem_of_getElem? (i := 2) rfl))) (List.mem_cons_of_mem _ (List.mem_append_left _ (List.mem_of_getElem? (i := 3) rfl))) (gi_sub (fun w h => (List.mem_cons_of_mem _ (List.mem_append_right _ (List.mem_append_left _ h)))) zg_j125_X12_is)) rfl rfl rfl (by decide +kernel) ⟨Nat.le_of_ble_eq_true rfl, Nat.le_of_ble_eq_true rfl⟩ 0 rfl rfl rfl rfl (Nat.le_of_ble_eq_true rfl) ⟨Nat.le_of_ble_eq_true rfl, Nat.le_of_ble_eq_true rfl⟩ dX12_readingTold_3 (fun v ty' w' hp hk' => ?_)
  rcases hp with ⟨c15333, hC, rfl, rfl⟩ | ⟨c15335, hC, rfl, rfl⟩
  · skip
    replace hF := FE.pos hF hC
    have f15337 := IvM_f6 hIv
    show GW κ 3 0 0 (wM r g I A L) 6 [(0, .ref (r 0))] [.int 0]
    refine g_istore_n (lv' := [(1, .int 0), (0, .ref (r 0))]) hk dX12_readingTold_6 (by decide) rfl ?_
    refine g_iload_n hk dX12_readingTold_7 rfl ?_
    refine g_if_eq (tgt := 15) (a := 0) hk dX12_readingTold_8 (by decide) rfl (fun _ => ?_) (fun z9 => absurd (show (0 : Int) = (0 : Int) from by decide) z9)
    refine g_aload_n hk dX12_readingTold_15 rfl ?_
    refine g_iconst (v := 0) hk dX12_readingTold_16 (by decide) ?_
    refine g_sipush (v := 999) hk dX12_readingTold_17 (by decide) ?_
    have k15422 : (0 : Int32).toInt = 0 := rfl
    have k15423 : (999 : Int32).toInt = 999 := rfl
    refine g_callV (n := 2) hk (j133_X12_bounded l D zt r g I A L 0 999 hIv) (SP.same _) (fun _ h => h) (gi_V (List.mem_cons_of_mem _ (List.mem_append_left _ (List.mem_of_getElem? (i := 4) rfl))) (List.mem_cons_of_mem _ (List.mem_append_left _ (List.mem_of_getElem? (i := 5) rfl))) (List.mem_cons_of_mem _ (List.mem_append_left _ (List.mem_of_getElem? (i := 6) rfl))) (List.mem_cons_of_mem _ (List.mem_append_left _ (List.mem_of_getElem? (i := 3) rfl))) (gi_sub (fun w h => (List.mem_cons_of_mem _ (List.mem_append_right _ (List.mem_append_right _ (List.mem_append_left _ h))))) zg_j133_X12_bounded)) rfl rfl rfl (by decide +kernel) ⟨Nat.le_of_ble_eq_true rfl, Nat.le_of_ble_eq_true rfl⟩ 0 rfl rfl rfl rfl (Nat.le_of_ble_eq_true rfl) ⟨Nat.le_of_ble_eq_true rfl, Nat.le_of_ble_eq_true rfl⟩ dX12_readingTold_20 (fun v ty' w' hp hk' => ?_)
    obtain ⟨I15425, A15425, L15425, hI15425, hA15425, hV15425, y15424, r15426, r15427, r15428, r15429, r15430, hL15425, hC, rfl, rfl⟩ := hp
    replace hF := FE.bdM hF hC
    have f15431 := IvM_f4 hIv
    have f15432 := IvM_f4 hV15425
    have f15433 := IvM_f6 hV15425
    have f15434 := IvM_f8 hIv
    have f15435 := IvM_f8 hV15425
    have b15436l := Int32.le_toInt y15424
    have b15436h := Int32.toInt_lt y15424
    show GW κ 3 0 0 (wM r g I15425 A15425 L15425) 23 [(1, .int 0), (0, .ref (r 0))] [.int y15424]
    refine g_istore_n (lv' := [(2, .int y15424), (1, .int 0), (0, .ref (r 0))]) hk dX12_readingTold_23 (by decide) rfl ?_
    refine g_iload_n hk dX12_readingTold_24 rfl ?_
    refine g_if_eq (tgt := 33) (a := 0) hk dX12_readingTold_25 (by decide) rfl (fun _ => ?_) (fun z9 => absurd (show (0 : Int) = (0 : Int) from by decide) z9)
    refine g_iload_n hk dX12_readingTold_33 rfl ?_
    exact g_iret hk hR rfl ⟨I15425, A15425, L15425, (show Md [4, 6, 7, 8, 9, 12, 13] I I15425 from (Md.tr Md.rf hI15425 rfl)), (show Md [] A A15425 from (Md.tr Md.rf hA15425 rfl)), hV15425, y15424, (by omega), (by omega), (by omega), (by omega), (show L15425 = L from hL15425), hF, rfl, rfl⟩ dX12_readingTold_34
  · skip
    replace hF := FE.neg hF (fe_ne hC (by decide))
    have f15437 := IvM_f6 hIv
    show GW κ 3 0 0 (wM r g I A L) 6 [(0, .ref (r 0))] [.int 1]
    refine g_istore_n (lv' := [(1, .int 1), (0, .ref (r 0))]) hk dX12_readingTold_6 (by decide) rfl ?_
    refine g_iload_n hk dX12_readingTold_7 rfl ?_
    refine g_if_eq (tgt := 15) (a := 1) hk dX12_readingTold_8 (by decide) rfl (fun z9 => absurd z9 (show ¬ ((1 : Int) = (0 : Int)) from by decide)) (fun _ => ?_)
    refine g_aload_n hk dX12_readingTold_11 rfl ?_
    refine g_callV (n := 0) hk (j127_X12_goesOn l D zt r g I A L  hIv) (SP.same _) (fun _ h => h) (gi_V (List.mem_cons_of_mem _ (List.mem_append_left _ (List.mem_of_getElem? (i := 7) rfl))) (List.mem_cons_of_mem _ (List.mem_append_left _ (List.mem_of_getElem? (i := 8) rfl))) (List.mem_cons_of_mem _ (List.mem_append_left _ (List.mem_of_getElem? (i := 9) rfl))) (List.mem_cons_of_mem _ (List.mem_append_left _ (List.mem_of_getElem? (i := 3) rfl))) (gi_sub (fun w h => (List.mem_cons_of_mem _ (List.mem_append_right _ (List.mem_append_right _ (List.mem_append_right _ (List.mem_append_left _ h)))))) zg_j127_X12_goesOn)) rfl rfl rfl (by decide +kernel) ⟨Nat.le_of_ble_eq_true rfl, Nat.le_of_ble_eq_true rfl⟩ 0 rfl rfl rfl rfl (Nat.le_of_ble_eq_true rfl) ⟨Nat.le_of_ble_eq_true rfl, Nat.le_of_ble_eq_true rfl⟩ dX12_readingTold_12 (fun v ty' w' hp hk' => ?_)
    obtain ⟨I15439, A15439, L15439, hI15439, hA15439, hV15439, r15440, r15441, r15442, r15443, hL15439, hC, rfl, rfl⟩ := hp
    replace hF := FE.bdM hF hC
    have f15444 := IvM_f4 hIv
    have f15445 := IvM_f4 hV15439
    have f15446 := IvM_f6 hV15439
    have f15447 := IvM_f8 hIv
    rw [show (I15439 8) = (I 8) from (hI15439 8 rfl)] at r15442
    show GW κ 3 0 0 (wM r g I15439 A15439 L15439) 15 [(1, .int 1), (0, .ref (r 0))] []
    refine g_aload_n hk dX12_readingTold_15 rfl ?_
    refine g_iconst (v := 0) hk dX12_readingTold_16 (by decide) ?_
    refine g_sipush (v := 999) hk dX12_readingTold_17 (by decide) ?_
    have k15448 : (0 : Int32).toInt = 0 := rfl
    have k15449 : (999 : Int32).toInt = 999 := rfl
    refine g_callV (n := 2) hk (j133_X12_bounded l D zt r g I15439 A15439 L15439 0 999 hV15439) (SP.same _) (fun _ h => h) (gi_V (List.mem_cons_of_mem _ (List.mem_append_left _ (List.mem_of_getElem? (i := 4) rfl))) (List.mem_cons_of_mem _ (List.mem_append_left _ (List.mem_of_getElem? (i := 5) rfl))) (List.mem_cons_of_mem _ (List.mem_append_left _ (List.mem_of_getElem? (i := 6) rfl))) (List.mem_cons_of_mem _ (List.mem_append_left _ (List.mem_of_getElem? (i := 3) rfl))) (gi_sub (fun w h => (List.mem_cons_of_mem _ (List.mem_append_right _ (List.mem_append_right _ (List.mem_append_left _ h))))) zg_j133_X12_bounded)) rfl rfl rfl (by decide +kernel) ⟨Nat.le_of_ble_eq_true rfl, Nat.le_of_ble_eq_true rfl⟩ 0 rfl rfl rfl rfl (Nat.le_of_ble_eq_true rfl) ⟨Nat.le_of_ble_eq_true rfl, Nat.le_of_ble_eq_true rfl⟩ dX12_readingTold_20 (fun v ty' w' hp hk' => ?_)
    obtain ⟨I15451, A15451, L15451, hI15451, hA15451, hV15451, y15450, r15452, r15453, r15454, r15455, r15456, hL15451, hC, rfl, rfl⟩ := hp
    replace hF := FE.bdM hF hC
    have f15457 := IvM_f4 hV15451
    have f15458 := IvM_f6 hV15451
    have f15459 := IvM_f8 hV15451
    rw [show (I15439 8) = (I 8) from (hI15439 8 rfl)] at r15454
    have b15460l := Int32.le_toInt y15450
    have b15460h := Int32.toInt_lt y15450
    show GW κ 3 0 0 (wM r g I15451 A15451 L15451) 23 [(1, .int 1), (0, .ref (r 0))] [.int y15450]
    refine g_istore_n (lv' := [(2, .int y15450), (1, .int 1), (0, .ref (r 0))]) hk dX12_readingTold_23 (by decide) rfl ?_
    refine g_iload_n hk dX12_readingTold_24 rfl ?_
    refine g_if_eq (tgt := 33) (a := 1) hk dX12_readingTold_25 (by decide) rfl (fun z9 => absurd z9 (show ¬ ((1 : Int) = (0 : Int)) from by decide)) (fun _ => ?_)
    refine g_iload_n hk dX12_readingTold_28 rfl ?_
    refine g_ineg hk dX12_readingTold_29 ?_
    refine g_topi (fun y15461 ey15461 => ?_)
    replace hF := FE.lt hF ey15461
    refine g_goto (tgt := 34) hk dX12_readingTold_30 (by decide) ?_
    have b15462l := Int32.le_toInt y15461
    have b15462h := Int32.toInt_lt y15461
    exact g_iret hk hR rfl ⟨I15451, A15451, L15451, (show Md [4, 6, 7, 8, 9, 12, 13] I I15451 from (Md.tr (Md.tr Md.rf hI15439 rfl) hI15451 rfl)), (show Md [] A A15451 from (Md.tr (Md.tr Md.rf hA15439 rfl) hA15451 rfl)), hV15451, y15461, (by omega), (by omega), (by omega), (by omega), (show L15451 = L from (hL15451.trans hL15439)), hF, rfl, rfl⟩ dX12_readingTold_34
