def wo_j187_X12_bestWindow : List Cond := [Cond.fieldLink RX12 91 "WarpDeskModel" "farBy" "[I"]
def wz_j187_X12_bestWindow : List Cond := .code yX12_bestWindow cX12_bestWindow 3 (some .int) :: (wo_j187_X12_bestWindow ++ (wsX120 ++ ([] : List Cond)))
theorem zg_j187_X12_bestWindow : ∀ w ∈ wz_j187_X12_bestWindow, goodWord w = true := zg_cons rfl (zg_app (by decide +kernel) (zg_app zgU_wsX120 zg_nil))
theorem zi_j187_X12_bestWindow : ∀ w ∈ wz_j187_X12_bestWindow, w ∈ lw_tbl := zi_cons zw_1851 (zi_app (zi_cons zw_1426 zi_nil) (zi_app inX12 zi_nil))
set_option maxHeartbeats 4000000 in
set_option maxRecDepth 100000 in
theorem j187_X12_bestWindow (l : Launch) (D : va_G) (zt : Nat × Nat × Nat × (Nat → Nat) × (Nat → Nat)) (r : Nat → Nat) (g : Nat → ClassId) (I : Nat → Int32) (A : Nat → Nat → Int32) (L : Nat → Nat → Int64) (hIv : IvM I A) : GM l D zt (tyM g) yX12_bestWindow wz_j187_X12_bestWindow ({ frames := 0, cells := 0, slots := 0, locals := 0 } : Room) [.ref (r 0)] (wM r g I A L) (fun v _ w' => ∃ y0 : Int32, ((-2) ≤ y0.toInt) ∧ (y0.toInt ≤ 159) ∧ v = some (.int y0) ∧ w' = wM r g I A L) 0 0 := by
  refine GM.of (cc := cX12_bestWindow) (maxL := 3) (ret := (some .int)) (own := RX12) (lv := [(0, .ref (r 0))]) (by decide) rfl rfl (Nat.le_of_ble_eq_true rfl) rfl (fun κ sz hk hR hN => ?_)
  have hin12 : ∀ w ∈ u_ws RX12 TX12 55, w ∈ wz_j187_X12_bestWindow := fun w h => (List.mem_cons_of_mem _ (List.mem_append_right _ (List.mem_append_left _ h)))
  refine g_bipush (v := (-2)) hk dX12_bestWindow_0 (by decide) ?_
  refine g_istore_n (lv' := [(1, .int (-2)), (0, .ref (r 0))]) hk dX12_bestWindow_2 (by decide) rfl ?_
  refine g_iconst (v := 0) hk dX12_bestWindow_3 (by decide) ?_
  refine g_istore_n (lv' := [(2, .int 0), (1, .int (-2)), (0, .ref (r 0))]) hk dX12_bestWindow_4 (by decide) rfl ?_
  have lp20733 : ∀ (n20734 : Nat) (x20682 : Int32) (x20683 : Int32), (0 ≤ x20682.toInt) → (x20682.toInt ≤ 160) → ((-2) ≤ x20683.toInt) → (x20683.toInt ≤ 159) → (161 - x20682.toInt < (n20734 : Int)) → (0 < n20734) → GW κ 3 0 0 (wM r g I A L) 5 [(2, .int x20682), (1, .int x20683), (0, .ref (r 0))] [] := by
    intro n20734
    induction n20734 with
    | zero =>
      intro x20682 x20683 h20729 h20730 h20731 h20732 m20735 m20735z
      exact absurd m20735z (Nat.lt_irrefl 0)
    | succ n20734 ih20736 =>
      intro x20682 x20683 h20729 h20730 h20731 h20732 m20735 m20735z
      refine g_iload_n hk dX12_bestWindow_5 rfl ?_
      refine g_sipush (v := 160) hk dX12_bestWindow_6 (by decide) ?_
      refine g_icmp_ge (tgt := 48) (a := x20682.toInt) (b := 160) hk dX12_bestWindow_9 (by decide) rfl rfl (fun c20737 => ?_) (fun c20737 => ?_)
      · skip
        refine g_iload_n hk dX12_bestWindow_48 rfl ?_
        exact g_iret hk hR rfl ⟨x20683, (by omega), (by omega), rfl, rfl⟩ dX12_bestWindow_49
      · skip
        refine g_aload_n hk dX12_bestWindow_12 rfl ?_
        refine gM_r0_48 hk hin12 (List.mem_cons_of_mem _ (List.mem_append_left _ (List.mem_of_getElem? (i := 0) rfl))) dX12_bestWindow_13 ?_
        refine g_iload_n hk dX12_bestWindow_16 rfl ?_
        refine lM_24 (v := (A 24 x20682.toNatClampNeg)) hk (vp_in_iff.mpr ⟨by omega, by omega⟩) rfl dX12_bestWindow_17 ?_
        have b20738l := Int32.le_toInt (A 24 x20682.toNatClampNeg)
        have b20738h := Int32.toInt_lt (A 24 x20682.toNatClampNeg)
        refine g_if_lt (tgt := 42) (a := (A 24 x20682.toNatClampNeg).toInt) hk dX12_bestWindow_18 (by decide) rfl (fun c20739 => ?_) (fun c20739 => ?_)
        · skip
          obtain ⟨y20740, ey20740⟩ : ∃ y : Int32, y = x20682 + Int32.ofInt 1 := ⟨_, rfl⟩
          have hy20740 : y20740.toInt = x20682.toInt + 1 := i32_add ey20740 rfl (by decide) (by omega) (by omega)
          refine g_iinc (v := y20740) (lv' := [(2, .int y20740), (1, .int x20683), (0, .ref (r 0))]) hk 0 dX12_bestWindow_42 rfl ey20740.symm (by decide) rfl ?_
          refine g_goto (tgt := 5) hk dX12_bestWindow_45 (by decide) ?_
          exact g_lv (List.forall_mem_cons.mpr ⟨List.mem_of_getElem? (i := 0) rfl, (List.forall_mem_cons.mpr ⟨List.mem_of_getElem? (i := 1) rfl, (List.forall_mem_cons.mpr ⟨List.mem_of_getElem? (i := 2) rfl, (fun _ h => absurd h List.not_mem_nil)⟩)⟩)⟩) (ih20736 y20740 x20683 (by omega) (by omega) (by omega) (by omega) (by omega) (by omega))
        · skip
          refine g_iload_n hk dX12_bestWindow_21 rfl ?_
          refine g_if_lt (tgt := 40) (a := x20683.toInt) hk dX12_bestWindow_22 (by decide) rfl (fun c20741 => ?_) (fun c20741 => ?_)
          · skip
            refine g_iload_n hk dX12_bestWindow_40 rfl ?_
            refine g_istore_n (lv' := [(1, .int x20682), (2, .int x20682), (0, .ref (r 0))]) hk dX12_bestWindow_41 (by decide) rfl ?_
            obtain ⟨y20742, ey20742⟩ : ∃ y : Int32, y = x20682 + Int32.ofInt 1 := ⟨_, rfl⟩
            have hy20742 : y20742.toInt = x20682.toInt + 1 := i32_add ey20742 rfl (by decide) (by omega) (by omega)
            refine g_iinc (v := y20742) (lv' := [(2, .int y20742), (1, .int x20682), (0, .ref (r 0))]) hk 1 dX12_bestWindow_42 rfl ey20742.symm (by decide) rfl ?_
            refine g_goto (tgt := 5) hk dX12_bestWindow_45 (by decide) ?_
            exact g_lv (List.forall_mem_cons.mpr ⟨List.mem_of_getElem? (i := 0) rfl, (List.forall_mem_cons.mpr ⟨List.mem_of_getElem? (i := 1) rfl, (List.forall_mem_cons.mpr ⟨List.mem_of_getElem? (i := 2) rfl, (fun _ h => absurd h List.not_mem_nil)⟩)⟩)⟩) (ih20736 y20742 x20682 (by omega) (by omega) (by omega) (by omega) (by omega) (by omega))
          · skip
            refine g_aload_n hk dX12_bestWindow_25 rfl ?_
            refine gM_r0_48 hk hin12 (List.mem_cons_of_mem _ (List.mem_append_left _ (List.mem_of_getElem? (i := 0) rfl))) dX12_bestWindow_26 ?_
            refine g_iload_n hk dX12_bestWindow_29 rfl ?_
            refine lM_24 (v := (A 24 x20682.toNatClampNeg)) hk (vp_in_iff.mpr ⟨by omega, by omega⟩) rfl dX12_bestWindow_30 ?_
            refine g_aload_n hk dX12_bestWindow_31 rfl ?_
            refine gM_r0_48 hk hin12 (List.mem_cons_of_mem _ (List.mem_append_left _ (List.mem_of_getElem? (i := 0) rfl))) dX12_bestWindow_32 ?_
            refine g_iload_n hk dX12_bestWindow_35 rfl ?_
            refine lM_24 (v := (A 24 x20683.toNatClampNeg)) hk (vp_in_iff.mpr ⟨by omega, by omega⟩) rfl dX12_bestWindow_36 ?_
            have b20743l := Int32.le_toInt (A 24 x20683.toNatClampNeg)
            have b20743h := Int32.toInt_lt (A 24 x20683.toNatClampNeg)
            refine g_icmp_ge (tgt := 42) (a := (A 24 x20682.toNatClampNeg).toInt) (b := (A 24 x20683.toNatClampNeg).toInt) hk dX12_bestWindow_37 (by decide) rfl rfl (fun c20744 => ?_) (fun c20744 => ?_)
            · skip
              obtain ⟨y20745, ey20745⟩ : ∃ y : Int32, y = x20682 + Int32.ofInt 1 := ⟨_, rfl⟩
              have hy20745 : y20745.toInt = x20682.toInt + 1 := i32_add ey20745 rfl (by decide) (by omega) (by omega)
              refine g_iinc (v := y20745) (lv' := [(2, .int y20745), (1, .int x20683), (0, .ref (r 0))]) hk 0 dX12_bestWindow_42 rfl ey20745.symm (by decide) rfl ?_
              refine g_goto (tgt := 5) hk dX12_bestWindow_45 (by decide) ?_
              exact g_lv (List.forall_mem_cons.mpr ⟨List.mem_of_getElem? (i := 0) rfl, (List.forall_mem_cons.mpr ⟨List.mem_of_getElem? (i := 1) rfl, (List.forall_mem_cons.mpr ⟨List.mem_of_getElem? (i := 2) rfl, (fun _ h => absurd h List.not_mem_nil)⟩)⟩)⟩) (ih20736 y20745 x20683 (by omega) (by omega) (by omega) (by omega) (by omega) (by omega))
            · skip
              refine g_iload_n hk dX12_bestWindow_40 rfl ?_
              refine g_istore_n (lv' := [(1, .int x20682), (2, .int x20682), (0, .ref (r 0))]) hk dX12_bestWindow_41 (by decide) rfl ?_
              obtain ⟨y20746, ey20746⟩ : ∃ y : Int32, y = x20682 + Int32.ofInt 1 := ⟨_, rfl⟩
              have hy20746 : y20746.toInt = x20682.toInt + 1 := i32_add ey20746 rfl (by decide) (by omega) (by omega)
              refine g_iinc (v := y20746) (lv' := [(2, .int y20746), (1, .int x20682), (0, .ref (r 0))]) hk 1 dX12_bestWindow_42 rfl ey20746.symm (by decide) rfl ?_
              refine g_goto (tgt := 5) hk dX12_bestWindow_45 (by decide) ?_
              exact g_lv (List.forall_mem_cons.mpr ⟨List.mem_of_getElem? (i := 0) rfl, (List.forall_mem_cons.mpr ⟨List.mem_of_getElem? (i := 1) rfl, (List.forall_mem_cons.mpr ⟨List.mem_of_getElem? (i := 2) rfl, (fun _ h => absurd h List.not_mem_nil)⟩)⟩)⟩) (ih20736 y20746 x20682 (by omega) (by omega) (by omega) (by omega) (by omega) (by omega))
  have k20747 : (0 : Int32).toInt = 0 := rfl
  have k20748 : ((-2) : Int32).toInt = (-2) := rfl
  obtain ⟨n20749, n20749a, n20749b⟩ : ∃ n : Nat, 161 - (0 : Int32).toInt < (n : Int) ∧ 0 < n := ⟨((161 - (0 : Int32).toInt : Int)).toNat + 1, by omega, by omega⟩
  exact lp20733 n20749 0 (-2) (by omega) (by omega) (by omega) (by omega) n20749a n20749b
def wo_j185_X12_best : List Cond := [Cond.methodLink RX12 251 yX12_isQuery, Cond.instanceMethod yX12_isQuery, Cond.selects RX12 yX12_isQuery yX12_isQuery, Cond.initialized RX12, Cond.methodLink RX12 244 yX12_in, Cond.static yX12_in, Cond.methodLink RX12 357 yX12_fillsFar, Cond.instanceMethod yX12_fillsFar, Cond.selects RX12 yX12_fillsFar yX12_fillsFar, Cond.methodLink RX12 360 yX12_bestWindow, Cond.instanceMethod yX12_bestWindow, Cond.selects RX12 yX12_bestWindow yX12_bestWindow, Cond.fieldLink RX12 91 "WarpDeskModel" "farBy" "[I"]
def wz_j185_X12_best : List Cond := .code yX12_best cX12_best 4 (some .int) :: (wo_j185_X12_best ++ (wsX120 ++ (wz_j147_X12_isQuery ++ (wz_j145_X12_in ++ (wz_j186_X12_fillsFar ++ (wz_j187_X12_bestWindow ++ ([] : List Cond)))))))
theorem zg_j185_X12_best : ∀ w ∈ wz_j185_X12_best, goodWord w = true := zg_cons rfl (zg_app (by decide +kernel) (zg_app zgU_wsX120 (zg_app zg_j147_X12_isQuery (zg_app zg_j145_X12_in (zg_app zg_j186_X12_fillsFar (zg_app zg_j187_X12_bestWindow zg_nil))))))
theorem zi_j185_X12_best : ∀ w ∈ wz_j185_X12_best, w ∈ lw_tbl := zi_cons zw_1843 (zi_app (zi_cons zw_1663 (zi_cons zw_1665 (zi_cons zw_67 (zi_cons zw_115 (zi_cons zw_1656 (zi_cons zw_1657 (zi_cons zw_1844 (zi_cons zw_1846 (zi_cons zw_93 (zi_cons zw_1848 (zi_cons zw_1850 (zi_cons zw_94 (zi_cons zw_1426 zi_nil))))))))))))) (zi_app inX12 (zi_app zi_j147_X12_isQuery (zi_app zi_j145_X12_in (zi_app zi_j186_X12_fillsFar (zi_app zi_j187_X12_bestWindow zi_nil))))))
set_option maxHeartbeats 4000000 in
set_option maxRecDepth 100000 in
theorem j185_X12_best (l : Launch) (D : va_G) (zt : Nat × Nat × Nat × (Nat → Nat) × (Nat → Nat)) (r : Nat → Nat) (g : Nat → ClassId) (I : Nat → Int32) (A : Nat → Nat → Int32) (L : Nat → Nat → Int64) (z1 : Int32) (z2 : Int32) (hIv : IvM I A) : GM l D zt (tyM g) yX12_best wz_j185_X12_best ({ frames := 7, cells := 0, slots := 0, locals := 156 } : Room) [.ref (r 0), .int z1, .int z2] (wM r g I A L) (fun v _ w' => ∃ (I' : Nat → Int32) (A' : Nat → Nat → Int32) (L' : Nat → Nat → Int64), Md [18, 19, 20] I I' ∧ Md [18, 19, 20, 21, 24] A A' ∧ IvM I' A' ∧ ∃ y0 : Int32, v = some (.int y0) ∧ w' = wM r g I' A' L') 0 0 := by
  refine GM.of (cc := cX12_best) (maxL := 4) (ret := (some .int)) (own := RX12) (lv := [(0, .ref (r 0)), (1, .int z1), (2, .int z2)]) (by decide) rfl rfl (Nat.le_of_ble_eq_true rfl) rfl (fun κ sz hk hR hN => ?_)
  have hin12 : ∀ w ∈ u_ws RX12 TX12 55, w ∈ wz_j185_X12_best := fun w h => (List.mem_cons_of_mem _ (List.mem_append_right _ (List.mem_append_left _ h)))
  refine g_aload_n hk dX12_best_0 rfl ?_
  refine g_iload_n hk dX12_best_1 rfl ?_
  refine g_callV (n := 1) hk (j147_X12_isQuery l D zt r g I A L z1 hIv) (SP.same _) (fun _ h => h) (gi_V (List.mem_cons_of_mem _ (List.mem_append_left _ (List.mem_of_getElem? (i := 0) rfl))) (List.mem_cons_of_mem _ (List.mem_append_left _ (List.mem_of_getElem? (i := 1) rfl))) (List.mem_cons_of_mem _ (List.mem_append_left _ (List.mem_of_getElem? (i := 2) rfl))) (List.mem_cons_of_mem _ (List.mem_append_left _ (List.mem_of_getElem? (i := 3) rfl))) (gi_sub (fun w h => (List.mem_cons_of_mem _ (List.mem_append_right _ (List.mem_append_right _ (List.mem_append_left _ h))))) zg_j147_X12_isQuery)) rfl rfl rfl (by decide +kernel) ⟨Nat.le_of_ble_eq_true rfl, Nat.le_of_ble_eq_true rfl⟩ 0 rfl rfl rfl rfl (Nat.le_of_ble_eq_true rfl) ⟨Nat.le_of_ble_eq_true rfl, Nat.le_of_ble_eq_true rfl⟩ dX12_best_2 (fun v ty' w' hp hk' => ?_)
  rcases hp with ⟨rfl, rfl⟩ | ⟨c20534, c20535, c20536, c20537, rfl, rfl⟩
  · skip
    show GW κ 4 0 0 (wM r g I A L) 5 [(0, .ref (r 0)), (1, .int z1), (2, .int z2)] [.int 0]
    refine g_if_eq (tgt := 17) (a := 0) hk dX12_best_5 (by decide) rfl (fun _ => ?_) (fun z9 => absurd (show (0 : Int) = (0 : Int) from by decide) z9)
    refine g_iconst (v := (-1)) hk dX12_best_17 (by decide) ?_
    exact g_iret hk hR rfl ⟨I, A, L, (show Md [18, 19, 20] I I from Md.rf), (show Md [18, 19, 20, 21, 24] A A from Md.rf), hIv, (-1), rfl, rfl⟩ dX12_best_18
  · skip
    have f20539 : 0 ≤ (A 11 (5 * (I 15) + z1).toNatClampNeg).toInt ∧ (A 11 (5 * (I 15) + z1).toNatClampNeg).toInt ≤ 16 := IvM_a11 hIv _
    show GW κ 4 0 0 (wM r g I A L) 5 [(0, .ref (r 0)), (1, .int z1), (2, .int z2)] [.int 1]
    refine g_if_eq (tgt := 17) (a := 1) hk dX12_best_5 (by decide) rfl (fun z9 => absurd z9 (show ¬ ((1 : Int) = (0 : Int)) from by decide)) (fun _ => ?_)
    refine g_iload_n hk dX12_best_8 rfl ?_
    refine g_iconst (v := 0) hk dX12_best_9 (by decide) ?_
    refine g_iconst (v := 1) hk dX12_best_10 (by decide) ?_
    have k20540 : (0 : Int32).toInt = 0 := rfl
    have k20541 : (1 : Int32).toInt = 1 := rfl
    refine g_callS (n := 3) hk (j145_X12_in l D zt r g I A L z2 0 1 hIv) (SP.same _) (fun _ h => h) (gi_S (List.mem_cons_of_mem _ (List.mem_append_left _ (List.mem_of_getElem? (i := 4) rfl))) (List.mem_cons_of_mem _ (List.mem_append_left _ (List.mem_of_getElem? (i := 5) rfl))) (List.mem_cons_of_mem _ (List.mem_append_left _ (List.mem_of_getElem? (i := 3) rfl))) (gi_sub (fun w h => (List.mem_cons_of_mem _ (List.mem_append_right _ (List.mem_append_right _ (List.mem_append_right _ (List.mem_append_left _ h)))))) zg_j145_X12_in)) rfl rfl rfl (by decide +kernel) ⟨Nat.le_of_ble_eq_true rfl, Nat.le_of_ble_eq_true rfl⟩ rfl rfl (Nat.le_of_ble_eq_true rfl) ⟨Nat.le_of_ble_eq_true rfl, Nat.le_of_ble_eq_true rfl⟩ dX12_best_11 (fun v ty' w' hp hk' => ?_)
    rcases hp with ⟨c20542, rfl, rfl⟩ | ⟨c20544, c20545, rfl, rfl⟩
    · skip
      have b20547l := Int32.le_toInt z2
      have b20547h := Int32.toInt_lt z2
      show GW κ 4 0 0 (wM r g I A L) 14 [(0, .ref (r 0)), (1, .int z1), (2, .int z2)] [.int 0]
      refine g_if_ne (tgt := 19) (a := 0) hk dX12_best_14 (by decide) rfl (fun z9 => absurd z9 (show ¬ ((0 : Int) ≠ (0 : Int)) from by decide)) (fun _ => ?_)
      refine g_iconst (v := (-1)) hk dX12_best_17 (by decide) ?_
      exact g_iret hk hR rfl ⟨I, A, L, (show Md [18, 19, 20] I I from Md.rf), (show Md [18, 19, 20, 21, 24] A A from Md.rf), hIv, (-1), rfl, rfl⟩ dX12_best_18
    · skip
      show GW κ 4 0 0 (wM r g I A L) 14 [(0, .ref (r 0)), (1, .int z1), (2, .int z2)] [.int 1]
      refine g_if_ne (tgt := 19) (a := 1) hk dX12_best_14 (by decide) rfl (fun _ => ?_) (fun z9 => absurd (show (1 : Int) ≠ (0 : Int) from by decide) z9)
      refine g_aload_n hk dX12_best_19 rfl ?_
      refine g_iload_n hk dX12_best_20 rfl ?_
      refine g_callV (n := 1) hk (j186_X12_fillsFar l D zt r g I A L z1 hIv (by omega) (by omega)) (SP.same _) (fun _ h => h) (gi_V (List.mem_cons_of_mem _ (List.mem_append_left _ (List.mem_of_getElem? (i := 6) rfl))) (List.mem_cons_of_mem _ (List.mem_append_left _ (List.mem_of_getElem? (i := 7) rfl))) (List.mem_cons_of_mem _ (List.mem_append_left _ (List.mem_of_getElem? (i := 8) rfl))) (List.mem_cons_of_mem _ (List.mem_append_left _ (List.mem_of_getElem? (i := 3) rfl))) (gi_sub (fun w h => (List.mem_cons_of_mem _ (List.mem_append_right _ (List.mem_append_right _ (List.mem_append_right _ (List.mem_append_right _ (List.mem_append_left _ h))))))) zg_j186_X12_fillsFar)) rfl rfl rfl (by decide +kernel) ⟨Nat.le_of_ble_eq_true rfl, Nat.le_of_ble_eq_true rfl⟩ 0 rfl rfl rfl rfl (Nat.le_of_ble_eq_true rfl) ⟨Nat.le_of_ble_eq_true rfl, Nat.le_of_ble_eq_true rfl⟩ dX12_best_21 (fun v ty' w' hp hk' => ?_)
      obtain ⟨I20680, A20680, L20680, hI20680, hA20680, hV20680, r20681, rfl, rfl⟩ := hp
      show GW κ 4 0 0 (wM r g I20680 A20680 L20680) 24 [(0, .ref (r 0)), (1, .int z1), (2, .int z2)] []
      refine g_aload_n hk dX12_best_24 rfl ?_
      refine g_callV (n := 0) hk (j187_X12_bestWindow l D zt r g I20680 A20680 L20680  hV20680) (SP.same _) (fun _ h => h) (gi_V (List.mem_cons_of_mem _ (List.mem_append_left _ (List.mem_of_getElem? (i := 9) rfl))) (List.mem_cons_of_mem _ (List.mem_append_left _ (List.mem_of_getElem? (i := 10) rfl))) (List.mem_cons_of_mem _ (List.mem_append_left _ (List.mem_of_getElem? (i := 11) rfl))) (List.mem_cons_of_mem _ (List.mem_append_left _ (List.mem_of_getElem? (i := 3) rfl))) (gi_sub (fun w h => (List.mem_cons_of_mem _ (List.mem_append_right _ (List.mem_append_right _ (List.mem_append_right _ (List.mem_append_right _ (List.mem_append_right _ (List.mem_append_left _ h)))))))) zg_j187_X12_bestWindow)) rfl rfl rfl (by decide +kernel) ⟨Nat.le_of_ble_eq_true rfl, Nat.le_of_ble_eq_true rfl⟩ 0 rfl rfl rfl rfl (Nat.le_of_ble_eq_true rfl) ⟨Nat.le_of_ble_eq_true rfl, Nat.le_of_ble_eq_true rfl⟩ dX12_best_25 (fun v ty' w' hp hk' => ?_)
      obtain ⟨y20750, c20751, c20752, rfl, rfl⟩ := hp
      show GW κ 4 0 0 (wM r g I20680 A20680 L20680) 28 [(0, .ref (r 0)), (1, .int z1), (2, .int z2)] [.int y20750]
      refine g_istore_n (lv' := [(3, .int y20750), (0, .ref (r 0)), (1, .int z1), (2, .int z2)]) hk dX12_best_28 (by decide) rfl ?_
      refine g_iload_n hk dX12_best_29 rfl ?_
      refine g_if_lt (tgt := 37) (a := y20750.toInt) hk dX12_best_30 (by decide) rfl (fun c20753 => ?_) (fun c20753 => ?_)
      · skip
        refine g_iload_n hk dX12_best_37 rfl ?_
        refine g_goto (tgt := 47) hk dX12_best_38 (by decide) ?_
        exact g_iret hk hR rfl ⟨I20680, A20680, L20680, (show Md [18, 19, 20] I I20680 from (Md.tr Md.rf hI20680 rfl)), (show Md [18, 19, 20, 21, 24] A A20680 from (Md.tr Md.rf hA20680 rfl)), hV20680, y20750, rfl, rfl⟩ dX12_best_47
      · skip
        refine g_iload_n hk dX12_best_33 rfl ?_
        refine g_if_ne (tgt := 41) (a := z2.toInt) hk dX12_best_34 (by decide) rfl (fun c20754 => ?_) (fun c20754 => ?_)
        · skip
          refine g_aload_n hk dX12_best_41 rfl ?_
          refine gM_r0_48 hk hin12 (List.mem_cons_of_mem _ (List.mem_append_left _ (List.mem_of_getElem? (i := 12) rfl))) dX12_best_42 ?_
          refine g_iload_n hk dX12_best_45 rfl ?_
          refine lM_24 (v := (A20680 24 y20750.toNatClampNeg)) hk (vp_in_iff.mpr ⟨by omega, by omega⟩) rfl dX12_best_46 ?_
          have b20755l := Int32.le_toInt (A20680 24 y20750.toNatClampNeg)
          have b20755h := Int32.toInt_lt (A20680 24 y20750.toNatClampNeg)
          exact g_iret hk hR rfl ⟨I20680, A20680, L20680, (show Md [18, 19, 20] I I20680 from (Md.tr Md.rf hI20680 rfl)), (show Md [18, 19, 20, 21, 24] A A20680 from (Md.tr Md.rf hA20680 rfl)), hV20680, (A20680 24 y20750.toNatClampNeg), rfl, rfl⟩ dX12_best_47
        · skip
          refine g_iload_n hk dX12_best_37 rfl ?_
          refine g_goto (tgt := 47) hk dX12_best_38 (by decide) ?_
          exact g_iret hk hR rfl ⟨I20680, A20680, L20680, (show Md [18, 19, 20] I I20680 from (Md.tr Md.rf hI20680 rfl)), (show Md [18, 19, 20, 21, 24] A A20680 from (Md.tr Md.rf hA20680 rfl)), hV20680, y20750, rfl, rfl⟩ dX12_best_47
def wo_j189_X12_fillsSearch : List Cond := [Cond.methodLink RX12 323 yX12_copies, Cond.instanceMethod yX12_copies, Cond.selects RX12 yX12_copies yX12_copies, Cond.initialized RX12, Cond.fieldLink RX12 94 "WarpDeskModel" "searchBy" "[I", Cond.constant RX12 282 (2000000000), Cond.methodLink RX12 342 yX12_isOf, Cond.instanceMethod yX12_isOf, Cond.selects RX12 yX12_isOf yX12_isOf, Cond.methodLink RX12 348 yX12_passes, Cond.instanceMethod yX12_passes, Cond.selects RX12 yX12_passes yX12_passes, Cond.fieldLink RX12 292 "WarpDeskModel" "laid" "I", Cond.fieldLink RX12 295 "WarpDeskModel" "brokeAt" "I", Cond.fieldLink RX12 311 "WarpDeskModel" "looksAt" "I"]
def wz_j189_X12_fillsSearch : List Cond := .code yX12_fillsSearch cX12_fillsSearch 5 none :: (wo_j189_X12_fillsSearch ++ (wsX120 ++ (wz_j151_X12_copies ++ (wz_j168_X12_isOf ++ (wz_j184_X12_passes ++ ([] : List Cond))))))
theorem zg_j189_X12_fillsSearch : ∀ w ∈ wz_j189_X12_fillsSearch, goodWord w = true := zg_cons rfl (zg_app (by decide +kernel) (zg_app zgU_wsX120 (zg_app zg_j151_X12_copies (zg_app zg_j168_X12_isOf (zg_app zg_j184_X12_passes zg_nil)))))
theorem zi_j189_X12_fillsSearch : ∀ w ∈ wz_j189_X12_fillsSearch, w ∈ lw_tbl := zi_cons zw_1863 (zi_app (zi_cons zw_1679 (zi_cons zw_1681 (zi_cons zw_70 (zi_cons zw_115 (zi_cons zw_1427 (zi_cons zw_1775 (zi_cons zw_1755 (zi_cons zw_1757 (zi_cons zw_78 (zi_cons zw_1820 (zi_cons zw_1822 (zi_cons zw_91 (zi_cons zw_1419 (zi_cons zw_1420 (zi_cons zw_1421 zi_nil))))))))))))))) (zi_app inX12 (zi_app zi_j151_X12_copies (zi_app zi_j168_X12_isOf (zi_app zi_j184_X12_passes zi_nil)))))
set_option maxHeartbeats 4000000 in
set_option maxRecDepth 100000 in
theorem j189_X12_fillsSearch (l : Launch) (D : va_G) (zt : Nat × Nat × Nat × (Nat → Nat) × (Nat → Nat)) (r : Nat → Nat) (g : Nat → ClassId) (I : Nat → Int32) (A : Nat → Nat → Int32) (L : Nat → Nat → Int64) (z1 : Int32) (hIv : IvM I A) (hp0 : 0 ≤ z1.toInt) (hp1 : z1.toInt ≤ 4) : GM l D zt (tyM g) yX12_fillsSearch wz_j189_X12_fillsSearch ({ frames := 6, cells := 0, slots := 0, locals := 135 } : Room) [.ref (r 0), .int z1] (wM r g I A L) (fun v _ w' => ∃ (I' : Nat → Int32) (A' : Nat → Nat → Int32) (L' : Nat → Nat → Int64), Md [18, 19, 20, 21] I I' ∧ Md [18, 19, 20, 21, 25] A A' ∧ IvM I' A' ∧ v = none ∧ w' = wM r g I' A' L') 0 0 := by
  refine GM.of (cc := cX12_fillsSearch) (maxL := 5) (ret := none) (own := RX12) (lv := [(0, .ref (r 0)), (1, .int z1)]) (by decide) rfl rfl (Nat.le_of_ble_eq_true rfl) rfl (fun κ sz hk hR hN => ?_)
  have hin12 : ∀ w ∈ u_ws RX12 TX12 55, w ∈ wz_j189_X12_fillsSearch := fun w h => (List.mem_cons_of_mem _ (List.mem_append_right _ (List.mem_append_left _ h)))
  refine g_aload_n hk dX12_fillsSearch_0 rfl ?_
  refine g_callV (n := 0) hk (j151_X12_copies l D zt r g I A L  hIv) (SP.same _) (fun _ h => h) (gi_V (List.mem_cons_of_mem _ (List.mem_append_left _ (List.mem_of_getElem? (i := 0) rfl))) (List.mem_cons_of_mem _ (List.mem_append_left _ (List.mem_of_getElem? (i := 1) rfl))) (List.mem_cons_of_mem _ (List.mem_append_left _ (List.mem_of_getElem? (i := 2) rfl))) (List.mem_cons_of_mem _ (List.mem_append_left _ (List.mem_of_getElem? (i := 3) rfl))) (gi_sub (fun w h => (List.mem_cons_of_mem _ (List.mem_append_right _ (List.mem_append_right _ (List.mem_append_left _ h))))) zg_j151_X12_copies)) rfl rfl rfl (by decide +kernel) ⟨Nat.le_of_ble_eq_true rfl, Nat.le_of_ble_eq_true rfl⟩ 0 rfl rfl rfl rfl (Nat.le_of_ble_eq_true rfl) ⟨Nat.le_of_ble_eq_true rfl, Nat.le_of_ble_eq_true rfl⟩ dX12_fillsSearch_1 (fun v ty' w' hp hk' => ?_)
  obtain ⟨I20772, A20772, L20772, hI20772, hA20772, hV20772, r20773, r20774, rfl, rfl⟩ := hp
  have f20775 := IvM_s17_0 hIv
  have f20776 := IvM_s17_164 hIv
  show GW κ 5 0 0 (wM r g I20772 A20772 L20772) 4 [(0, .ref (r 0)), (1, .int z1)] []
  refine g_iconst (v := 0) hk dX12_fillsSearch_4 (by decide) ?_
  refine g_istore_n (lv' := [(2, .int 0), (0, .ref (r 0)), (1, .int z1)]) hk dX12_fillsSearch_5 (by decide) rfl ?_
  have lp21303 : ∀ (n21304 : Nat) (x20777 : Int32) (I20780 : Nat → Int32) (A20780 : Nat → Nat → Int32) (L20780 : Nat → Nat → Int64), (Md [] I20772 I20780) → (Md [25] A20772 A20780) → (IvM I20780 A20780) → (0 ≤ x20777.toInt) → (x20777.toInt ≤ 9) → (10 - x20777.toInt < (n21304 : Int)) → (0 < n21304) → GW κ 5 0 0 (wM r g I20780 A20780 L20780) 6 [(2, .int x20777), (0, .ref (r 0)), (1, .int z1)] [] := by
    intro n21304
    induction n21304 with
    | zero =>
      intro x20777 I20780 A20780 L20780 hI20780 hA20780 hV20780 h21301 h21302 m21305 m21305z
      exact absurd m21305z (Nat.lt_irrefl 0)
    | succ n21304 ih21306 =>
      intro x20777 I20780 A20780 L20780 hI20780 hA20780 hV20780 h21301 h21302 m21305 m21305z
      refine g_iload_n hk dX12_fillsSearch_6 rfl ?_
      refine g_bipush (v := 9) hk dX12_fillsSearch_7 (by decide) ?_
      refine g_icmp_ge (tgt := 25) (a := x20777.toInt) (b := 9) hk dX12_fillsSearch_9 (by decide) rfl rfl (fun c21307 => ?_) (fun c21307 => ?_)
      · skip
        refine g_ldcw (v := 2000000000) hk (List.mem_cons_of_mem _ (List.mem_append_left _ (List.mem_of_getElem? (i := 5) rfl))) dX12_fillsSearch_25 ?_
        refine g_istore_n (lv' := [(2, .int 2000000000), (0, .ref (r 0)), (1, .int z1)]) hk dX12_fillsSearch_28 (by decide) rfl ?_
        refine g_iconst (v := 0) hk dX12_fillsSearch_29 (by decide) ?_
        refine g_istore_n (lv' := [(3, .int 0), (2, .int 2000000000), (0, .ref (r 0)), (1, .int z1)]) hk dX12_fillsSearch_30 (by decide) rfl ?_
        have lp21504 : ∀ (n21505 : Nat) (x21308 : Int32) (x21309 : Int32) (I21312 : Nat → Int32) (A21312 : Nat → Nat → Int32) (L21312 : Nat → Nat → Int64), (Md [18, 19, 20, 21] I20780 I21312) → (Md [19, 20, 21, 25] A20780 A21312) → (IvM I21312 A21312) → (0 ≤ x21308.toInt) → (x21308.toInt ≤ 160) → (161 - x21308.toInt < (n21505 : Int)) → (0 < n21505) → GW κ 5 0 0 (wM r g I21312 A21312 L21312) 31 [(3, .int x21308), (2, .int x21309), (0, .ref (r 0)), (1, .int z1)] [] := by
          intro n21505
          induction n21505 with
          | zero =>
            intro x21308 x21309 I21312 A21312 L21312 hI21312 hA21312 hV21312 h21502 h21503 m21506 m21506z
            exact absurd m21506z (Nat.lt_irrefl 0)
          | succ n21505 ih21507 =>
            intro x21308 x21309 I21312 A21312 L21312 hI21312 hA21312 hV21312 h21502 h21503 m21506 m21506z
            refine g_iload_n hk dX12_fillsSearch_31 rfl ?_
            refine g_sipush (v := 160) hk dX12_fillsSearch_32 (by decide) ?_
            refine g_icmp_ge (tgt := 142) (a := x21308.toInt) (b := 160) hk dX12_fillsSearch_35 (by decide) rfl rfl (fun c21508 => ?_) (fun c21508 => ?_)
            · skip
              exact g_vret hk hR ⟨I21312, A21312, L21312, (show Md [18, 19, 20, 21] I I21312 from (Md.tr (Md.tr (Md.tr Md.rf hI20772 rfl) hI20780 rfl) hI21312 rfl)), (show Md [18, 19, 20, 21, 25] A A21312 from (Md.tr (Md.tr (Md.tr Md.rf hA20772 rfl) hA20780 rfl) hA21312 rfl)), hV21312, rfl, rfl⟩ dX12_fillsSearch_142
            · skip
              refine g_aload_n hk dX12_fillsSearch_38 rfl ?_
              refine g_iload_n hk dX12_fillsSearch_39 rfl ?_
              refine g_iload_n hk dX12_fillsSearch_40 rfl ?_
              refine g_callV (n := 2) hk (j168_X12_isOf l D zt r g I21312 A21312 L21312 z1 x21308 hV21312) (SP.same _) (fun _ h => h) (gi_V (List.mem_cons_of_mem _ (List.mem_append_left _ (List.mem_of_getElem? (i := 6) rfl))) (List.mem_cons_of_mem _ (List.mem_append_left _ (List.mem_of_getElem? (i := 7) rfl))) (List.mem_cons_of_mem _ (List.mem_append_left _ (List.mem_of_getElem? (i := 8) rfl))) (List.mem_cons_of_mem _ (List.mem_append_left _ (List.mem_of_getElem? (i := 3) rfl))) (gi_sub (fun w h => (List.mem_cons_of_mem _ (List.mem_append_right _ (List.mem_append_right _ (List.mem_append_right _ (List.mem_append_left _ h)))))) zg_j168_X12_isOf)) rfl rfl rfl (by decide +kernel) ⟨Nat.le_of_ble_eq_true rfl, Nat.le_of_ble_eq_true rfl⟩ 0 rfl rfl rfl rfl (Nat.le_of_ble_eq_true rfl) ⟨Nat.le_of_ble_eq_true rfl, Nat.le_of_ble_eq_true rfl⟩ dX12_fillsSearch_41 (fun v ty' w' hp hk' => ?_)
              rcases hp with ⟨rfl, rfl⟩ | ⟨c21510, c21511, c21512, c21513, c21514, c21515, c21516, c21517, c21518, c21519, c21520, c21521, rfl, rfl⟩
              · skip
                show GW κ 5 0 0 (wM r g I21312 A21312 L21312) 44 [(3, .int x21308), (2, .int x21309), (0, .ref (r 0)), (1, .int z1)] [.int 0]
                refine g_if_ne (tgt := 50) (a := 0) hk dX12_fillsSearch_44 (by decide) rfl (fun z9 => absurd z9 (show ¬ ((0 : Int) ≠ (0 : Int)) from by decide)) (fun _ => ?_)
                refine g_goto (tgt := 136) hk dX12_fillsSearch_47 (by decide) ?_
                obtain ⟨y21523, ey21523⟩ : ∃ y : Int32, y = x21308 + Int32.ofInt 1 := ⟨_, rfl⟩
                have hy21523 : y21523.toInt = x21308.toInt + 1 := i32_add ey21523 rfl (by decide) (by omega) (by omega)
                refine g_iinc (v := y21523) (lv' := [(3, .int y21523), (2, .int x21309), (0, .ref (r 0)), (1, .int z1)]) hk 0 dX12_fillsSearch_136 rfl ey21523.symm (by decide) rfl ?_
                refine g_goto (tgt := 31) hk dX12_fillsSearch_139 (by decide) ?_
                have b21524l := Int32.le_toInt x21309
                have b21524h := Int32.toInt_lt x21309
                exact g_lv (List.forall_mem_cons.mpr ⟨List.mem_of_getElem? (i := 0) rfl, (List.forall_mem_cons.mpr ⟨List.mem_of_getElem? (i := 1) rfl, (List.forall_mem_cons.mpr ⟨List.mem_of_getElem? (i := 2) rfl, (List.forall_mem_cons.mpr ⟨List.mem_of_getElem? (i := 3) rfl, (fun _ h => absurd h List.not_mem_nil)⟩)⟩)⟩)⟩) (ih21507 y21523 x21309 I21312 A21312 L21312 (show Md [18, 19, 20, 21] I20780 I21312 from Md.tr hI21312 (show Md [18, 19, 20, 21] I21312 I21312 from Md.rf) rfl) (show Md [19, 20, 21, 25] A20780 A21312 from Md.tr hA21312 (show Md [19, 20, 21, 25] A21312 A21312 from Md.rf) rfl) hV21312 (by omega) (by omega) (by omega) (by omega))
              · skip
                have f21525 : 0 ≤ (A 11 (5 * (I 15) + z1).toNatClampNeg).toInt ∧ (A 11 (5 * (I 15) + z1).toNatClampNeg).toInt ≤ 16 := IvM_a11 hIv _
                rw [show (A21312 11 (5 * (I21312 15) + z1).toNatClampNeg) = (A 11 (5 * (I 15) + z1).toNatClampNeg) from (by rw [show I21312 15 = (I 15) from ((hI21312 15 rfl).trans ((hI20780 15 rfl).trans (hI20772 15 rfl)))]; exact ((congrFun (hA21312 11 rfl) _).trans ((congrFun (hA20780 11 rfl) _).trans (congrFun (hA20772 11 rfl) _))))] at c21520
                rw [show (A21312 11 (5 * (I21312 15) + z1).toNatClampNeg) = (A 11 (5 * (I 15) + z1).toNatClampNeg) from (by rw [show I21312 15 = (I 15) from ((hI21312 15 rfl).trans ((hI20780 15 rfl).trans (hI20772 15 rfl)))]; exact ((congrFun (hA21312 11 rfl) _).trans ((congrFun (hA20780 11 rfl) _).trans (congrFun (hA20772 11 rfl) _))))] at c21521
                show GW κ 5 0 0 (wM r g I21312 A21312 L21312) 44 [(3, .int x21308), (2, .int x21309), (0, .ref (r 0)), (1, .int z1)] [.int 1]
                refine g_if_ne (tgt := 50) (a := 1) hk dX12_fillsSearch_44 (by decide) rfl (fun _ => ?_) (fun z9 => absurd (show (1 : Int) ≠ (0 : Int) from by decide) z9)
                refine g_aload_n hk dX12_fillsSearch_50 rfl ?_
                refine g_iload_n hk dX12_fillsSearch_51 rfl ?_
                refine g_iload_n hk dX12_fillsSearch_52 rfl ?_
                refine g_iload_n hk dX12_fillsSearch_53 rfl ?_
                refine g_callV (n := 3) hk (j184_X12_passes l D zt r g I21312 A21312 L21312 z1 x21308 x21309 hV21312 (by omega) (by omega) (by omega) (by omega) (by first | (rw [show (A21312 11 (5 * (I21312 15) + z1).toNatClampNeg) = (A 11 (5 * (I 15) + z1).toNatClampNeg) from (by rw [show I21312 15 = (I 15) from ((hI21312 15 rfl).trans ((hI20780 15 rfl).trans (hI20772 15 rfl)))]; exact ((congrFun (hA21312 11 rfl) _).trans ((congrFun (hA20780 11 rfl) _).trans (congrFun (hA20772 11 rfl) _))))] <;> omega) | omega) (by first | (rw [show (A21312 11 (5 * (I21312 15) + z1).toNatClampNeg) = (A 11 (5 * (I 15) + z1).toNatClampNeg) from (by rw [show I21312 15 = (I 15) from ((hI21312 15 rfl).trans ((hI20780 15 rfl).trans (hI20772 15 rfl)))]; exact ((congrFun (hA21312 11 rfl) _).trans ((congrFun (hA20780 11 rfl) _).trans (congrFun (hA20772 11 rfl) _))))] <;> omega) | omega)) (SP.same _) (fun _ h => h) (gi_V (List.mem_cons_of_mem _ (List.mem_append_left _ (List.mem_of_getElem? (i := 9) rfl))) (List.mem_cons_of_mem _ (List.mem_append_left _ (List.mem_of_getElem? (i := 10) rfl))) (List.mem_cons_of_mem _ (List.mem_append_left _ (List.mem_of_getElem? (i := 11) rfl))) (List.mem_cons_of_mem _ (List.mem_append_left _ (List.mem_of_getElem? (i := 3) rfl))) (gi_sub (fun w h => (List.mem_cons_of_mem _ (List.mem_append_right _ (List.mem_append_right _ (List.mem_append_right _ (List.mem_append_right _ (List.mem_append_left _ h))))))) zg_j184_X12_passes)) rfl rfl rfl (by decide +kernel) ⟨Nat.le_of_ble_eq_true rfl, Nat.le_of_ble_eq_true rfl⟩ 0 rfl rfl rfl rfl (Nat.le_of_ble_eq_true rfl) ⟨Nat.le_of_ble_eq_true rfl, Nat.le_of_ble_eq_true rfl⟩ dX12_fillsSearch_54 (fun v ty' w' hp hk' => ?_)
                obtain ⟨I21529, A21529, L21529, hI21529, hA21529, hV21529, y21526, c21527, c21528, rfl, rfl⟩ := hp
                show GW κ 5 0 0 (wM r g I21529 A21529 L21529) 57 [(3, .int x21308), (2, .int x21309), (0, .ref (r 0)), (1, .int z1)] [.int y21526]
                refine g_istore (lv' := [(4, .int y21526), (3, .int x21308), (2, .int x21309), (0, .ref (r 0)), (1, .int z1)]) hk dX12_fillsSearch_57 (by decide) rfl ?_
                refine g_aload_n hk dX12_fillsSearch_59 rfl ?_
                refine gM_r0_49 hk hin12 (List.mem_cons_of_mem _ (List.mem_append_left _ (List.mem_of_getElem? (i := 4) rfl))) dX12_fillsSearch_60 ?_
                refine g_iconst (v := 0) hk dX12_fillsSearch_63 (by decide) ?_
                refine g_dup2 hk dX12_fillsSearch_64 rfl rfl ?_
                refine lM_25 (v := (A21312 25 0)) hk (vp_in_iff.mpr ⟨by decide, by decide⟩) (congrFun (hA21529 25 rfl) _) dX12_fillsSearch_65 ?_
                refine g_iconst (v := 1) hk dX12_fillsSearch_66 (by decide) ?_
                have b21530l := Int32.le_toInt (A21312 25 0)
                have b21530h := Int32.toInt_lt (A21312 25 0)
                refine g_iadd hk dX12_fillsSearch_67 ?_
                refine g_topi (fun y21531 ey21531 => ?_)
                refine sM_25 (j := 0) hk (vp_in_iff.mpr ⟨by decide, by decide⟩) (by decide) dX12_fillsSearch_68 ?_
                refine g_aload_n hk dX12_fillsSearch_69 rfl ?_
                refine gM_r0_49 hk hin12 (List.mem_cons_of_mem _ (List.mem_append_left _ (List.mem_of_getElem? (i := 4) rfl))) dX12_fillsSearch_70 ?_
                refine g_iload hk dX12_fillsSearch_73 rfl ?_
                refine g_if_ne (tgt := 83) (a := y21526.toInt) hk dX12_fillsSearch_75 (by decide) rfl (fun c21532 => ?_) (fun c21532 => ?_)
                · skip
                  refine g_iload hk dX12_fillsSearch_83 rfl ?_
                  refine g_dup2 hk dX12_fillsSearch_85 rfl rfl ?_
                  refine lM_25 hk (vp_in_iff.mpr ⟨by omega, by omega⟩) rfl dX12_fillsSearch_86 ?_
                  refine g_topi (fun y21533 ey21533 => ?_)
                  refine g_iconst (v := 1) hk dX12_fillsSearch_87 (by decide) ?_
                  have b21534l := Int32.le_toInt y21533
                  have b21534h := Int32.toInt_lt y21533
                  refine g_iadd hk dX12_fillsSearch_88 ?_
                  refine g_topi (fun y21535 ey21535 => ?_)
                  refine sM_25 (j := y21526.toNatClampNeg) hk (vp_in_iff.mpr ⟨by omega, by omega⟩) rfl dX12_fillsSearch_89 ?_
                  refine g_aload_n hk dX12_fillsSearch_90 rfl ?_
                  refine gM_r0_49 hk hin12 (List.mem_cons_of_mem _ (List.mem_append_left _ (List.mem_of_getElem? (i := 4) rfl))) dX12_fillsSearch_91 ?_
                  refine g_bipush (v := 6) hk dX12_fillsSearch_94 (by decide) ?_
                  refine g_dup2 hk dX12_fillsSearch_96 rfl rfl ?_
                  refine lM_25 hk (vp_in_iff.mpr ⟨by decide, by decide⟩) rfl dX12_fillsSearch_97 ?_
                  refine g_topi (fun y21536 ey21536 => ?_)
                  refine g_aload_n hk dX12_fillsSearch_98 rfl ?_
                  refine gM_i19 (v := (I21529 19)) hk hin12 (List.mem_cons_of_mem _ (List.mem_append_left _ (List.mem_of_getElem? (i := 12) rfl))) dX12_fillsSearch_99 rfl ?_
                  have b21537l := Int32.le_toInt y21536
                  have b21537h := Int32.toInt_lt y21536
                  have b21538l := Int32.le_toInt (I21529 19)
                  have b21538h := Int32.toInt_lt (I21529 19)
                  refine g_iadd hk dX12_fillsSearch_102 ?_
                  refine g_topi (fun y21539 ey21539 => ?_)
                  refine sM_25 (j := 6) hk (vp_in_iff.mpr ⟨by decide, by decide⟩) (by decide) dX12_fillsSearch_103 ?_
                  refine g_iload hk dX12_fillsSearch_104 rfl ?_
                  refine g_iconst (v := 4) hk dX12_fillsSearch_106 (by decide) ?_
                  refine g_icmp_ne (tgt := 126) (a := y21526.toInt) (b := 4) hk dX12_fillsSearch_107 (by decide) rfl rfl (fun c21540 => ?_) (fun c21540 => ?_)
                  · skip
                    refine g_iload hk dX12_fillsSearch_126 rfl ?_
                    refine g_if_ne (tgt := 136) (a := y21526.toInt) hk dX12_fillsSearch_128 (by decide) rfl (fun _ => ?_) (fun z9 => absurd (show y21526.toInt ≠ 0 from by omega) z9)
                    obtain ⟨y21541, ey21541⟩ : ∃ y : Int32, y = x21308 + Int32.ofInt 1 := ⟨_, rfl⟩
                    have hy21541 : y21541.toInt = x21308.toInt + 1 := i32_add ey21541 rfl (by decide) (by omega) (by omega)
                    refine g_iinc (v := y21541) (lv' := [(3, .int y21541), (4, .int y21526), (2, .int x21309), (0, .ref (r 0)), (1, .int z1)]) hk 1 dX12_fillsSearch_136 rfl ey21541.symm (by decide) rfl ?_
                    refine g_goto (tgt := 31) hk dX12_fillsSearch_139 (by decide) ?_
                    have b21542l := Int32.le_toInt x21309
                    have b21542h := Int32.toInt_lt x21309
                    exact g_lv (List.forall_mem_cons.mpr ⟨List.mem_of_getElem? (i := 0) rfl, (List.forall_mem_cons.mpr ⟨List.mem_of_getElem? (i := 2) rfl, (List.forall_mem_cons.mpr ⟨List.mem_of_getElem? (i := 3) rfl, (List.forall_mem_cons.mpr ⟨List.mem_of_getElem? (i := 4) rfl, (fun _ h => absurd h List.not_mem_nil)⟩)⟩)⟩)⟩) (ih21507 y21541 x21309 I21529 (up3 (up3 (up3 A21529 25 0 y21531) 25 (y21526.toNatClampNeg) y21535) 25 6 y21539) L21529 (show Md [18, 19, 20, 21] I20780 I21529 from Md.tr hI21312 (show Md [18, 19, 20, 21] I21312 I21529 from (Md.tr Md.rf hI21529 rfl)) rfl) (show Md [19, 20, 21, 25] A20780 (up3 (up3 (up3 A21529 25 0 y21531) 25 (y21526.toNatClampNeg) y21535) 25 6 y21539) from Md.tr hA21312 (show Md [19, 20, 21, 25] A21312 (up3 (up3 (up3 A21529 25 0 y21531) 25 (y21526.toNatClampNeg) y21535) 25 6 y21539) from (Md.up3 (Md.up3 (Md.up3 (Md.tr Md.rf hA21529 rfl) rfl) rfl) rfl)) rfl) ⟨(IvM_f1 (I := I21529) (A := A21529) hV21529), (IvM_f2 (I := I21529) (A := A21529) hV21529), (IvM_f3 (I := I21529) (A := A21529) hV21529), (IvM_f4 (I := I21529) (A := A21529) hV21529), (IvM_f6 (I := I21529) (A := A21529) hV21529), (IvM_f8 (I := I21529) (A := A21529) hV21529), (IvM_f15 (I := I21529) (A := A21529) hV21529), (IvM_f16 (I := I21529) (A := A21529) hV21529), (IvM_f17 (I := I21529) (A := A21529) hV21529), (IvM_f18 (I := I21529) (A := A21529) hV21529), (IvM_f22 (I := I21529) (A := A21529) hV21529), (IvM_f23 (I := I21529) (A := A21529) hV21529), (IvM_f24 (I := I21529) (A := A21529) hV21529), (IvM_a11 (I := I21529) (A := A21529) hV21529), (IvM_a26 (I := I21529) (A := A21529) hV21529), (IvM_s8_0 (I := I21529) (A := A21529) hV21529), (IvM_s8_1 (I := I21529) (A := A21529) hV21529), (IvM_s10_0 (I := I21529) (A := A21529) hV21529), (IvM_s10_1 (I := I21529) (A := A21529) hV21529), (IvM_s17_0 (I := I21529) (A := A21529) hV21529), (IvM_s17_164 (I := I21529) (A := A21529) hV21529), (IvM_lv (I := I21529) (A := A21529) hV21529), (IvM_sd (I := I21529) (A := A21529) hV21529), (IvM_nq (I := I21529) (A := A21529) hV21529), (IvM_hr (I := I21529) (A := A21529) hV21529), (IvM_hh (I := I21529) (A := A21529) hV21529), trivial⟩ (by omega) (by omega) (by omega) (by omega))
                  · skip
                    refine g_aload_n hk dX12_fillsSearch_110 rfl ?_
                    refine gM_r0_49 hk hin12 (List.mem_cons_of_mem _ (List.mem_append_left _ (List.mem_of_getElem? (i := 4) rfl))) dX12_fillsSearch_111 ?_
                    refine g_bipush (v := 8) hk dX12_fillsSearch_114 (by decide) ?_
                    refine g_dup2 hk dX12_fillsSearch_116 rfl rfl ?_
                    refine lM_25 hk (vp_in_iff.mpr ⟨by decide, by decide⟩) rfl dX12_fillsSearch_117 ?_
                    refine g_topi (fun y21543 ey21543 => ?_)
                    refine g_aload_n hk dX12_fillsSearch_118 rfl ?_
                    refine gM_i20 (v := (I21529 20)) hk hin12 (List.mem_cons_of_mem _ (List.mem_append_left _ (List.mem_of_getElem? (i := 13) rfl))) dX12_fillsSearch_119 rfl ?_
                    refine g_iconst (v := 1) hk dX12_fillsSearch_122 (by decide) ?_
                    have b21544l := Int32.le_toInt (I21529 20)
                    have b21544h := Int32.toInt_lt (I21529 20)
                    refine g_iadd hk dX12_fillsSearch_123 ?_
                    refine g_topi (fun y21545 ey21545 => ?_)
                    have b21546l := Int32.le_toInt y21543
                    have b21546h := Int32.toInt_lt y21543
                    have b21547l := Int32.le_toInt y21545
                    have b21547h := Int32.toInt_lt y21545
                    refine g_iadd hk dX12_fillsSearch_124 ?_
                    refine g_topi (fun y21548 ey21548 => ?_)
                    refine sM_25 (j := 8) hk (vp_in_iff.mpr ⟨by decide, by decide⟩) (by decide) dX12_fillsSearch_125 ?_
                    refine g_iload hk dX12_fillsSearch_126 rfl ?_
                    refine g_if_ne (tgt := 136) (a := y21526.toInt) hk dX12_fillsSearch_128 (by decide) rfl (fun _ => ?_) (fun z9 => absurd (show y21526.toInt ≠ 0 from by omega) z9)
                    obtain ⟨y21549, ey21549⟩ : ∃ y : Int32, y = x21308 + Int32.ofInt 1 := ⟨_, rfl⟩
                    have hy21549 : y21549.toInt = x21308.toInt + 1 := i32_add ey21549 rfl (by decide) (by omega) (by omega)
                    refine g_iinc (v := y21549) (lv' := [(3, .int y21549), (4, .int y21526), (2, .int x21309), (0, .ref (r 0)), (1, .int z1)]) hk 1 dX12_fillsSearch_136 rfl ey21549.symm (by decide) rfl ?_
                    refine g_goto (tgt := 31) hk dX12_fillsSearch_139 (by decide) ?_
                    have b21550l := Int32.le_toInt x21309
                    have b21550h := Int32.toInt_lt x21309
                    exact g_lv (List.forall_mem_cons.mpr ⟨List.mem_of_getElem? (i := 0) rfl, (List.forall_mem_cons.mpr ⟨List.mem_of_getElem? (i := 2) rfl, (List.forall_mem_cons.mpr ⟨List.mem_of_getElem? (i := 3) rfl, (List.forall_mem_cons.mpr ⟨List.mem_of_getElem? (i := 4) rfl, (fun _ h => absurd h List.not_mem_nil)⟩)⟩)⟩)⟩) (ih21507 y21549 x21309 I21529 (up3 (up3 (up3 (up3 A21529 25 0 y21531) 25 (y21526.toNatClampNeg) y21535) 25 6 y21539) 25 8 y21548) L21529 (show Md [18, 19, 20, 21] I20780 I21529 from Md.tr hI21312 (show Md [18, 19, 20, 21] I21312 I21529 from (Md.tr Md.rf hI21529 rfl)) rfl) (show Md [19, 20, 21, 25] A20780 (up3 (up3 (up3 (up3 A21529 25 0 y21531) 25 (y21526.toNatClampNeg) y21535) 25 6 y21539) 25 8 y21548) from Md.tr hA21312 (show Md [19, 20, 21, 25] A21312 (up3 (up3 (up3 (up3 A21529 25 0 y21531) 25 (y21526.toNatClampNeg) y21535) 25 6 y21539) 25 8 y21548) from (Md.up3 (Md.up3 (Md.up3 (Md.up3 (Md.tr Md.rf hA21529 rfl) rfl) rfl) rfl) rfl)) rfl) ⟨(IvM_f1 (I := I21529) (A := A21529) hV21529), (IvM_f2 (I := I21529) (A := A21529) hV21529), (IvM_f3 (I := I21529) (A := A21529) hV21529), (IvM_f4 (I := I21529) (A := A21529) hV21529), (IvM_f6 (I := I21529) (A := A21529) hV21529), (IvM_f8 (I := I21529) (A := A21529) hV21529), (IvM_f15 (I := I21529) (A := A21529) hV21529), (IvM_f16 (I := I21529) (A := A21529) hV21529), (IvM_f17 (I := I21529) (A := A21529) hV21529), (IvM_f18 (I := I21529) (A := A21529) hV21529), (IvM_f22 (I := I21529) (A := A21529) hV21529), (IvM_f23 (I := I21529) (A := A21529) hV21529), (IvM_f24 (I := I21529) (A := A21529) hV21529), (IvM_a11 (I := I21529) (A := A21529) hV21529), (IvM_a26 (I := I21529) (A := A21529) hV21529), (IvM_s8_0 (I := I21529) (A := A21529) hV21529), (IvM_s8_1 (I := I21529) (A := A21529) hV21529), (IvM_s10_0 (I := I21529) (A := A21529) hV21529), (IvM_s10_1 (I := I21529) (A := A21529) hV21529), (IvM_s17_0 (I := I21529) (A := A21529) hV21529), (IvM_s17_164 (I := I21529) (A := A21529) hV21529), (IvM_lv (I := I21529) (A := A21529) hV21529), (IvM_sd (I := I21529) (A := A21529) hV21529), (IvM_nq (I := I21529) (A := A21529) hV21529), (IvM_hr (I := I21529) (A := A21529) hV21529), (IvM_hh (I := I21529) (A := A21529) hV21529), trivial⟩ (by omega) (by omega) (by omega) (by omega))
                · skip
                  refine g_bipush (v := 7) hk dX12_fillsSearch_78 (by decide) ?_
                  refine g_goto (tgt := 85) hk dX12_fillsSearch_80 (by decide) ?_
                  refine g_dup2 hk dX12_fillsSearch_85 rfl rfl ?_
                  refine lM_25 hk (vp_in_iff.mpr ⟨by decide, by decide⟩) rfl dX12_fillsSearch_86 ?_
                  refine g_topi (fun y21551 ey21551 => ?_)
                  refine g_iconst (v := 1) hk dX12_fillsSearch_87 (by decide) ?_
                  have b21552l := Int32.le_toInt y21551
                  have b21552h := Int32.toInt_lt y21551
                  refine g_iadd hk dX12_fillsSearch_88 ?_
                  refine g_topi (fun y21553 ey21553 => ?_)
                  refine sM_25 (j := 7) hk (vp_in_iff.mpr ⟨by decide, by decide⟩) (by decide) dX12_fillsSearch_89 ?_
                  refine g_aload_n hk dX12_fillsSearch_90 rfl ?_
                  refine gM_r0_49 hk hin12 (List.mem_cons_of_mem _ (List.mem_append_left _ (List.mem_of_getElem? (i := 4) rfl))) dX12_fillsSearch_91 ?_
                  refine g_bipush (v := 6) hk dX12_fillsSearch_94 (by decide) ?_
                  refine g_dup2 hk dX12_fillsSearch_96 rfl rfl ?_
                  refine lM_25 hk (vp_in_iff.mpr ⟨by decide, by decide⟩) rfl dX12_fillsSearch_97 ?_
                  refine g_topi (fun y21554 ey21554 => ?_)
                  refine g_aload_n hk dX12_fillsSearch_98 rfl ?_
                  refine gM_i19 (v := (I21529 19)) hk hin12 (List.mem_cons_of_mem _ (List.mem_append_left _ (List.mem_of_getElem? (i := 12) rfl))) dX12_fillsSearch_99 rfl ?_
                  have b21555l := Int32.le_toInt y21554
                  have b21555h := Int32.toInt_lt y21554
                  have b21556l := Int32.le_toInt (I21529 19)
                  have b21556h := Int32.toInt_lt (I21529 19)
                  refine g_iadd hk dX12_fillsSearch_102 ?_
                  refine g_topi (fun y21557 ey21557 => ?_)
                  refine sM_25 (j := 6) hk (vp_in_iff.mpr ⟨by decide, by decide⟩) (by decide) dX12_fillsSearch_103 ?_
                  refine g_iload hk dX12_fillsSearch_104 rfl ?_
                  refine g_iconst (v := 4) hk dX12_fillsSearch_106 (by decide) ?_
                  refine g_icmp_ne (tgt := 126) (a := y21526.toInt) (b := 4) hk dX12_fillsSearch_107 (by decide) rfl rfl (fun _ => ?_) (fun z9 => absurd (show y21526.toInt ≠ 4 from by omega) z9)
                  refine g_iload hk dX12_fillsSearch_126 rfl ?_
                  refine g_if_ne (tgt := 136) (a := y21526.toInt) hk dX12_fillsSearch_128 (by decide) rfl (fun z9 => absurd z9 (show ¬ (y21526.toInt ≠ 0) from by omega)) (fun _ => ?_)
                  refine g_aload_n hk dX12_fillsSearch_131 rfl ?_
                  refine gM_i21 (v := (I21529 21)) hk hin12 (List.mem_cons_of_mem _ (List.mem_append_left _ (List.mem_of_getElem? (i := 14) rfl))) dX12_fillsSearch_132 rfl ?_
                  refine g_istore_n (lv' := [(2, .int (I21529 21)), (4, .int y21526), (3, .int x21308), (0, .ref (r 0)), (1, .int z1)]) hk dX12_fillsSearch_135 (by decide) rfl ?_
                  obtain ⟨y21558, ey21558⟩ : ∃ y : Int32, y = x21308 + Int32.ofInt 1 := ⟨_, rfl⟩
                  have hy21558 : y21558.toInt = x21308.toInt + 1 := i32_add ey21558 rfl (by decide) (by omega) (by omega)
                  refine g_iinc (v := y21558) (lv' := [(3, .int y21558), (2, .int (I21529 21)), (4, .int y21526), (0, .ref (r 0)), (1, .int z1)]) hk 2 dX12_fillsSearch_136 rfl ey21558.symm (by decide) rfl ?_
                  refine g_goto (tgt := 31) hk dX12_fillsSearch_139 (by decide) ?_
                  have b21559l := Int32.le_toInt (I21529 21)
                  have b21559h := Int32.toInt_lt (I21529 21)
                  exact g_lv (List.forall_mem_cons.mpr ⟨List.mem_of_getElem? (i := 0) rfl, (List.forall_mem_cons.mpr ⟨List.mem_of_getElem? (i := 1) rfl, (List.forall_mem_cons.mpr ⟨List.mem_of_getElem? (i := 3) rfl, (List.forall_mem_cons.mpr ⟨List.mem_of_getElem? (i := 4) rfl, (fun _ h => absurd h List.not_mem_nil)⟩)⟩)⟩)⟩) (ih21507 y21558 (I21529 21) I21529 (up3 (up3 (up3 A21529 25 0 y21531) 25 7 y21553) 25 6 y21557) L21529 (show Md [18, 19, 20, 21] I20780 I21529 from Md.tr hI21312 (show Md [18, 19, 20, 21] I21312 I21529 from (Md.tr Md.rf hI21529 rfl)) rfl) (show Md [19, 20, 21, 25] A20780 (up3 (up3 (up3 A21529 25 0 y21531) 25 7 y21553) 25 6 y21557) from Md.tr hA21312 (show Md [19, 20, 21, 25] A21312 (up3 (up3 (up3 A21529 25 0 y21531) 25 7 y21553) 25 6 y21557) from (Md.up3 (Md.up3 (Md.up3 (Md.tr Md.rf hA21529 rfl) rfl) rfl) rfl)) rfl) ⟨(IvM_f1 (I := I21529) (A := A21529) hV21529), (IvM_f2 (I := I21529) (A := A21529) hV21529), (IvM_f3 (I := I21529) (A := A21529) hV21529), (IvM_f4 (I := I21529) (A := A21529) hV21529), (IvM_f6 (I := I21529) (A := A21529) hV21529), (IvM_f8 (I := I21529) (A := A21529) hV21529), (IvM_f15 (I := I21529) (A := A21529) hV21529), (IvM_f16 (I := I21529) (A := A21529) hV21529), (IvM_f17 (I := I21529) (A := A21529) hV21529), (IvM_f18 (I := I21529) (A := A21529) hV21529), (IvM_f22 (I := I21529) (A := A21529) hV21529), (IvM_f23 (I := I21529) (A := A21529) hV21529), (IvM_f24 (I := I21529) (A := A21529) hV21529), (IvM_a11 (I := I21529) (A := A21529) hV21529), (IvM_a26 (I := I21529) (A := A21529) hV21529), (IvM_s8_0 (I := I21529) (A := A21529) hV21529), (IvM_s8_1 (I := I21529) (A := A21529) hV21529), (IvM_s10_0 (I := I21529) (A := A21529) hV21529), (IvM_s10_1 (I := I21529) (A := A21529) hV21529), (IvM_s17_0 (I := I21529) (A := A21529) hV21529), (IvM_s17_164 (I := I21529) (A := A21529) hV21529), (IvM_lv (I := I21529) (A := A21529) hV21529), (IvM_sd (I := I21529) (A := A21529) hV21529), (IvM_nq (I := I21529) (A := A21529) hV21529), (IvM_hr (I := I21529) (A := A21529) hV21529), (IvM_hh (I := I21529) (A := A21529) hV21529), trivial⟩ (by omega) (by omega) (by omega) (by omega))
        have k21560 : (0 : Int32).toInt = 0 := rfl
        have k21561 : (2000000000 : Int32).toInt = 2000000000 := rfl
        obtain ⟨n21562, n21562a, n21562b⟩ : ∃ n : Nat, 161 - (0 : Int32).toInt < (n : Int) ∧ 0 < n := ⟨((161 - (0 : Int32).toInt : Int)).toNat + 1, by omega, by omega⟩
        exact lp21504 n21562 0 2000000000 I20780 A20780 L20780 Md.rf Md.rf hV20780 (by omega) (by omega) n21562a n21562b
      · skip
        refine g_aload_n hk dX12_fillsSearch_12 rfl ?_
        refine gM_r0_49 hk hin12 (List.mem_cons_of_mem _ (List.mem_append_left _ (List.mem_of_getElem? (i := 4) rfl))) dX12_fillsSearch_13 ?_
        refine g_iload_n hk dX12_fillsSearch_16 rfl ?_
        refine g_iconst (v := 0) hk dX12_fillsSearch_17 (by decide) ?_
        have k21563 : (0 : Int32).toInt = 0 := rfl
        refine sM_25 (j := x20777.toNatClampNeg) hk (vp_in_iff.mpr ⟨by omega, by omega⟩) rfl dX12_fillsSearch_18 ?_
        obtain ⟨y21564, ey21564⟩ : ∃ y : Int32, y = x20777 + Int32.ofInt 1 := ⟨_, rfl⟩
        have hy21564 : y21564.toInt = x20777.toInt + 1 := i32_add ey21564 rfl (by decide) (by omega) (by omega)
        refine g_iinc (v := y21564) (lv' := [(2, .int y21564), (0, .ref (r 0)), (1, .int z1)]) hk 0 dX12_fillsSearch_19 rfl ey21564.symm (by decide) rfl ?_
        refine g_goto (tgt := 6) hk dX12_fillsSearch_22 (by decide) ?_
        exact g_lv (List.forall_mem_cons.mpr ⟨List.mem_of_getElem? (i := 0) rfl, (List.forall_mem_cons.mpr ⟨List.mem_of_getElem? (i := 1) rfl, (List.forall_mem_cons.mpr ⟨List.mem_of_getElem? (i := 2) rfl, (fun _ h => absurd h List.not_mem_nil)⟩)⟩)⟩) (ih21306 y21564 I20780 (up3 A20780 25 (x20777.toNatClampNeg) 0) L20780 (show Md [] I20772 I20780 from Md.tr hI20780 (show Md [] I20780 I20780 from Md.rf) rfl) (show Md [25] A20772 (up3 A20780 25 (x20777.toNatClampNeg) 0) from Md.tr hA20780 (show Md [25] A20780 (up3 A20780 25 (x20777.toNatClampNeg) 0) from (Md.up3 Md.rf rfl)) rfl) ⟨(IvM_f1 (I := I20780) (A := A20780) hV20780), (IvM_f2 (I := I20780) (A := A20780) hV20780), (IvM_f3 (I := I20780) (A := A20780) hV20780), (IvM_f4 (I := I20780) (A := A20780) hV20780), (IvM_f6 (I := I20780) (A := A20780) hV20780), (IvM_f8 (I := I20780) (A := A20780) hV20780), (IvM_f15 (I := I20780) (A := A20780) hV20780), (IvM_f16 (I := I20780) (A := A20780) hV20780), (IvM_f17 (I := I20780) (A := A20780) hV20780), (IvM_f18 (I := I20780) (A := A20780) hV20780), (IvM_f22 (I := I20780) (A := A20780) hV20780), (IvM_f23 (I := I20780) (A := A20780) hV20780), (IvM_f24 (I := I20780) (A := A20780) hV20780), (IvM_a11 (I := I20780) (A := A20780) hV20780), (IvM_a26 (I := I20780) (A := A20780) hV20780), (IvM_s8_0 (I := I20780) (A := A20780) hV20780), (IvM_s8_1 (I := I20780) (A := A20780) hV20780), (IvM_s10_0 (I := I20780) (A := A20780) hV20780), (IvM_s10_1 (I := I20780) (A := A20780) hV20780), (IvM_s17_0 (I := I20780) (A := A20780) hV20780), (IvM_s17_164 (I := I20780) (A := A20780) hV20780), (IvM_lv (I := I20780) (A := A20780) hV20780), (IvM_sd (I := I20780) (A := A20780) hV20780), (IvM_nq (I := I20780) (A := A20780) hV20780), (IvM_hr (I := I20780) (A := A20780) hV20780), (IvM_hh (I := I20780) (A := A20780) hV20780), trivial⟩ (by omega) (by omega) (by omega) (by omega))
  have k21565 : (0 : Int32).toInt = 0 := rfl
  obtain ⟨n21566, n21566a, n21566b⟩ : ∃ n : Nat, 10 - (0 : Int32).toInt < (n : Int) ∧ 0 < n := ⟨((10 - (0 : Int32).toInt : Int)).toNat + 1, by omega, by omega⟩
  exact lp21303 n21566 0 I20772 A20772 L20772 Md.rf Md.rf hV20772 (by omega) (by omega) n21566a n21566b
def wo_j188_X12_search : List Cond := [Cond.methodLink RX12 251 yX12_isQuery, Cond.instanceMethod yX12_isQuery, Cond.selects RX12 yX12_isQuery yX12_isQuery, Cond.initialized RX12, Cond.methodLink RX12 244 yX12_in, Cond.static yX12_in, Cond.methodLink RX12 363 yX12_fillsSearch, Cond.instanceMethod yX12_fillsSearch, Cond.selects RX12 yX12_fillsSearch yX12_fillsSearch, Cond.fieldLink RX12 94 "WarpDeskModel" "searchBy" "[I"]
def wz_j188_X12_search : List Cond := .code yX12_search cX12_search 3 (some .int) :: (wo_j188_X12_search ++ (wsX120 ++ (wz_j147_X12_isQuery ++ (wz_j145_X12_in ++ (wz_j189_X12_fillsSearch ++ ([] : List Cond))))))
theorem zg_j188_X12_search : ∀ w ∈ wz_j188_X12_search, goodWord w = true := zg_cons rfl (zg_app (by decide +kernel) (zg_app zgU_wsX120 (zg_app zg_j147_X12_isQuery (zg_app zg_j145_X12_in (zg_app zg_j189_X12_fillsSearch zg_nil)))))
theorem zi_j188_X12_search : ∀ w ∈ wz_j188_X12_search, w ∈ lw_tbl := zi_cons zw_1859 (zi_app (zi_cons zw_1663 (zi_cons zw_1665 (zi_cons zw_67 (zi_cons zw_115 (zi_cons zw_1656 (zi_cons zw_1657 (zi_cons zw_1860 (zi_cons zw_1862 (zi_cons zw_95 (zi_cons zw_1427 zi_nil)))))))))) (zi_app inX12 (zi_app zi_j147_X12_isQuery (zi_app zi_j145_X12_in (zi_app zi_j189_X12_fillsSearch zi_nil)))))
set_option maxHeartbeats 4000000 in
set_option maxRecDepth 100000 in
theorem j188_X12_search (l : Launch) (D : va_G) (zt : Nat × Nat × Nat × (Nat → Nat) × (Nat → Nat)) (r : Nat → Nat) (g : Nat → ClassId) (I : Nat → Int32) (A : Nat → Nat → Int32) (L : Nat → Nat → Int64) (z1 : Int32) (z2 : Int32) (hIv : IvM I A) : GM l D zt (tyM g) yX12_search wz_j188_X12_search ({ frames := 7, cells := 0, slots := 0, locals := 159 } : Room) [.ref (r 0), .int z1, .int z2] (wM r g I A L) (fun v _ w' => ∃ (I' : Nat → Int32) (A' : Nat → Nat → Int32) (L' : Nat → Nat → Int64), Md [18, 19, 20, 21] I I' ∧ Md [18, 19, 20, 21, 25] A A' ∧ IvM I' A' ∧ ∃ y0 : Int32, v = some (.int y0) ∧ w' = wM r g I' A' L') 0 0 := by
  refine GM.of (cc := cX12_search) (maxL := 3) (ret := (some .int)) (own := RX12) (lv := [(0, .ref (r 0)), (1, .int z1), (2, .int z2)]) (by decide) rfl rfl (Nat.le_of_ble_eq_true rfl) rfl (fun κ sz hk hR hN => ?_)
  have hin12 : ∀ w ∈ u_ws RX12 TX12 55, w ∈ wz_j188_X12_search := fun w h => (List.mem_cons_of_mem _ (List.mem_append_right _ (List.mem_append_left _ h)))
  refine g_aload_n hk dX12_search_0 rfl ?_
  refine g_iload_n hk dX12_search_1 rfl ?_
  refine g_callV (n := 1) hk (j147_X12_isQuery l D zt r g I A L z1 hIv) (SP.same _) (fun _ h => h) (gi_V (List.mem_cons_of_mem _ (List.mem_append_left _ (List.mem_of_getElem? (i := 0) rfl))) (List.mem_cons_of_mem _ (List.mem_append_left _ (List.mem_of_getElem? (i := 1) rfl))) (List.mem_cons_of_mem _ (List.mem_append_left _ (List.mem_of_getElem? (i := 2) rfl))) (List.mem_cons_of_mem _ (List.mem_append_left _ (List.mem_of_getElem? (i := 3) rfl))) (gi_sub (fun w h => (List.mem_cons_of_mem _ (List.mem_append_right _ (List.mem_append_right _ (List.mem_append_left _ h))))) zg_j147_X12_isQuery)) rfl rfl rfl (by decide +kernel) ⟨Nat.le_of_ble_eq_true rfl, Nat.le_of_ble_eq_true rfl⟩ 0 rfl rfl rfl rfl (Nat.le_of_ble_eq_true rfl) ⟨Nat.le_of_ble_eq_true rfl, Nat.le_of_ble_eq_true rfl⟩ dX12_search_2 (fun v ty' w' hp hk' => ?_)
  rcases hp with ⟨rfl, rfl⟩ | ⟨c20757, c20758, c20759, c20760, rfl, rfl⟩
  · skip
    show GW κ 3 0 0 (wM r g I A L) 5 [(0, .ref (r 0)), (1, .int z1), (2, .int z2)] [.int 0]
    refine g_if_eq (tgt := 18) (a := 0) hk dX12_search_5 (by decide) rfl (fun _ => ?_) (fun z9 => absurd (show (0 : Int) = (0 : Int) from by decide) z9)
    refine g_iconst (v := (-1)) hk dX12_search_18 (by decide) ?_
    exact g_iret hk hR rfl ⟨I, A, L, (show Md [18, 19, 20, 21] I I from Md.rf), (show Md [18, 19, 20, 21, 25] A A from Md.rf), hIv, (-1), rfl, rfl⟩ dX12_search_19
  · skip
    have f20762 : 0 ≤ (A 11 (5 * (I 15) + z1).toNatClampNeg).toInt ∧ (A 11 (5 * (I 15) + z1).toNatClampNeg).toInt ≤ 16 := IvM_a11 hIv _
    show GW κ 3 0 0 (wM r g I A L) 5 [(0, .ref (r 0)), (1, .int z1), (2, .int z2)] [.int 1]
    refine g_if_eq (tgt := 18) (a := 1) hk dX12_search_5 (by decide) rfl (fun z9 => absurd z9 (show ¬ ((1 : Int) = (0 : Int)) from by decide)) (fun _ => ?_)
    refine g_iload_n hk dX12_search_8 rfl ?_
    refine g_iconst (v := 0) hk dX12_search_9 (by decide) ?_
    refine g_bipush (v := 8) hk dX12_search_10 (by decide) ?_
    have k20763 : (0 : Int32).toInt = 0 := rfl
    have k20764 : (8 : Int32).toInt = 8 := rfl
    refine g_callS (n := 3) hk (j145_X12_in l D zt r g I A L z2 0 8 hIv) (SP.same _) (fun _ h => h) (gi_S (List.mem_cons_of_mem _ (List.mem_append_left _ (List.mem_of_getElem? (i := 4) rfl))) (List.mem_cons_of_mem _ (List.mem_append_left _ (List.mem_of_getElem? (i := 5) rfl))) (List.mem_cons_of_mem _ (List.mem_append_left _ (List.mem_of_getElem? (i := 3) rfl))) (gi_sub (fun w h => (List.mem_cons_of_mem _ (List.mem_append_right _ (List.mem_append_right _ (List.mem_append_right _ (List.mem_append_left _ h)))))) zg_j145_X12_in)) rfl rfl rfl (by decide +kernel) ⟨Nat.le_of_ble_eq_true rfl, Nat.le_of_ble_eq_true rfl⟩ rfl rfl (Nat.le_of_ble_eq_true rfl) ⟨Nat.le_of_ble_eq_true rfl, Nat.le_of_ble_eq_true rfl⟩ dX12_search_12 (fun v ty' w' hp hk' => ?_)
    rcases hp with ⟨c20765, rfl, rfl⟩ | ⟨c20767, c20768, rfl, rfl⟩
    · skip
      have b20770l := Int32.le_toInt z2
      have b20770h := Int32.toInt_lt z2
      show GW κ 3 0 0 (wM r g I A L) 15 [(0, .ref (r 0)), (1, .int z1), (2, .int z2)] [.int 0]
      refine g_if_ne (tgt := 20) (a := 0) hk dX12_search_15 (by decide) rfl (fun z9 => absurd z9 (show ¬ ((0 : Int) ≠ (0 : Int)) from by decide)) (fun _ => ?_)
      refine g_iconst (v := (-1)) hk dX12_search_18 (by decide) ?_
      exact g_iret hk hR rfl ⟨I, A, L, (show Md [18, 19, 20, 21] I I from Md.rf), (show Md [18, 19, 20, 21, 25] A A from Md.rf), hIv, (-1), rfl, rfl⟩ dX12_search_19
    · skip
      show GW κ 3 0 0 (wM r g I A L) 15 [(0, .ref (r 0)), (1, .int z1), (2, .int z2)] [.int 1]
      refine g_if_ne (tgt := 20) (a := 1) hk dX12_search_15 (by decide) rfl (fun _ => ?_) (fun z9 => absurd (show (1 : Int) ≠ (0 : Int) from by decide) z9)
      refine g_aload_n hk dX12_search_20 rfl ?_
      refine g_iload_n hk dX12_search_21 rfl ?_
      refine g_callV (n := 1) hk (j189_X12_fillsSearch l D zt r g I A L z1 hIv (by omega) (by omega)) (SP.same _) (fun _ h => h) (gi_V (List.mem_cons_of_mem _ (List.mem_append_left _ (List.mem_of_getElem? (i := 6) rfl))) (List.mem_cons_of_mem _ (List.mem_append_left _ (List.mem_of_getElem? (i := 7) rfl))) (List.mem_cons_of_mem _ (List.mem_append_left _ (List.mem_of_getElem? (i := 8) rfl))) (List.mem_cons_of_mem _ (List.mem_append_left _ (List.mem_of_getElem? (i := 3) rfl))) (gi_sub (fun w h => (List.mem_cons_of_mem _ (List.mem_append_right _ (List.mem_append_right _ (List.mem_append_right _ (List.mem_append_right _ (List.mem_append_left _ h))))))) zg_j189_X12_fillsSearch)) rfl rfl rfl (by decide +kernel) ⟨Nat.le_of_ble_eq_true rfl, Nat.le_of_ble_eq_true rfl⟩ 0 rfl rfl rfl rfl (Nat.le_of_ble_eq_true rfl) ⟨Nat.le_of_ble_eq_true rfl, Nat.le_of_ble_eq_true rfl⟩ dX12_search_22 (fun v ty' w' hp hk' => ?_)
      obtain ⟨I21568, A21568, L21568, hI21568, hA21568, hV21568, rfl, rfl⟩ := hp
      show GW κ 3 0 0 (wM r g I21568 A21568 L21568) 25 [(0, .ref (r 0)), (1, .int z1), (2, .int z2)] []
      refine g_aload_n hk dX12_search_25 rfl ?_
      refine gM_r0_49 hk hin12 (List.mem_cons_of_mem _ (List.mem_append_left _ (List.mem_of_getElem? (i := 9) rfl))) dX12_search_26 ?_
      refine g_iload_n hk dX12_search_29 rfl ?_
      refine lM_25 (v := (A21568 25 z2.toNatClampNeg)) hk (vp_in_iff.mpr ⟨by omega, by omega⟩) rfl dX12_search_30 ?_
      have b21569l := Int32.le_toInt (A21568 25 z2.toNatClampNeg)
      have b21569h := Int32.toInt_lt (A21568 25 z2.toNatClampNeg)
      exact g_iret hk hR rfl ⟨I21568, A21568, L21568, (show Md [18, 19, 20, 21] I I21568 from (Md.tr Md.rf hI21568 rfl)), (show Md [18, 19, 20, 21, 25] A A21568 from (Md.tr Md.rf hA21568 rfl)), hV21568, (A21568 25 z2.toNatClampNeg), rfl, rfl⟩ dX12_search_31
def wo_j192_X12_isApart : List Cond := [Cond.fieldLink RX12 366 "WarpDeskModel" "matchMany" "I", Cond.fieldLink RX12 97 "WarpDeskModel" "matchAt" "[I", Cond.fieldLink RX12 73 "WarpDeskModel" "row" "[I", Cond.methodLink RX12 244 yX12_in, Cond.static yX12_in, Cond.initialized RX12]
def wz_j192_X12_isApart : List Cond := .code yX12_isApart cX12_isApart 3 (some .boolean) :: (wo_j192_X12_isApart ++ (wsX120 ++ (wz_j145_X12_in ++ ([] : List Cond))))
theorem zg_j192_X12_isApart : ∀ w ∈ wz_j192_X12_isApart, goodWord w = true := zg_cons rfl (zg_app (by decide +kernel) (zg_app zgU_wsX120 (zg_app zg_j145_X12_in zg_nil)))
theorem zi_j192_X12_isApart : ∀ w ∈ wz_j192_X12_isApart, w ∈ lw_tbl := zi_cons zw_1875 (zi_app (zi_cons zw_1428 (zi_cons zw_1429 (zi_cons zw_1414 (zi_cons zw_1656 (zi_cons zw_1657 (zi_cons zw_115 zi_nil)))))) (zi_app inX12 (zi_app zi_j145_X12_in zi_nil)))
set_option maxHeartbeats 4000000 in
set_option maxRecDepth 100000 in
theorem j192_X12_isApart (l : Launch) (D : va_G) (zt : Nat × Nat × Nat × (Nat → Nat) × (Nat → Nat)) (r : Nat → Nat) (g : Nat → ClassId) (I : Nat → Int32) (A : Nat → Nat → Int32) (L : Nat → Nat → Int64) (z1 : Int32) (hIv : IvM I A) (hp0 : 0 ≤ z1.toInt) (hp1 : z1.toInt ≤ 159) (hp2 : 1 ≤ (A 18 164).toInt) : GM l D zt (tyM g) yX12_isApart wz_j192_X12_isApart ({ frames := 1, cells := 0, slots := 0, locals := 22 } : Room) [.ref (r 0), .int z1] (wM r g I A L) (fun v _ w' => (v = some (.int 0) ∧ w' = wM r g I A L) ∨ ((∀ j : Nat, (j : Int) < (I 24).toInt → (A 26 j).toInt ≠ z1.toInt) ∧ v = some (.int 1) ∧ w' = wM r g I A L)) 0 0 := by
  refine GM.of (cc := cX12_isApart) (maxL := 3) (ret := (some .boolean)) (own := RX12) (lv := [(0, .ref (r 0)), (1, .int z1)]) (by decide) rfl rfl (Nat.le_of_ble_eq_true rfl) rfl (fun κ sz hk hR hN => ?_)
  have hin12 : ∀ w ∈ u_ws RX12 TX12 55, w ∈ wz_j192_X12_isApart := fun w h => (List.mem_cons_of_mem _ (List.mem_append_right _ (List.mem_append_left _ h)))
  refine g_iconst (v := 0) hk dX12_isApart_0 (by decide) ?_
  refine g_istore_n (lv' := [(2, .int 0), (0, .ref (r 0)), (1, .int z1)]) hk dX12_isApart_1 (by decide) rfl ?_
  have lp21660 : ∀ (n21661 : Nat) (x21601 : Int32), (0 ≤ x21601.toInt) → (x21601.toInt ≤ 160) → (∀ j : Nat, (j : Int) < x21601.toInt → (A 26 j).toInt ≠ z1.toInt) → (161 - x21601.toInt < (n21661 : Int)) → (0 < n21661) → GW κ 3 0 0 (wM r g I A L) 2 [(2, .int x21601), (0, .ref (r 0)), (1, .int z1)] [] := by
    intro n21661
    induction n21661 with
    | zero =>
      intro x21601 h21657 h21658 hP21659 m21662 m21662z
      exact absurd m21662z (Nat.lt_irrefl 0)
    | succ n21661 ih21663 =>
      intro x21601 h21657 h21658 hP21659 m21662 m21662z
      refine g_iload_n hk dX12_isApart_2 rfl ?_
      refine g_aload_n hk dX12_isApart_3 rfl ?_
      refine gM_i24 (v := (I 24)) hk hin12 (List.mem_cons_of_mem _ (List.mem_append_left _ (List.mem_of_getElem? (i := 0) rfl))) dX12_isApart_4 rfl ?_
      have f21664 := IvM_f24 hIv
      refine g_icmp_ge (tgt := 52) (a := x21601.toInt) (b := (I 24).toInt) hk dX12_isApart_7 (by decide) rfl rfl (fun c21665 => ?_) (fun c21665 => ?_)
      · skip
        refine g_iconst (v := 1) hk dX12_isApart_52 (by decide) ?_
        exact g_iret hk hR rfl (Or.inr (⟨(fun j hj => hP21659 j (by omega)), rfl, rfl⟩)) dX12_isApart_53
      · skip
        refine g_iload_n hk dX12_isApart_10 rfl ?_
        refine g_aload_n hk dX12_isApart_11 rfl ?_
        refine gM_r0_51 hk hin12 (List.mem_cons_of_mem _ (List.mem_append_left _ (List.mem_of_getElem? (i := 1) rfl))) dX12_isApart_12 ?_
        refine g_iload_n hk dX12_isApart_15 rfl ?_
        refine lM_26 (v := (A 26 x21601.toNatClampNeg)) hk (vp_in_iff.mpr ⟨by omega, by omega⟩) rfl dX12_isApart_16 ?_
        have f21666 := IvM_a26 hIv (x21601.toNatClampNeg)
        refine g_isub hk dX12_isApart_17 ?_
        refine g_topi (fun y21667 ey21667 => ?_)
        have hy21667 : y21667.toInt = z1.toInt - (A 26 x21601.toNatClampNeg).toInt := i32_sub ey21667 rfl rfl (by omega) (by omega)
        refine g_iconst (v := 1) hk dX12_isApart_18 (by decide) ?_
        refine g_aload_n hk dX12_isApart_19 rfl ?_
        refine gM_r0_36 hk hin12 (List.mem_cons_of_mem _ (List.mem_append_left _ (List.mem_of_getElem? (i := 2) rfl))) dX12_isApart_20 ?_
        refine g_sipush (v := 164) hk dX12_isApart_23 (by decide) ?_
        refine lM_18 (v := (A 18 164)) hk (vp_in_iff.mpr ⟨by decide, by decide⟩) rfl dX12_isApart_26 ?_
        have b21668l := Int32.le_toInt (A 18 164)
        have b21668h := Int32.toInt_lt (A 18 164)
        refine g_isub hk dX12_isApart_27 ?_
        refine g_topi (fun y21669 ey21669 => ?_)
        have hy21669 : y21669.toInt = 1 - (A 18 164).toInt := i32_sub ey21669 rfl rfl (by omega) (by omega)
        refine g_aload_n hk dX12_isApart_28 rfl ?_
        refine gM_r0_36 hk hin12 (List.mem_cons_of_mem _ (List.mem_append_left _ (List.mem_of_getElem? (i := 2) rfl))) dX12_isApart_29 ?_
        refine g_sipush (v := 164) hk dX12_isApart_32 (by decide) ?_
        refine lM_18 (v := (A 18 164)) hk (vp_in_iff.mpr ⟨by decide, by decide⟩) rfl dX12_isApart_35 ?_
        refine g_iconst (v := 1) hk dX12_isApart_36 (by decide) ?_
        refine g_isub hk dX12_isApart_37 ?_
        refine g_topi (fun y21670 ey21670 => ?_)
        have hy21670 : y21670.toInt = (A 18 164).toInt - 1 := i32_sub ey21670 rfl rfl (by omega) (by omega)
        refine g_callS (n := 3) hk (j145_X12_in l D zt r g I A L y21667 y21669 y21670 hIv) (SP.same _) (fun _ h => h) (gi_S (List.mem_cons_of_mem _ (List.mem_append_left _ (List.mem_of_getElem? (i := 3) rfl))) (List.mem_cons_of_mem _ (List.mem_append_left _ (List.mem_of_getElem? (i := 4) rfl))) (List.mem_cons_of_mem _ (List.mem_append_left _ (List.mem_of_getElem? (i := 5) rfl))) (gi_sub (fun w h => (List.mem_cons_of_mem _ (List.mem_append_right _ (List.mem_append_right _ (List.mem_append_left _ h))))) zg_j145_X12_in)) rfl rfl rfl (by decide +kernel) ⟨Nat.le_of_ble_eq_true rfl, Nat.le_of_ble_eq_true rfl⟩ rfl rfl (Nat.le_of_ble_eq_true rfl) ⟨Nat.le_of_ble_eq_true rfl, Nat.le_of_ble_eq_true rfl⟩ dX12_isApart_38 (fun v ty' w' hp hk' => ?_)
        rcases hp with ⟨c21671, rfl, rfl⟩ | ⟨c21673, c21674, rfl, rfl⟩
        · skip
          show GW κ 3 0 0 (wM r g I A L) 41 [(2, .int x21601), (0, .ref (r 0)), (1, .int z1)] [.int 0]
          refine g_if_eq (tgt := 46) (a := 0) hk dX12_isApart_41 (by decide) rfl (fun _ => ?_) (fun z9 => absurd (show (0 : Int) = (0 : Int) from by decide) z9)
          obtain ⟨y21676, ey21676⟩ : ∃ y : Int32, y = x21601 + Int32.ofInt 1 := ⟨_, rfl⟩
          have hy21676 : y21676.toInt = x21601.toInt + 1 := i32_add ey21676 rfl (by decide) (by omega) (by omega)
          refine g_iinc (v := y21676) (lv' := [(2, .int y21676), (0, .ref (r 0)), (1, .int z1)]) hk 0 dX12_isApart_46 rfl ey21676.symm (by decide) rfl ?_
          refine g_goto (tgt := 2) hk dX12_isApart_49 (by decide) ?_
          exact g_lv (List.forall_mem_cons.mpr ⟨List.mem_of_getElem? (i := 0) rfl, (List.forall_mem_cons.mpr ⟨List.mem_of_getElem? (i := 1) rfl, (List.forall_mem_cons.mpr ⟨List.mem_of_getElem? (i := 2) rfl, (fun _ h => absurd h List.not_mem_nil)⟩)⟩)⟩) (ih21663 y21676 (by omega) (by omega) (fun j hj => by by_cases hj2 : (j : Int) < x21601.toInt; exact hP21659 j hj2; have e9 : j = x21601.toNatClampNeg := (by have := cl_int (y := x21601) (by omega); omega); rw [e9]; omega) (by omega) (by omega))
        · skip
          show GW κ 3 0 0 (wM r g I A L) 41 [(2, .int x21601), (0, .ref (r 0)), (1, .int z1)] [.int 1]
          refine g_if_eq (tgt := 46) (a := 1) hk dX12_isApart_41 (by decide) rfl (fun z9 => absurd z9 (show ¬ ((1 : Int) = (0 : Int)) from by decide)) (fun _ => ?_)
          refine g_iconst (v := 0) hk dX12_isApart_44 (by decide) ?_
          exact g_iret hk hR rfl (Or.inl ⟨rfl, rfl⟩) dX12_isApart_45
  have k21677 : (0 : Int32).toInt = 0 := rfl
  obtain ⟨n21678, n21678a, n21678b⟩ : ∃ n : Nat, 161 - (0 : Int32).toInt < (n : Int) ∧ 0 < n := ⟨((161 - (0 : Int32).toInt : Int)).toNat + 1, by omega, by omega⟩
  exact lp21660 n21678 0 (by omega) (by omega) (fun j hj => absurd (show (j : Int) < (0 : Int32).toInt from hj) (by have : (0 : Int32).toInt = 0 := rfl; omega)) n21678a n21678b
def wo_j191_X12_fillsMatches : List Cond := [Cond.methodLink RX12 357 yX12_fillsFar, Cond.instanceMethod yX12_fillsFar, Cond.selects RX12 yX12_fillsFar yX12_fillsFar, Cond.initialized RX12, Cond.fieldLink RX12 366 "WarpDeskModel" "matchMany" "I", Cond.fieldLink RX12 91 "WarpDeskModel" "farBy" "[I", Cond.methodLink RX12 369 yX12_isApart, Cond.instanceMethod yX12_isApart, Cond.selects RX12 yX12_isApart yX12_isApart, Cond.fieldLink RX12 97 "WarpDeskModel" "matchAt" "[I"]
def wz_j191_X12_fillsMatches : List Cond := .code yX12_fillsMatches cX12_fillsMatches 4 none :: (wo_j191_X12_fillsMatches ++ (wsX120 ++ (wz_j186_X12_fillsFar ++ (wz_j192_X12_isApart ++ ([] : List Cond)))))
theorem zg_j191_X12_fillsMatches : ∀ w ∈ wz_j191_X12_fillsMatches, goodWord w = true := zg_cons rfl (zg_app (by decide +kernel) (zg_app zgU_wsX120 (zg_app zg_j186_X12_fillsFar (zg_app zg_j192_X12_isApart zg_nil))))
theorem zi_j191_X12_fillsMatches : ∀ w ∈ wz_j191_X12_fillsMatches, w ∈ lw_tbl := zi_cons zw_1871 (zi_app (zi_cons zw_1844 (zi_cons zw_1846 (zi_cons zw_93 (zi_cons zw_115 (zi_cons zw_1428 (zi_cons zw_1426 (zi_cons zw_1872 (zi_cons zw_1874 (zi_cons zw_97 (zi_cons zw_1429 zi_nil)))))))))) (zi_app inX12 (zi_app zi_j186_X12_fillsFar (zi_app zi_j192_X12_isApart zi_nil))))
set_option maxHeartbeats 4000000 in
set_option maxRecDepth 100000 in
theorem j191_X12_fillsMatches (l : Launch) (D : va_G) (zt : Nat × Nat × Nat × (Nat → Nat) × (Nat → Nat)) (r : Nat → Nat) (g : Nat → ClassId) (I : Nat → Int32) (A : Nat → Nat → Int32) (L : Nat → Nat → Int64) (z1 : Int32) (hIv : IvM I A) (hp0 : 0 ≤ z1.toInt) (hp1 : z1.toInt ≤ 4) : GM l D zt (tyM g) yX12_fillsMatches wz_j191_X12_fillsMatches ({ frames := 7, cells := 0, slots := 0, locals := 156 } : Room) [.ref (r 0), .int z1] (wM r g I A L) (fun v _ w' => ∃ (I' : Nat → Int32) (A' : Nat → Nat → Int32) (L' : Nat → Nat → Int64), Md [18, 19, 20, 24] I I' ∧ Md [18, 19, 20, 21, 24, 26] A A' ∧ IvM I' A' ∧ v = none ∧ w' = wM r g I' A' L') 0 0 := by
  refine GM.of (cc := cX12_fillsMatches) (maxL := 4) (ret := none) (own := RX12) (lv := [(0, .ref (r 0)), (1, .int z1)]) (by decide) rfl rfl (Nat.le_of_ble_eq_true rfl) rfl (fun κ sz hk hR hN => ?_)
  have hin12 : ∀ w ∈ u_ws RX12 TX12 55, w ∈ wz_j191_X12_fillsMatches := fun w h => (List.mem_cons_of_mem _ (List.mem_append_right _ (List.mem_append_left _ h)))
  refine g_aload_n hk dX12_fillsMatches_0 rfl ?_
  refine g_iload_n hk dX12_fillsMatches_1 rfl ?_
  refine g_callV (n := 1) hk (j186_X12_fillsFar l D zt r g I A L z1 hIv (by omega) (by omega)) (SP.same _) (fun _ h => h) (gi_V (List.mem_cons_of_mem _ (List.mem_append_left _ (List.mem_of_getElem? (i := 0) rfl))) (List.mem_cons_of_mem _ (List.mem_append_left _ (List.mem_of_getElem? (i := 1) rfl))) (List.mem_cons_of_mem _ (List.mem_append_left _ (List.mem_of_getElem? (i := 2) rfl))) (List.mem_cons_of_mem _ (List.mem_append_left _ (List.mem_of_getElem? (i := 3) rfl))) (gi_sub (fun w h => (List.mem_cons_of_mem _ (List.mem_append_right _ (List.mem_append_right _ (List.mem_append_left _ h))))) zg_j186_X12_fillsFar)) rfl rfl rfl (by decide +kernel) ⟨Nat.le_of_ble_eq_true rfl, Nat.le_of_ble_eq_true rfl⟩ 0 rfl rfl rfl rfl (Nat.le_of_ble_eq_true rfl) ⟨Nat.le_of_ble_eq_true rfl, Nat.le_of_ble_eq_true rfl⟩ dX12_fillsMatches_2 (fun v ty' w' hp hk' => ?_)
  obtain ⟨I21588, A21588, L21588, hI21588, hA21588, hV21588, r21589, rfl, rfl⟩ := hp
  show GW κ 4 0 0 (wM r g I21588 A21588 L21588) 5 [(0, .ref (r 0)), (1, .int z1)] []
  refine g_aload_n hk dX12_fillsMatches_5 rfl ?_
  refine g_iconst (v := 0) hk dX12_fillsMatches_6 (by decide) ?_
  refine pM_i24 hk hin12 (List.mem_cons_of_mem _ (List.mem_append_left _ (List.mem_of_getElem? (i := 4) rfl))) dX12_fillsMatches_7 ?_
  refine g_iconst (v := 0) hk dX12_fillsMatches_10 (by decide) ?_
  refine g_istore_n (lv' := [(2, .int 0), (0, .ref (r 0)), (1, .int z1)]) hk dX12_fillsMatches_11 (by decide) rfl ?_
  have lp21895 : ∀ (n21896 : Nat) (x21590 : Int32) (I21593 : Nat → Int32) (A21593 : Nat → Nat → Int32) (L21593 : Nat → Nat → Int64), (Md [24] (upd I21588 24 0) I21593) → (Md [26] A21588 A21593) → (IvM I21593 A21593) → (0 ≤ x21590.toInt) → (x21590.toInt ≤ 159) → (∀ i j : Nat, i < j → (j : Int) < (I21593 24).toInt → (A21593 26 i).toInt ≠ (A21593 26 j).toInt) → (161 - (I21593 24).toInt < (n21896 : Int)) → (0 < n21896) → GW κ 4 0 0 (wM r g I21593 A21593 L21593) 12 [(2, .int x21590), (0, .ref (r 0)), (1, .int z1)] [] := by
    intro n21896
    induction n21896 with
    | zero =>
      intro x21590 I21593 A21593 L21593 hI21593 hA21593 hV21593 h21892 h21893 hP21894 m21897 m21897z
      exact absurd m21897z (Nat.lt_irrefl 0)
    | succ n21896 ih21898 =>
      intro x21590 I21593 A21593 L21593 hI21593 hA21593 hV21593 h21892 h21893 hP21894 m21897 m21897z
      have f21899 := IvM_f24 hV21593
      refine g_iload_n hk dX12_fillsMatches_12 rfl ?_
      refine g_if_lt (tgt := 99) (a := x21590.toInt) hk dX12_fillsMatches_13 (by decide) rfl (fun z9 => absurd z9 (show ¬ (x21590.toInt < 0) from by omega)) (fun _ => ?_)
      refine g_iconst (v := (-1)) hk dX12_fillsMatches_16 (by decide) ?_
      refine g_istore_n (lv' := [(2, .int (-1)), (0, .ref (r 0)), (1, .int z1)]) hk dX12_fillsMatches_17 (by decide) rfl ?_
      refine g_iconst (v := 0) hk dX12_fillsMatches_18 (by decide) ?_
      refine g_istore_n (lv' := [(3, .int 0), (2, .int (-1)), (0, .ref (r 0)), (1, .int z1)]) hk dX12_fillsMatches_19 (by decide) rfl ?_
      have lp21985 : ∀ (n21986 : Nat) (x21900 : Int32) (x21901 : Int32), (0 ≤ x21900.toInt) → (x21900.toInt ≤ 160) → ((-1) ≤ x21901.toInt) → (x21901.toInt ≤ 159) → (0 ≤ x21901.toInt → ∀ j : Nat, (j : Int) < (I21593 24).toInt → (A21593 26 j).toInt ≠ x21901.toInt) → (161 - x21900.toInt < (n21986 : Int)) → (0 < n21986) → GW κ 4 0 0 (wM r g I21593 A21593 L21593) 20 [(3, .int x21900), (2, .int x21901), (0, .ref (r 0)), (1, .int z1)] [] := by
        intro n21986
        induction n21986 with
        | zero =>
          intro x21900 x21901 h21980 h21981 h21982 h21983 hP21984 m21987 m21987z
          exact absurd m21987z (Nat.lt_irrefl 0)
        | succ n21986 ih21988 =>
          intro x21900 x21901 h21980 h21981 h21982 h21983 hP21984 m21987 m21987z
          refine g_iload_n hk dX12_fillsMatches_20 rfl ?_
          refine g_sipush (v := 160) hk dX12_fillsMatches_21 (by decide) ?_
          refine g_icmp_ge (tgt := 71) (a := x21900.toInt) (b := 160) hk dX12_fillsMatches_24 (by decide) rfl rfl (fun c21989 => ?_) (fun c21989 => ?_)
          · skip
            refine g_iload_n hk dX12_fillsMatches_71 rfl ?_
            refine g_if_ge (tgt := 76) (a := x21901.toInt) hk dX12_fillsMatches_72 (by decide) rfl (fun c21990 => ?_) (fun c21990 => ?_)
            · skip
              refine g_aload_n hk dX12_fillsMatches_76 rfl ?_
              refine gM_r0_51 hk hin12 (List.mem_cons_of_mem _ (List.mem_append_left _ (List.mem_of_getElem? (i := 9) rfl))) dX12_fillsMatches_77 ?_
              refine g_aload_n hk dX12_fillsMatches_80 rfl ?_
              refine gM_i24 (v := (I21593 24)) hk hin12 (List.mem_cons_of_mem _ (List.mem_append_left _ (List.mem_of_getElem? (i := 4) rfl))) dX12_fillsMatches_81 rfl ?_
              refine g_iload_n hk dX12_fillsMatches_84 rfl ?_
              have g21991 : (I21593 24).toInt ≤ 159 := pg_lt (b := x21901) ⟨by omega, by omega⟩ (IvM_a26 (I := I21593) (A := A21593) hV21593) hP21894 (hP21984 (by omega)) (by omega) (by omega)
              refine sM_26 (j := (I21593 24).toNatClampNeg) hk (vp_in_iff.mpr ⟨by omega, by omega⟩) rfl dX12_fillsMatches_85 ?_
              have hA21992 : ∀ j, 0 ≤ ((up3 A21593 26 ((I21593 24).toNatClampNeg) x21901) 26 j).toInt ∧ ((up3 A21593 26 ((I21593 24).toNatClampNeg) x21901) 26 j).toInt ≤ 159 := ai_st ((IvM_a26 hV21593)) ⟨by omega, by omega⟩
              refine g_aload_n hk dX12_fillsMatches_86 rfl ?_
              refine g_dup hk dX12_fillsMatches_87 rfl ?_
              refine gM_i24 (v := (I21593 24)) hk hin12 (List.mem_cons_of_mem _ (List.mem_append_left _ (List.mem_of_getElem? (i := 4) rfl))) dX12_fillsMatches_88 rfl ?_
              refine g_iconst (v := 1) hk dX12_fillsMatches_91 (by decide) ?_
              refine g_iadd hk dX12_fillsMatches_92 ?_
              refine g_topi (fun y21993 ey21993 => ?_)
              have hy21993 : y21993.toInt = (I21593 24).toInt + 1 := i32_add ey21993 rfl rfl (by omega) (by omega)
              refine pM_i24 hk hin12 (List.mem_cons_of_mem _ (List.mem_append_left _ (List.mem_of_getElem? (i := 4) rfl))) dX12_fillsMatches_93 ?_
              refine g_goto (tgt := 12) hk dX12_fillsMatches_96 (by decide) ?_
              exact g_lv (List.forall_mem_cons.mpr ⟨List.mem_of_getElem? (i := 1) rfl, (List.forall_mem_cons.mpr ⟨List.mem_of_getElem? (i := 2) rfl, (List.forall_mem_cons.mpr ⟨List.mem_of_getElem? (i := 3) rfl, (fun _ h => absurd h List.not_mem_nil)⟩)⟩)⟩) (ih21898 x21901 (upd I21593 24 y21993) (up3 A21593 26 ((I21593 24).toNatClampNeg) x21901) L21593 (show Md [24] (upd I21588 24 0) (upd I21593 24 y21993) from Md.tr hI21593 (show Md [24] I21593 (upd I21593 24 y21993) from (Md.up Md.rf rfl)) rfl) (show Md [26] A21588 (up3 A21593 26 ((I21593 24).toNatClampNeg) x21901) from Md.tr hA21593 (show Md [26] A21593 (up3 A21593 26 ((I21593 24).toNatClampNeg) x21901) from (Md.up3 Md.rf rfl)) rfl) ⟨(IvM_f1 (I := I21593) (A := A21593) hV21593), (IvM_f2 (I := I21593) (A := A21593) hV21593), (IvM_f3 (I := I21593) (A := A21593) hV21593), (IvM_f4 (I := I21593) (A := A21593) hV21593), (IvM_f6 (I := I21593) (A := A21593) hV21593), (IvM_f8 (I := I21593) (A := A21593) hV21593), (IvM_f15 (I := I21593) (A := A21593) hV21593), (IvM_f16 (I := I21593) (A := A21593) hV21593), (IvM_f17 (I := I21593) (A := A21593) hV21593), (IvM_f18 (I := I21593) (A := A21593) hV21593), (IvM_f22 (I := I21593) (A := A21593) hV21593), (IvM_f23 (I := I21593) (A := A21593) hV21593), (show 0 ≤ y21993.toInt ∧ y21993.toInt ≤ 160 from ⟨by omega, by omega⟩), (IvM_a11 (I := I21593) (A := A21593) hV21593), hA21992, (IvM_s8_0 (I := I21593) (A := A21593) hV21593), (IvM_s8_1 (I := I21593) (A := A21593) hV21593), (IvM_s10_0 (I := I21593) (A := A21593) hV21593), (IvM_s10_1 (I := I21593) (A := A21593) hV21593), (IvM_s17_0 (I := I21593) (A := A21593) hV21593), (IvM_s17_164 (I := I21593) (A := A21593) hV21593), (IvM_lv (I := I21593) (A := A21593) hV21593), (IvM_sd (I := I21593) (A := A21593) hV21593), (IvM_nq (I := I21593) (A := A21593) hV21593), (IvM_hr (I := I21593) (A := A21593) hV21593), (IvM_hh (I := I21593) (A := A21593) hV21593), trivial⟩ (by omega) (by omega) (di_st (m := (I21593 24)) (m2 := y21993) (b := x21901) (by omega) (by omega) hP21894 (hP21984 (by omega))) (by first | (rw [show ((upd I21593 24 y21993) 24) = y21993 from rfl] <;> omega) | omega) (by omega))
            · skip
              exact g_vret hk hR ⟨I21593, A21593, L21593, (show Md [18, 19, 20, 24] I I21593 from (Md.tr (Md.up (Md.tr Md.rf hI21588 rfl) rfl) hI21593 rfl)), (show Md [18, 19, 20, 21, 24, 26] A A21593 from (Md.tr (Md.tr Md.rf hA21588 rfl) hA21593 rfl)), hV21593, rfl, rfl⟩ dX12_fillsMatches_75
          · skip
            refine g_aload_n hk dX12_fillsMatches_27 rfl ?_
            refine gM_r0_48 hk hin12 (List.mem_cons_of_mem _ (List.mem_append_left _ (List.mem_of_getElem? (i := 5) rfl))) dX12_fillsMatches_28 ?_
            refine g_iload_n hk dX12_fillsMatches_31 rfl ?_
            refine lM_24 (v := (A21588 24 x21900.toNatClampNeg)) hk (vp_in_iff.mpr ⟨by omega, by omega⟩) (congrFun (hA21593 24 rfl) _) dX12_fillsMatches_32 ?_
            have b21994l := Int32.le_toInt (A21588 24 x21900.toNatClampNeg)
            have b21994h := Int32.toInt_lt (A21588 24 x21900.toNatClampNeg)
            refine g_if_lt (tgt := 65) (a := (A21588 24 x21900.toNatClampNeg).toInt) hk dX12_fillsMatches_33 (by decide) rfl (fun c21995 => ?_) (fun c21995 => ?_)
            · skip
              obtain ⟨y21996, ey21996⟩ : ∃ y : Int32, y = x21900 + Int32.ofInt 1 := ⟨_, rfl⟩
              have hy21996 : y21996.toInt = x21900.toInt + 1 := i32_add ey21996 rfl (by decide) (by omega) (by omega)
              refine g_iinc (v := y21996) (lv' := [(3, .int y21996), (2, .int x21901), (0, .ref (r 0)), (1, .int z1)]) hk 0 dX12_fillsMatches_65 rfl ey21996.symm (by decide) rfl ?_
              refine g_goto (tgt := 20) hk dX12_fillsMatches_68 (by decide) ?_
              exact g_lv (List.forall_mem_cons.mpr ⟨List.mem_of_getElem? (i := 0) rfl, (List.forall_mem_cons.mpr ⟨List.mem_of_getElem? (i := 1) rfl, (List.forall_mem_cons.mpr ⟨List.mem_of_getElem? (i := 2) rfl, (List.forall_mem_cons.mpr ⟨List.mem_of_getElem? (i := 3) rfl, (fun _ h => absurd h List.not_mem_nil)⟩)⟩)⟩)⟩) (ih21988 y21996 x21901 (by omega) (by omega) (by omega) (by omega) hP21984 (by omega) (by omega))
            · skip
              refine g_aload_n hk dX12_fillsMatches_36 rfl ?_
              refine g_iload_n hk dX12_fillsMatches_37 rfl ?_
              refine g_callV (n := 1) hk (j192_X12_isApart l D zt r g I21593 A21593 L21593 x21900 hV21593 (by omega) (by omega) (by first | (rw [show (A21593 18 164) = (A21588 18 164) from (congrFun (hA21593 18 rfl) _)] <;> omega) | omega)) (SP.same _) (fun _ h => h) (gi_V (List.mem_cons_of_mem _ (List.mem_append_left _ (List.mem_of_getElem? (i := 6) rfl))) (List.mem_cons_of_mem _ (List.mem_append_left _ (List.mem_of_getElem? (i := 7) rfl))) (List.mem_cons_of_mem _ (List.mem_append_left _ (List.mem_of_getElem? (i := 8) rfl))) (List.mem_cons_of_mem _ (List.mem_append_left _ (List.mem_of_getElem? (i := 3) rfl))) (gi_sub (fun w h => (List.mem_cons_of_mem _ (List.mem_append_right _ (List.mem_append_right _ (List.mem_append_right _ (List.mem_append_left _ h)))))) zg_j192_X12_isApart)) rfl rfl rfl (by decide +kernel) ⟨Nat.le_of_ble_eq_true rfl, Nat.le_of_ble_eq_true rfl⟩ 0 rfl rfl rfl rfl (Nat.le_of_ble_eq_true rfl) ⟨Nat.le_of_ble_eq_true rfl, Nat.le_of_ble_eq_true rfl⟩ dX12_fillsMatches_38 (fun v ty' w' hp hk' => ?_)
              rcases hp with ⟨rfl, rfl⟩ | ⟨c21998, rfl, rfl⟩
              · skip
                show GW κ 4 0 0 (wM r g I21593 A21593 L21593) 41 [(3, .int x21900), (2, .int x21901), (0, .ref (r 0)), (1, .int z1)] [.int 0]
                refine g_if_eq (tgt := 65) (a := 0) hk dX12_fillsMatches_41 (by decide) rfl (fun _ => ?_) (fun z9 => absurd (show (0 : Int) = (0 : Int) from by decide) z9)
                obtain ⟨y22000, ey22000⟩ : ∃ y : Int32, y = x21900 + Int32.ofInt 1 := ⟨_, rfl⟩
                have hy22000 : y22000.toInt = x21900.toInt + 1 := i32_add ey22000 rfl (by decide) (by omega) (by omega)
                refine g_iinc (v := y22000) (lv' := [(3, .int y22000), (2, .int x21901), (0, .ref (r 0)), (1, .int z1)]) hk 0 dX12_fillsMatches_65 rfl ey22000.symm (by decide) rfl ?_
                refine g_goto (tgt := 20) hk dX12_fillsMatches_68 (by decide) ?_
                exact g_lv (List.forall_mem_cons.mpr ⟨List.mem_of_getElem? (i := 0) rfl, (List.forall_mem_cons.mpr ⟨List.mem_of_getElem? (i := 1) rfl, (List.forall_mem_cons.mpr ⟨List.mem_of_getElem? (i := 2) rfl, (List.forall_mem_cons.mpr ⟨List.mem_of_getElem? (i := 3) rfl, (fun _ h => absurd h List.not_mem_nil)⟩)⟩)⟩)⟩) (ih21988 y22000 x21901 (by omega) (by omega) (by omega) (by omega) hP21984 (by omega) (by omega))
              · skip
                show GW κ 4 0 0 (wM r g I21593 A21593 L21593) 41 [(3, .int x21900), (2, .int x21901), (0, .ref (r 0)), (1, .int z1)] [.int 1]
                refine g_if_eq (tgt := 65) (a := 1) hk dX12_fillsMatches_41 (by decide) rfl (fun z9 => absurd z9 (show ¬ ((1 : Int) = (0 : Int)) from by decide)) (fun _ => ?_)
                refine g_iload_n hk dX12_fillsMatches_44 rfl ?_
                refine g_if_lt (tgt := 63) (a := x21901.toInt) hk dX12_fillsMatches_45 (by decide) rfl (fun c22001 => ?_) (fun c22001 => ?_)
                · skip
                  refine g_iload_n hk dX12_fillsMatches_63 rfl ?_
                  refine g_istore_n (lv' := [(2, .int x21900), (3, .int x21900), (0, .ref (r 0)), (1, .int z1)]) hk dX12_fillsMatches_64 (by decide) rfl ?_
                  obtain ⟨y22002, ey22002⟩ : ∃ y : Int32, y = x21900 + Int32.ofInt 1 := ⟨_, rfl⟩
                  have hy22002 : y22002.toInt = x21900.toInt + 1 := i32_add ey22002 rfl (by decide) (by omega) (by omega)
                  refine g_iinc (v := y22002) (lv' := [(3, .int y22002), (2, .int x21900), (0, .ref (r 0)), (1, .int z1)]) hk 1 dX12_fillsMatches_65 rfl ey22002.symm (by decide) rfl ?_
                  refine g_goto (tgt := 20) hk dX12_fillsMatches_68 (by decide) ?_
                  exact g_lv (List.forall_mem_cons.mpr ⟨List.mem_of_getElem? (i := 0) rfl, (List.forall_mem_cons.mpr ⟨List.mem_of_getElem? (i := 1) rfl, (List.forall_mem_cons.mpr ⟨List.mem_of_getElem? (i := 2) rfl, (List.forall_mem_cons.mpr ⟨List.mem_of_getElem? (i := 3) rfl, (fun _ h => absurd h List.not_mem_nil)⟩)⟩)⟩)⟩) (ih21988 y22002 x21900 (by omega) (by omega) (by omega) (by omega) (fun _ => c21998) (by omega) (by omega))
                · skip
                  refine g_aload_n hk dX12_fillsMatches_48 rfl ?_
                  refine gM_r0_48 hk hin12 (List.mem_cons_of_mem _ (List.mem_append_left _ (List.mem_of_getElem? (i := 5) rfl))) dX12_fillsMatches_49 ?_
                  refine g_iload_n hk dX12_fillsMatches_52 rfl ?_
                  refine lM_24 (v := (A21588 24 x21900.toNatClampNeg)) hk (vp_in_iff.mpr ⟨by omega, by omega⟩) (congrFun (hA21593 24 rfl) _) dX12_fillsMatches_53 ?_
                  refine g_aload_n hk dX12_fillsMatches_54 rfl ?_
                  refine gM_r0_48 hk hin12 (List.mem_cons_of_mem _ (List.mem_append_left _ (List.mem_of_getElem? (i := 5) rfl))) dX12_fillsMatches_55 ?_
                  refine g_iload_n hk dX12_fillsMatches_58 rfl ?_
                  refine lM_24 (v := (A21588 24 x21901.toNatClampNeg)) hk (vp_in_iff.mpr ⟨by omega, by omega⟩) (congrFun (hA21593 24 rfl) _) dX12_fillsMatches_59 ?_
                  have b22003l := Int32.le_toInt (A21588 24 x21901.toNatClampNeg)
                  have b22003h := Int32.toInt_lt (A21588 24 x21901.toNatClampNeg)
                  refine g_icmp_ge (tgt := 65) (a := (A21588 24 x21900.toNatClampNeg).toInt) (b := (A21588 24 x21901.toNatClampNeg).toInt) hk dX12_fillsMatches_60 (by decide) rfl rfl (fun c22004 => ?_) (fun c22004 => ?_)
                  · skip
                    obtain ⟨y22005, ey22005⟩ : ∃ y : Int32, y = x21900 + Int32.ofInt 1 := ⟨_, rfl⟩
                    have hy22005 : y22005.toInt = x21900.toInt + 1 := i32_add ey22005 rfl (by decide) (by omega) (by omega)
                    refine g_iinc (v := y22005) (lv' := [(3, .int y22005), (2, .int x21901), (0, .ref (r 0)), (1, .int z1)]) hk 0 dX12_fillsMatches_65 rfl ey22005.symm (by decide) rfl ?_
                    refine g_goto (tgt := 20) hk dX12_fillsMatches_68 (by decide) ?_
                    exact g_lv (List.forall_mem_cons.mpr ⟨List.mem_of_getElem? (i := 0) rfl, (List.forall_mem_cons.mpr ⟨List.mem_of_getElem? (i := 1) rfl, (List.forall_mem_cons.mpr ⟨List.mem_of_getElem? (i := 2) rfl, (List.forall_mem_cons.mpr ⟨List.mem_of_getElem? (i := 3) rfl, (fun _ h => absurd h List.not_mem_nil)⟩)⟩)⟩)⟩) (ih21988 y22005 x21901 (by omega) (by omega) (by omega) (by omega) hP21984 (by omega) (by omega))
                  · skip
                    refine g_iload_n hk dX12_fillsMatches_63 rfl ?_
                    refine g_istore_n (lv' := [(2, .int x21900), (3, .int x21900), (0, .ref (r 0)), (1, .int z1)]) hk dX12_fillsMatches_64 (by decide) rfl ?_
                    obtain ⟨y22006, ey22006⟩ : ∃ y : Int32, y = x21900 + Int32.ofInt 1 := ⟨_, rfl⟩
                    have hy22006 : y22006.toInt = x21900.toInt + 1 := i32_add ey22006 rfl (by decide) (by omega) (by omega)
                    refine g_iinc (v := y22006) (lv' := [(3, .int y22006), (2, .int x21900), (0, .ref (r 0)), (1, .int z1)]) hk 1 dX12_fillsMatches_65 rfl ey22006.symm (by decide) rfl ?_
                    refine g_goto (tgt := 20) hk dX12_fillsMatches_68 (by decide) ?_
                    exact g_lv (List.forall_mem_cons.mpr ⟨List.mem_of_getElem? (i := 0) rfl, (List.forall_mem_cons.mpr ⟨List.mem_of_getElem? (i := 1) rfl, (List.forall_mem_cons.mpr ⟨List.mem_of_getElem? (i := 2) rfl, (List.forall_mem_cons.mpr ⟨List.mem_of_getElem? (i := 3) rfl, (fun _ h => absurd h List.not_mem_nil)⟩)⟩)⟩)⟩) (ih21988 y22006 x21900 (by omega) (by omega) (by omega) (by omega) (fun _ => c21998) (by omega) (by omega))
      have k22007 : (0 : Int32).toInt = 0 := rfl
      have k22008 : ((-1) : Int32).toInt = (-1) := rfl
      obtain ⟨n22009, n22009a, n22009b⟩ : ∃ n : Nat, 161 - (0 : Int32).toInt < (n : Int) ∧ 0 < n := ⟨((161 - (0 : Int32).toInt : Int)).toNat + 1, by omega, by omega⟩
      exact lp21985 n22009 0 (-1) (by omega) (by omega) (by omega) (by omega) (fun h => absurd (show 0 ≤ (-1 : Int32).toInt from h) (by decide)) n22009a n22009b
  have k22010 : (0 : Int32).toInt = 0 := rfl
  obtain ⟨n22011, n22011a, n22011b⟩ : ∃ n : Nat, 161 - (0 : Int32).toInt < (n : Int) ∧ 0 < n := ⟨((161 - (0 : Int32).toInt : Int)).toNat + 1, by omega, by omega⟩
  exact lp21895 n22011 0 (upd I21588 24 0) A21588 L21588 Md.rf Md.rf ⟨(IvM_f1 (I := I21588) (A := A21588) hV21588), (IvM_f2 (I := I21588) (A := A21588) hV21588), (IvM_f3 (I := I21588) (A := A21588) hV21588), (IvM_f4 (I := I21588) (A := A21588) hV21588), (IvM_f6 (I := I21588) (A := A21588) hV21588), (IvM_f8 (I := I21588) (A := A21588) hV21588), (IvM_f15 (I := I21588) (A := A21588) hV21588), (IvM_f16 (I := I21588) (A := A21588) hV21588), (IvM_f17 (I := I21588) (A := A21588) hV21588), (IvM_f18 (I := I21588) (A := A21588) hV21588), (IvM_f22 (I := I21588) (A := A21588) hV21588), (IvM_f23 (I := I21588) (A := A21588) hV21588), (show 0 ≤ (0 : Int32).toInt ∧ (0 : Int32).toInt ≤ 160 from ⟨by decide, by decide⟩), (IvM_a11 (I := I21588) (A := A21588) hV21588), (IvM_a26 (I := I21588) (A := A21588) hV21588), (IvM_s8_0 (I := I21588) (A := A21588) hV21588), (IvM_s8_1 (I := I21588) (A := A21588) hV21588), (IvM_s10_0 (I := I21588) (A := A21588) hV21588), (IvM_s10_1 (I := I21588) (A := A21588) hV21588), (IvM_s17_0 (I := I21588) (A := A21588) hV21588), (IvM_s17_164 (I := I21588) (A := A21588) hV21588), (IvM_lv (I := I21588) (A := A21588) hV21588), (IvM_sd (I := I21588) (A := A21588) hV21588), (IvM_nq (I := I21588) (A := A21588) hV21588), (IvM_hr (I := I21588) (A := A21588) hV21588), (IvM_hh (I := I21588) (A := A21588) hV21588), trivial⟩ (by omega) (by omega) (fun i j _ hj => absurd (show (j : Int) < (0 : Int32).toInt from hj) (by have : (0 : Int32).toInt = 0 := rfl; omega)) (by first | exact n22011a | (rw [show ((upd I21588 24 0) 24) = (0 : Int32) from rfl] <;> exact n22011a)) n22011b
def wo_j190_X12_match : List Cond := [Cond.methodLink RX12 251 yX12_isQuery, Cond.instanceMethod yX12_isQuery, Cond.selects RX12 yX12_isQuery yX12_isQuery, Cond.initialized RX12, Cond.methodLink RX12 244 yX12_in, Cond.static yX12_in, Cond.methodLink RX12 372 yX12_fillsMatches, Cond.instanceMethod yX12_fillsMatches, Cond.selects RX12 yX12_fillsMatches yX12_fillsMatches, Cond.fieldLink RX12 366 "WarpDeskModel" "matchMany" "I", Cond.fieldLink RX12 91 "WarpDeskModel" "farBy" "[I", Cond.fieldLink RX12 97 "WarpDeskModel" "matchAt" "[I"]
def wz_j190_X12_match : List Cond := .code yX12_match cX12_match 4 (some .int) :: (wo_j190_X12_match ++ (wsX120 ++ (wz_j147_X12_isQuery ++ (wz_j145_X12_in ++ (wz_j191_X12_fillsMatches ++ ([] : List Cond))))))
theorem zg_j190_X12_match : ∀ w ∈ wz_j190_X12_match, goodWord w = true := zg_cons rfl (zg_app (by decide +kernel) (zg_app zgU_wsX120 (zg_app zg_j147_X12_isQuery (zg_app zg_j145_X12_in (zg_app zg_j191_X12_fillsMatches zg_nil)))))
theorem zi_j190_X12_match : ∀ w ∈ wz_j190_X12_match, w ∈ lw_tbl := zi_cons zw_1867 (zi_app (zi_cons zw_1663 (zi_cons zw_1665 (zi_cons zw_67 (zi_cons zw_115 (zi_cons zw_1656 (zi_cons zw_1657 (zi_cons zw_1868 (zi_cons zw_1870 (zi_cons zw_96 (zi_cons zw_1428 (zi_cons zw_1426 (zi_cons zw_1429 zi_nil)))))))))))) (zi_app inX12 (zi_app zi_j147_X12_isQuery (zi_app zi_j145_X12_in (zi_app zi_j191_X12_fillsMatches zi_nil)))))
set_option maxHeartbeats 4000000 in
set_option maxRecDepth 100000 in
theorem j190_X12_match (l : Launch) (D : va_G) (zt : Nat × Nat × Nat × (Nat → Nat) × (Nat → Nat)) (r : Nat → Nat) (g : Nat → ClassId) (I : Nat → Int32) (A : Nat → Nat → Int32) (L : Nat → Nat → Int64) (z1 : Int32) (z2 : Int32) (z3 : Int32) (hIv : IvM I A) : GM l D zt (tyM g) yX12_match wz_j190_X12_match ({ frames := 8, cells := 0, slots := 0, locals := 179 } : Room) [.ref (r 0), .int z1, .int z2, .int z3] (wM r g I A L) (fun v _ w' => ∃ (I' : Nat → Int32) (A' : Nat → Nat → Int32) (L' : Nat → Nat → Int64), Md [18, 19, 20, 24] I I' ∧ Md [18, 19, 20, 21, 24, 26] A A' ∧ IvM I' A' ∧ ∃ y0 : Int32, v = some (.int y0) ∧ w' = wM r g I' A' L') 0 0 := by
  refine GM.of (cc := cX12_match) (maxL := 4) (ret := (some .int)) (own := RX12) (lv := [(0, .ref (r 0)), (1, .int z1), (2, .int z2), (3, .int z3)]) (by decide) rfl rfl (Nat.le_of_ble_eq_true rfl) rfl (fun κ sz hk hR hN => ?_)
  have hin12 : ∀ w ∈ u_ws RX12 TX12 55, w ∈ wz_j190_X12_match := fun w h => (List.mem_cons_of_mem _ (List.mem_append_right _ (List.mem_append_left _ h)))
  refine g_aload_n hk dX12_match_0 rfl ?_
  refine g_iload_n hk dX12_match_1 rfl ?_
  refine g_callV (n := 1) hk (j147_X12_isQuery l D zt r g I A L z1 hIv) (SP.same _) (fun _ h => h) (gi_V (List.mem_cons_of_mem _ (List.mem_append_left _ (List.mem_of_getElem? (i := 0) rfl))) (List.mem_cons_of_mem _ (List.mem_append_left _ (List.mem_of_getElem? (i := 1) rfl))) (List.mem_cons_of_mem _ (List.mem_append_left _ (List.mem_of_getElem? (i := 2) rfl))) (List.mem_cons_of_mem _ (List.mem_append_left _ (List.mem_of_getElem? (i := 3) rfl))) (gi_sub (fun w h => (List.mem_cons_of_mem _ (List.mem_append_right _ (List.mem_append_right _ (List.mem_append_left _ h))))) zg_j147_X12_isQuery)) rfl rfl rfl (by decide +kernel) ⟨Nat.le_of_ble_eq_true rfl, Nat.le_of_ble_eq_true rfl⟩ 0 rfl rfl rfl rfl (Nat.le_of_ble_eq_true rfl) ⟨Nat.le_of_ble_eq_true rfl, Nat.le_of_ble_eq_true rfl⟩ dX12_match_2 (fun v ty' w' hp hk' => ?_)
  rcases hp with ⟨rfl, rfl⟩ | ⟨c21571, c21572, c21573, c21574, rfl, rfl⟩
  · skip
    show GW κ 4 0 0 (wM r g I A L) 5 [(0, .ref (r 0)), (1, .int z1), (2, .int z2), (3, .int z3)] [.int 0]
    refine g_if_eq (tgt := 21) (a := 0) hk dX12_match_5 (by decide) rfl (fun _ => ?_) (fun z9 => absurd (show (0 : Int) = (0 : Int) from by decide) z9)
    refine g_iconst (v := (-1)) hk dX12_match_21 (by decide) ?_
    exact g_iret hk hR rfl ⟨I, A, L, (show Md [18, 19, 20, 24] I I from Md.rf), (show Md [18, 19, 20, 21, 24, 26] A A from Md.rf), hIv, (-1), rfl, rfl⟩ dX12_match_22
  · skip
    have f21576 : 0 ≤ (A 11 (5 * (I 15) + z1).toNatClampNeg).toInt ∧ (A 11 (5 * (I 15) + z1).toNatClampNeg).toInt ≤ 16 := IvM_a11 hIv _
    show GW κ 4 0 0 (wM r g I A L) 5 [(0, .ref (r 0)), (1, .int z1), (2, .int z2), (3, .int z3)] [.int 1]
    refine g_if_eq (tgt := 21) (a := 1) hk dX12_match_5 (by decide) rfl (fun z9 => absurd z9 (show ¬ ((1 : Int) = (0 : Int)) from by decide)) (fun _ => ?_)
    refine g_iload_n hk dX12_match_8 rfl ?_
    have b21577l := Int32.le_toInt z2
    have b21577h := Int32.toInt_lt z2
    refine g_if_lt (tgt := 21) (a := z2.toInt) hk dX12_match_9 (by decide) rfl (fun c21578 => ?_) (fun c21578 => ?_)
    · skip
      refine g_iconst (v := (-1)) hk dX12_match_21 (by decide) ?_
      exact g_iret hk hR rfl ⟨I, A, L, (show Md [18, 19, 20, 24] I I from Md.rf), (show Md [18, 19, 20, 21, 24, 26] A A from Md.rf), hIv, (-1), rfl, rfl⟩ dX12_match_22
    · skip
      refine g_iload_n hk dX12_match_12 rfl ?_
      refine g_iconst (v := 0) hk dX12_match_13 (by decide) ?_
      refine g_iconst (v := 1) hk dX12_match_14 (by decide) ?_
      have k21579 : (0 : Int32).toInt = 0 := rfl
      have k21580 : (1 : Int32).toInt = 1 := rfl
      refine g_callS (n := 3) hk (j145_X12_in l D zt r g I A L z3 0 1 hIv) (SP.same _) (fun _ h => h) (gi_S (List.mem_cons_of_mem _ (List.mem_append_left _ (List.mem_of_getElem? (i := 4) rfl))) (List.mem_cons_of_mem _ (List.mem_append_left _ (List.mem_of_getElem? (i := 5) rfl))) (List.mem_cons_of_mem _ (List.mem_append_left _ (List.mem_of_getElem? (i := 3) rfl))) (gi_sub (fun w h => (List.mem_cons_of_mem _ (List.mem_append_right _ (List.mem_append_right _ (List.mem_append_right _ (List.mem_append_left _ h)))))) zg_j145_X12_in)) rfl rfl rfl (by decide +kernel) ⟨Nat.le_of_ble_eq_true rfl, Nat.le_of_ble_eq_true rfl⟩ rfl rfl (Nat.le_of_ble_eq_true rfl) ⟨Nat.le_of_ble_eq_true rfl, Nat.le_of_ble_eq_true rfl⟩ dX12_match_15 (fun v ty' w' hp hk' => ?_)
      rcases hp with ⟨c21581, rfl, rfl⟩ | ⟨c21583, c21584, rfl, rfl⟩
      · skip
        have b21586l := Int32.le_toInt z3
        have b21586h := Int32.toInt_lt z3
        show GW κ 4 0 0 (wM r g I A L) 18 [(0, .ref (r 0)), (1, .int z1), (2, .int z2), (3, .int z3)] [.int 0]
        refine g_if_ne (tgt := 23) (a := 0) hk dX12_match_18 (by decide) rfl (fun z9 => absurd z9 (show ¬ ((0 : Int) ≠ (0 : Int)) from by decide)) (fun _ => ?_)
        refine g_iconst (v := (-1)) hk dX12_match_21 (by decide) ?_
        exact g_iret hk hR rfl ⟨I, A, L, (show Md [18, 19, 20, 24] I I from Md.rf), (show Md [18, 19, 20, 21, 24, 26] A A from Md.rf), hIv, (-1), rfl, rfl⟩ dX12_match_22
      · skip
        show GW κ 4 0 0 (wM r g I A L) 18 [(0, .ref (r 0)), (1, .int z1), (2, .int z2), (3, .int z3)] [.int 1]
        refine g_if_ne (tgt := 23) (a := 1) hk dX12_match_18 (by decide) rfl (fun _ => ?_) (fun z9 => absurd (show (1 : Int) ≠ (0 : Int) from by decide) z9)
        refine g_aload_n hk dX12_match_23 rfl ?_
        refine g_iload_n hk dX12_match_24 rfl ?_
        refine g_callV (n := 1) hk (j191_X12_fillsMatches l D zt r g I A L z1 hIv (by omega) (by omega)) (SP.same _) (fun _ h => h) (gi_V (List.mem_cons_of_mem _ (List.mem_append_left _ (List.mem_of_getElem? (i := 6) rfl))) (List.mem_cons_of_mem _ (List.mem_append_left _ (List.mem_of_getElem? (i := 7) rfl))) (List.mem_cons_of_mem _ (List.mem_append_left _ (List.mem_of_getElem? (i := 8) rfl))) (List.mem_cons_of_mem _ (List.mem_append_left _ (List.mem_of_getElem? (i := 3) rfl))) (gi_sub (fun w h => (List.mem_cons_of_mem _ (List.mem_append_right _ (List.mem_append_right _ (List.mem_append_right _ (List.mem_append_right _ (List.mem_append_left _ h))))))) zg_j191_X12_fillsMatches)) rfl rfl rfl (by decide +kernel) ⟨Nat.le_of_ble_eq_true rfl, Nat.le_of_ble_eq_true rfl⟩ 0 rfl rfl rfl rfl (Nat.le_of_ble_eq_true rfl) ⟨Nat.le_of_ble_eq_true rfl, Nat.le_of_ble_eq_true rfl⟩ dX12_match_25 (fun v ty' w' hp hk' => ?_)
        obtain ⟨I22013, A22013, L22013, hI22013, hA22013, hV22013, rfl, rfl⟩ := hp
        show GW κ 4 0 0 (wM r g I22013 A22013 L22013) 28 [(0, .ref (r 0)), (1, .int z1), (2, .int z2), (3, .int z3)] []
        refine g_iload_n hk dX12_match_28 rfl ?_
        refine g_aload_n hk dX12_match_29 rfl ?_
        refine gM_i24 (v := (I22013 24)) hk hin12 (List.mem_cons_of_mem _ (List.mem_append_left _ (List.mem_of_getElem? (i := 9) rfl))) dX12_match_30 rfl ?_
        have f22014 := IvM_f24 hV22013
        refine g_icmp_lt (tgt := 39) (a := z2.toInt) (b := (I22013 24).toInt) hk dX12_match_33 (by decide) rfl rfl (fun c22015 => ?_) (fun c22015 => ?_)
        · skip
          refine g_iload_n hk dX12_match_39 rfl ?_
          refine g_if_ne (tgt := 52) (a := z3.toInt) hk dX12_match_40 (by decide) rfl (fun c22016 => ?_) (fun c22016 => ?_)
          · skip
            refine g_aload_n hk dX12_match_52 rfl ?_
            refine gM_r0_48 hk hin12 (List.mem_cons_of_mem _ (List.mem_append_left _ (List.mem_of_getElem? (i := 10) rfl))) dX12_match_53 ?_
            refine g_aload_n hk dX12_match_56 rfl ?_
            refine gM_r0_51 hk hin12 (List.mem_cons_of_mem _ (List.mem_append_left _ (List.mem_of_getElem? (i := 11) rfl))) dX12_match_57 ?_
            refine g_iload_n hk dX12_match_60 rfl ?_
            refine lM_26 (v := (A22013 26 z2.toNatClampNeg)) hk (vp_in_iff.mpr ⟨by omega, by omega⟩) rfl dX12_match_61 ?_
            have f22017 := IvM_a26 hV22013 (z2.toNatClampNeg)
            refine lM_24 (v := (A22013 24 (A22013 26 z2.toNatClampNeg).toNatClampNeg)) hk (vp_in_iff.mpr ⟨by omega, by omega⟩) rfl dX12_match_62 ?_
            have b22018l := Int32.le_toInt (A22013 24 (A22013 26 z2.toNatClampNeg).toNatClampNeg)
            have b22018h := Int32.toInt_lt (A22013 24 (A22013 26 z2.toNatClampNeg).toNatClampNeg)
            exact g_iret hk hR rfl ⟨I22013, A22013, L22013, (show Md [18, 19, 20, 24] I I22013 from (Md.tr Md.rf hI22013 rfl)), (show Md [18, 19, 20, 21, 24, 26] A A22013 from (Md.tr Md.rf hA22013 rfl)), hV22013, (A22013 24 (A22013 26 z2.toNatClampNeg).toNatClampNeg), rfl, rfl⟩ dX12_match_63
          · skip
            refine g_aload_n hk dX12_match_43 rfl ?_
            refine gM_r0_51 hk hin12 (List.mem_cons_of_mem _ (List.mem_append_left _ (List.mem_of_getElem? (i := 11) rfl))) dX12_match_44 ?_
            refine g_iload_n hk dX12_match_47 rfl ?_
            refine lM_26 (v := (A22013 26 z2.toNatClampNeg)) hk (vp_in_iff.mpr ⟨by omega, by omega⟩) rfl dX12_match_48 ?_
            have f22019 := IvM_a26 hV22013 (z2.toNatClampNeg)
            refine g_goto (tgt := 63) hk dX12_match_49 (by decide) ?_
            exact g_iret hk hR rfl ⟨I22013, A22013, L22013, (show Md [18, 19, 20, 24] I I22013 from (Md.tr Md.rf hI22013 rfl)), (show Md [18, 19, 20, 21, 24, 26] A A22013 from (Md.tr Md.rf hA22013 rfl)), hV22013, (A22013 26 z2.toNatClampNeg), rfl, rfl⟩ dX12_match_63
        · skip
          refine g_bipush (v := (-2)) hk dX12_match_36 (by decide) ?_
          exact g_iret hk hR rfl ⟨I22013, A22013, L22013, (show Md [18, 19, 20, 24] I I22013 from (Md.tr Md.rf hI22013 rfl)), (show Md [18, 19, 20, 21, 24, 26] A A22013 from (Md.tr Md.rf hA22013 rfl)), hV22013, (-2), rfl, rfl⟩ dX12_match_38
def wo_j193_X12_within : List Cond := [Cond.methodLink RX12 251 yX12_isQuery, Cond.instanceMethod yX12_isQuery, Cond.selects RX12 yX12_isQuery yX12_isQuery, Cond.initialized RX12, Cond.methodLink RX12 372 yX12_fillsMatches, Cond.instanceMethod yX12_fillsMatches, Cond.selects RX12 yX12_fillsMatches yX12_fillsMatches, Cond.fieldLink RX12 366 "WarpDeskModel" "matchMany" "I", Cond.fieldLink RX12 91 "WarpDeskModel" "farBy" "[I", Cond.fieldLink RX12 97 "WarpDeskModel" "matchAt" "[I"]
def wz_j193_X12_within : List Cond := .code yX12_within cX12_within 5 (some .int) :: (wo_j193_X12_within ++ (wsX120 ++ (wz_j147_X12_isQuery ++ (wz_j191_X12_fillsMatches ++ ([] : List Cond)))))
theorem zg_j193_X12_within : ∀ w ∈ wz_j193_X12_within, goodWord w = true := zg_cons rfl (zg_app (by decide +kernel) (zg_app zgU_wsX120 (zg_app zg_j147_X12_isQuery (zg_app zg_j191_X12_fillsMatches zg_nil))))
theorem zi_j193_X12_within : ∀ w ∈ wz_j193_X12_within, w ∈ lw_tbl := zi_cons zw_1879 (zi_app (zi_cons zw_1663 (zi_cons zw_1665 (zi_cons zw_67 (zi_cons zw_115 (zi_cons zw_1868 (zi_cons zw_1870 (zi_cons zw_96 (zi_cons zw_1428 (zi_cons zw_1426 (zi_cons zw_1429 zi_nil)))))))))) (zi_app inX12 (zi_app zi_j147_X12_isQuery (zi_app zi_j191_X12_fillsMatches zi_nil))))
set_option maxHeartbeats 4000000 in
set_option maxRecDepth 100000 in
theorem j193_X12_within (l : Launch) (D : va_G) (zt : Nat × Nat × Nat × (Nat → Nat) × (Nat → Nat)) (r : Nat → Nat) (g : Nat → ClassId) (I : Nat → Int32) (A : Nat → Nat → Int32) (L : Nat → Nat → Int64) (z1 : Int32) (z2 : Int32) (hIv : IvM I A) : GM l D zt (tyM g) yX12_within wz_j193_X12_within ({ frames := 8, cells := 0, slots := 0, locals := 179 } : Room) [.ref (r 0), .int z1, .int z2] (wM r g I A L) (fun v _ w' => ∃ (I' : Nat → Int32) (A' : Nat → Nat → Int32) (L' : Nat → Nat → Int64), Md [18, 19, 20, 24] I I' ∧ Md [18, 19, 20, 21, 24, 26] A A' ∧ IvM I' A' ∧ ∃ y0 : Int32, v = some (.int y0) ∧ w' = wM r g I' A' L') 0 0 := by
  refine GM.of (cc := cX12_within) (maxL := 5) (ret := (some .int)) (own := RX12) (lv := [(0, .ref (r 0)), (1, .int z1), (2, .int z2)]) (by decide) rfl rfl (Nat.le_of_ble_eq_true rfl) rfl (fun κ sz hk hR hN => ?_)
  have hin12 : ∀ w ∈ u_ws RX12 TX12 55, w ∈ wz_j193_X12_within := fun w h => (List.mem_cons_of_mem _ (List.mem_append_right _ (List.mem_append_left _ h)))
  refine g_aload_n hk dX12_within_0 rfl ?_
  refine g_iload_n hk dX12_within_1 rfl ?_
  refine g_callV (n := 1) hk (j147_X12_isQuery l D zt r g I A L z1 hIv) (SP.same _) (fun _ h => h) (gi_V (List.mem_cons_of_mem _ (List.mem_append_left _ (List.mem_of_getElem? (i := 0) rfl))) (List.mem_cons_of_mem _ (List.mem_append_left _ (List.mem_of_getElem? (i := 1) rfl))) (List.mem_cons_of_mem _ (List.mem_append_left _ (List.mem_of_getElem? (i := 2) rfl))) (List.mem_cons_of_mem _ (List.mem_append_left _ (List.mem_of_getElem? (i := 3) rfl))) (gi_sub (fun w h => (List.mem_cons_of_mem _ (List.mem_append_right _ (List.mem_append_right _ (List.mem_append_left _ h))))) zg_j147_X12_isQuery)) rfl rfl rfl (by decide +kernel) ⟨Nat.le_of_ble_eq_true rfl, Nat.le_of_ble_eq_true rfl⟩ 0 rfl rfl rfl rfl (Nat.le_of_ble_eq_true rfl) ⟨Nat.le_of_ble_eq_true rfl, Nat.le_of_ble_eq_true rfl⟩ dX12_within_2 (fun v ty' w' hp hk' => ?_)
  rcases hp with ⟨rfl, rfl⟩ | ⟨c22021, c22022, c22023, c22024, rfl, rfl⟩
  · skip
    show GW κ 5 0 0 (wM r g I A L) 5 [(0, .ref (r 0)), (1, .int z1), (2, .int z2)] [.int 0]
    refine g_if_eq (tgt := 12) (a := 0) hk dX12_within_5 (by decide) rfl (fun _ => ?_) (fun z9 => absurd (show (0 : Int) = (0 : Int) from by decide) z9)
    refine g_iconst (v := (-1)) hk dX12_within_12 (by decide) ?_
    exact g_iret hk hR rfl ⟨I, A, L, (show Md [18, 19, 20, 24] I I from Md.rf), (show Md [18, 19, 20, 21, 24, 26] A A from Md.rf), hIv, (-1), rfl, rfl⟩ dX12_within_13
  · skip
    have f22026 : 0 ≤ (A 11 (5 * (I 15) + z1).toNatClampNeg).toInt ∧ (A 11 (5 * (I 15) + z1).toNatClampNeg).toInt ≤ 16 := IvM_a11 hIv _
    show GW κ 5 0 0 (wM r g I A L) 5 [(0, .ref (r 0)), (1, .int z1), (2, .int z2)] [.int 1]
    refine g_if_eq (tgt := 12) (a := 1) hk dX12_within_5 (by decide) rfl (fun z9 => absurd z9 (show ¬ ((1 : Int) = (0 : Int)) from by decide)) (fun _ => ?_)
    refine g_iload_n hk dX12_within_8 rfl ?_
    have b22027l := Int32.le_toInt z2
    have b22027h := Int32.toInt_lt z2
    refine g_if_ge (tgt := 14) (a := z2.toInt) hk dX12_within_9 (by decide) rfl (fun c22028 => ?_) (fun c22028 => ?_)
    · skip
      refine g_aload_n hk dX12_within_14 rfl ?_
      refine g_iload_n hk dX12_within_15 rfl ?_
      refine g_callV (n := 1) hk (j191_X12_fillsMatches l D zt r g I A L z1 hIv (by omega) (by omega)) (SP.same _) (fun _ h => h) (gi_V (List.mem_cons_of_mem _ (List.mem_append_left _ (List.mem_of_getElem? (i := 4) rfl))) (List.mem_cons_of_mem _ (List.mem_append_left _ (List.mem_of_getElem? (i := 5) rfl))) (List.mem_cons_of_mem _ (List.mem_append_left _ (List.mem_of_getElem? (i := 6) rfl))) (List.mem_cons_of_mem _ (List.mem_append_left _ (List.mem_of_getElem? (i := 3) rfl))) (gi_sub (fun w h => (List.mem_cons_of_mem _ (List.mem_append_right _ (List.mem_append_right _ (List.mem_append_right _ (List.mem_append_left _ h)))))) zg_j191_X12_fillsMatches)) rfl rfl rfl (by decide +kernel) ⟨Nat.le_of_ble_eq_true rfl, Nat.le_of_ble_eq_true rfl⟩ 0 rfl rfl rfl rfl (Nat.le_of_ble_eq_true rfl) ⟨Nat.le_of_ble_eq_true rfl, Nat.le_of_ble_eq_true rfl⟩ dX12_within_16 (fun v ty' w' hp hk' => ?_)
      obtain ⟨I22030, A22030, L22030, hI22030, hA22030, hV22030, rfl, rfl⟩ := hp
      show GW κ 5 0 0 (wM r g I22030 A22030 L22030) 19 [(0, .ref (r 0)), (1, .int z1), (2, .int z2)] []
      refine g_iconst (v := 0) hk dX12_within_19 (by decide) ?_
      refine g_istore_n (lv' := [(3, .int 0), (0, .ref (r 0)), (1, .int z1), (2, .int z2)]) hk dX12_within_20 (by decide) rfl ?_
      refine g_iconst (v := 0) hk dX12_within_21 (by decide) ?_
      refine g_istore (lv' := [(4, .int 0), (3, .int 0), (0, .ref (r 0)), (1, .int z1), (2, .int z2)]) hk dX12_within_22 (by decide) rfl ?_
      have lp22081 : ∀ (n22082 : Nat) (x22031 : Int32) (x22032 : Int32), (0 ≤ x22031.toInt) → (x22031.toInt ≤ 160) → (161 - x22031.toInt < (n22082 : Int)) → (0 < n22082) → GW κ 5 0 0 (wM r g I22030 A22030 L22030) 24 [(4, .int x22031), (3, .int x22032), (0, .ref (r 0)), (1, .int z1), (2, .int z2)] [] := by
        intro n22082
        induction n22082 with
        | zero =>
          intro x22031 x22032 h22079 h22080 m22083 m22083z
          exact absurd m22083z (Nat.lt_irrefl 0)
        | succ n22082 ih22084 =>
          intro x22031 x22032 h22079 h22080 m22083 m22083z
          refine g_iload hk dX12_within_24 rfl ?_
          refine g_aload_n hk dX12_within_26 rfl ?_
          refine gM_i24 (v := (I22030 24)) hk hin12 (List.mem_cons_of_mem _ (List.mem_append_left _ (List.mem_of_getElem? (i := 7) rfl))) dX12_within_27 rfl ?_
          have f22085 := IvM_f24 hV22030
          refine g_icmp_ge (tgt := 58) (a := x22031.toInt) (b := (I22030 24).toInt) hk dX12_within_30 (by decide) rfl rfl (fun c22086 => ?_) (fun c22086 => ?_)
          · skip
            refine g_iload_n hk dX12_within_58 rfl ?_
            have b22087l := Int32.le_toInt x22032
            have b22087h := Int32.toInt_lt x22032
            exact g_iret hk hR rfl ⟨I22030, A22030, L22030, (show Md [18, 19, 20, 24] I I22030 from (Md.tr Md.rf hI22030 rfl)), (show Md [18, 19, 20, 21, 24, 26] A A22030 from (Md.tr Md.rf hA22030 rfl)), hV22030, x22032, rfl, rfl⟩ dX12_within_59
          · skip
            refine g_aload_n hk dX12_within_33 rfl ?_
            refine gM_r0_48 hk hin12 (List.mem_cons_of_mem _ (List.mem_append_left _ (List.mem_of_getElem? (i := 8) rfl))) dX12_within_34 ?_
            refine g_aload_n hk dX12_within_37 rfl ?_
            refine gM_r0_51 hk hin12 (List.mem_cons_of_mem _ (List.mem_append_left _ (List.mem_of_getElem? (i := 9) rfl))) dX12_within_38 ?_
            refine g_iload hk dX12_within_41 rfl ?_
            refine lM_26 (v := (A22030 26 x22031.toNatClampNeg)) hk (vp_in_iff.mpr ⟨by omega, by omega⟩) rfl dX12_within_43 ?_
            have f22088 := IvM_a26 hV22030 (x22031.toNatClampNeg)
            refine lM_24 (v := (A22030 24 (A22030 26 x22031.toNatClampNeg).toNatClampNeg)) hk (vp_in_iff.mpr ⟨by omega, by omega⟩) rfl dX12_within_44 ?_
            refine g_iload_n hk dX12_within_45 rfl ?_
            have b22089l := Int32.le_toInt (A22030 24 (A22030 26 x22031.toNatClampNeg).toNatClampNeg)
            have b22089h := Int32.toInt_lt (A22030 24 (A22030 26 x22031.toNatClampNeg).toNatClampNeg)
            refine g_icmp_gt (tgt := 52) (a := (A22030 24 (A22030 26 x22031.toNatClampNeg).toNatClampNeg).toInt) (b := z2.toInt) hk dX12_within_46 (by decide) rfl rfl (fun c22090 => ?_) (fun c22090 => ?_)
            · skip
              obtain ⟨y22091, ey22091⟩ : ∃ y : Int32, y = x22031 + Int32.ofInt 1 := ⟨_, rfl⟩
              have hy22091 : y22091.toInt = x22031.toInt + 1 := i32_add ey22091 rfl (by decide) (by omega) (by omega)
              refine g_iinc (v := y22091) (lv' := [(4, .int y22091), (3, .int x22032), (0, .ref (r 0)), (1, .int z1), (2, .int z2)]) hk 0 dX12_within_52 rfl ey22091.symm (by decide) rfl ?_
              refine g_goto (tgt := 24) hk dX12_within_55 (by decide) ?_
              have b22092l := Int32.le_toInt x22032
              have b22092h := Int32.toInt_lt x22032
              exact g_lv (List.forall_mem_cons.mpr ⟨List.mem_of_getElem? (i := 0) rfl, (List.forall_mem_cons.mpr ⟨List.mem_of_getElem? (i := 1) rfl, (List.forall_mem_cons.mpr ⟨List.mem_of_getElem? (i := 2) rfl, (List.forall_mem_cons.mpr ⟨List.mem_of_getElem? (i := 3) rfl, (List.forall_mem_cons.mpr ⟨List.mem_of_getElem? (i := 4) rfl, (fun _ h => absurd h List.not_mem_nil)⟩)⟩)⟩)⟩)⟩) (ih22084 y22091 x22032 (by omega) (by omega) (by omega) (by omega))
            · skip
              have b22093l := Int32.le_toInt x22032
              have b22093h := Int32.toInt_lt x22032
              obtain ⟨y22094, ey22094⟩ : ∃ y : Int32, y = x22032 + Int32.ofInt 1 := ⟨_, rfl⟩
              refine g_iinc (v := y22094) (lv' := [(3, .int y22094), (4, .int x22031), (0, .ref (r 0)), (1, .int z1), (2, .int z2)]) hk 1 dX12_within_49 rfl ey22094.symm (by decide) rfl ?_
              obtain ⟨y22095, ey22095⟩ : ∃ y : Int32, y = x22031 + Int32.ofInt 1 := ⟨_, rfl⟩
              have hy22095 : y22095.toInt = x22031.toInt + 1 := i32_add ey22095 rfl (by decide) (by omega) (by omega)
              refine g_iinc (v := y22095) (lv' := [(4, .int y22095), (3, .int y22094), (0, .ref (r 0)), (1, .int z1), (2, .int z2)]) hk 1 dX12_within_52 rfl ey22095.symm (by decide) rfl ?_
              refine g_goto (tgt := 24) hk dX12_within_55 (by decide) ?_
              have b22096l := Int32.le_toInt y22094
              have b22096h := Int32.toInt_lt y22094
              exact g_lv (List.forall_mem_cons.mpr ⟨List.mem_of_getElem? (i := 0) rfl, (List.forall_mem_cons.mpr ⟨List.mem_of_getElem? (i := 1) rfl, (List.forall_mem_cons.mpr ⟨List.mem_of_getElem? (i := 2) rfl, (List.forall_mem_cons.mpr ⟨List.mem_of_getElem? (i := 3) rfl, (List.forall_mem_cons.mpr ⟨List.mem_of_getElem? (i := 4) rfl, (fun _ h => absurd h List.not_mem_nil)⟩)⟩)⟩)⟩)⟩) (ih22084 y22095 y22094 (by omega) (by omega) (by omega) (by omega))
      have k22097 : (0 : Int32).toInt = 0 := rfl
      obtain ⟨n22098, n22098a, n22098b⟩ : ∃ n : Nat, 161 - (0 : Int32).toInt < (n : Int) ∧ 0 < n := ⟨((161 - (0 : Int32).toInt : Int)).toNat + 1, by omega, by omega⟩
      exact lp22081 n22098 0 0 (by omega) (by omega) n22098a n22098b
    · skip
      refine g_iconst (v := (-1)) hk dX12_within_12 (by decide) ?_
      exact g_iret hk hR rfl ⟨I, A, L, (show Md [18, 19, 20, 24] I I from Md.rf), (show Md [18, 19, 20, 21, 24, 26] A A from Md.rf), hIv, (-1), rfl, rfl⟩ dX12_within_13
def wo_j195_X12_fillsWay : List Cond := [Cond.fieldLink RX12 267 "WarpDeskModel" "wide" "I", Cond.fieldLink RX12 351 "WarpDeskModel" "wayMany" "I", Cond.fieldLink RX12 88 "WarpDeskModel" "wayAt" "[I", Cond.methodLink RX12 283 yX12_atTable, Cond.instanceMethod yX12_atTable, Cond.selects RX12 yX12_atTable yX12_atTable, Cond.initialized RX12]
def wz_j195_X12_fillsWay : List Cond := .code yX12_fillsWay cX12_fillsWay 8 none :: (wo_j195_X12_fillsWay ++ (wsX120 ++ (wz_j174_X12_atTable ++ ([] : List Cond))))
theorem zg_j195_X12_fillsWay : ∀ w ∈ wz_j195_X12_fillsWay, goodWord w = true := zg_cons rfl (zg_app (by decide +kernel) (zg_app zgU_wsX120 (zg_app zg_j174_X12_atTable zg_nil)))
theorem zi_j195_X12_fillsWay : ∀ w ∈ wz_j195_X12_fillsWay, w ∈ lw_tbl := zi_cons zw_1835 (zi_app (zi_cons zw_1415 (zi_cons zw_1425 (zi_cons zw_1424 (zi_cons zw_1788 (zi_cons zw_1790 (zi_cons zw_86 (zi_cons zw_115 zi_nil))))))) (zi_app inX12 (zi_app zi_j174_X12_atTable zi_nil)))
set_option maxHeartbeats 4000000 in
set_option maxRecDepth 100000 in
theorem j195_X12_fillsWay (l : Launch) (D : va_G) (zt : Nat × Nat × Nat × (Nat → Nat) × (Nat → Nat)) (r : Nat → Nat) (g : Nat → ClassId) (I : Nat → Int32) (A : Nat → Nat → Int32) (L : Nat → Nat → Int64) (hIv : IvM I A) : GM l D zt (tyM g) yX12_fillsWay wz_j195_X12_fillsWay ({ frames := 3, cells := 0, slots := 0, locals := 66 } : Room) [.ref (r 0)] (wM r g I A L) (fun v _ w' => ∃ (I' : Nat → Int32) (A' : Nat → Nat → Int32) (L' : Nat → Nat → Int64), Md [23] I I' ∧ Md [23] A A' ∧ IvM I' A' ∧ v = none ∧ w' = wM r g I' A' L') 0 0 := by
  refine GM.of (cc := cX12_fillsWay) (maxL := 8) (ret := none) (own := RX12) (lv := [(0, .ref (r 0))]) (by decide) rfl rfl (Nat.le_of_ble_eq_true rfl) rfl (fun κ sz hk hR hN => ?_)
  have hin12 : ∀ w ∈ u_ws RX12 TX12 55, w ∈ wz_j195_X12_fillsWay := fun w h => (List.mem_cons_of_mem _ (List.mem_append_right _ (List.mem_append_left _ h)))
  refine g_aload_n hk dX12_fillsWay_0 rfl ?_
  refine gM_i18 (v := (I 18)) hk hin12 (List.mem_cons_of_mem _ (List.mem_append_left _ (List.mem_of_getElem? (i := 0) rfl))) dX12_fillsWay_1 rfl ?_
  have f22126 := IvM_f18 hIv
  refine g_iconst (v := 1) hk dX12_fillsWay_4 (by decide) ?_
  refine g_isub hk dX12_fillsWay_5 ?_
  refine g_topi (fun y22127 ey22127 => ?_)
  have hy22127 : y22127.toInt = (I 18).toInt - 1 := i32_sub ey22127 rfl rfl (by omega) (by omega)
  refine g_istore_n (lv' := [(1, .int y22127), (0, .ref (r 0))]) hk dX12_fillsWay_6 (by decide) rfl ?_
  refine g_aload_n hk dX12_fillsWay_7 rfl ?_
  refine gM_i18 (v := (I 18)) hk hin12 (List.mem_cons_of_mem _ (List.mem_append_left _ (List.mem_of_getElem? (i := 0) rfl))) dX12_fillsWay_8 rfl ?_
  refine g_iconst (v := 1) hk dX12_fillsWay_11 (by decide) ?_
  refine g_isub hk dX12_fillsWay_12 ?_
  refine g_topi (fun y22128 ey22128 => ?_)
  have hy22128 : y22128.toInt = (I 18).toInt - 1 := i32_sub ey22128 rfl rfl (by omega) (by omega)
  refine g_istore_n (lv' := [(2, .int y22128), (1, .int y22127), (0, .ref (r 0))]) hk dX12_fillsWay_13 (by decide) rfl ?_
  refine g_aload_n hk dX12_fillsWay_14 rfl ?_
  refine g_iconst (v := 0) hk dX12_fillsWay_15 (by decide) ?_
  refine pM_i23 hk hin12 (List.mem_cons_of_mem _ (List.mem_append_left _ (List.mem_of_getElem? (i := 1) rfl))) dX12_fillsWay_16 ?_
  have lp22196 : ∀ (n22197 : Nat) (x22129 : Int32) (x22130 : Int32) (I22132 : Nat → Int32) (A22132 : Nat → Nat → Int32) (L22132 : Nat → Nat → Int64), (Md [23] (upd I 23 0) I22132) → (Md [23] A A22132) → (IvM I22132 A22132) → ((-1) ≤ x22129.toInt) → (x22129.toInt ≤ 15) → ((-1) ≤ x22130.toInt) → (x22130.toInt ≤ 15) → ((I22132 23).toInt + x22130.toInt + x22129.toInt ≤ 30) → (x22130.toInt + x22129.toInt + 3 < (n22197 : Int)) → (0 < n22197) → GW κ 8 0 0 (wM r g I22132 A22132 L22132) 19 [(2, .int x22129), (1, .int x22130), (0, .ref (r 0))] [] := by
    intro n22197
    induction n22197 with
    | zero =>
      intro x22129 x22130 I22132 A22132 L22132 hI22132 hA22132 hV22132 h22191 h22192 h22193 h22194 h22195 m22198 m22198z
      exact absurd m22198z (Nat.lt_irrefl 0)
    | succ n22197 ih22199 =>
      intro x22129 x22130 I22132 A22132 L22132 hI22132 hA22132 hV22132 h22191 h22192 h22193 h22194 h22195 m22198 m22198z
      have f22200 := IvM_f23 hV22132
      refine g_iload_n hk dX12_fillsWay_19 rfl ?_
      refine g_if_lt (tgt := 145) (a := x22130.toInt) hk dX12_fillsWay_20 (by decide) rfl (fun c22201 => ?_) (fun c22201 => ?_)
      · skip
        exact g_vret hk hR ⟨I22132, A22132, L22132, (show Md [23] I I22132 from (Md.tr (Md.up Md.rf rfl) hI22132 rfl)), (show Md [23] A A22132 from (Md.tr Md.rf hA22132 rfl)), hV22132, rfl, rfl⟩ dX12_fillsWay_145
      · skip
        refine g_iload_n hk dX12_fillsWay_23 rfl ?_
        refine g_if_lt (tgt := 145) (a := x22129.toInt) hk dX12_fillsWay_24 (by decide) rfl (fun c22202 => ?_) (fun c22202 => ?_)
        · skip
          exact g_vret hk hR ⟨I22132, A22132, L22132, (show Md [23] I I22132 from (Md.tr (Md.up Md.rf rfl) hI22132 rfl)), (show Md [23] A A22132 from (Md.tr Md.rf hA22132 rfl)), hV22132, rfl, rfl⟩ dX12_fillsWay_145
        · skip
          refine g_aload_n hk dX12_fillsWay_27 rfl ?_
          refine gM_r0_46 hk hin12 (List.mem_cons_of_mem _ (List.mem_append_left _ (List.mem_of_getElem? (i := 2) rfl))) dX12_fillsWay_28 ?_
          refine g_aload_n hk dX12_fillsWay_31 rfl ?_
          refine gM_i23 (v := (I22132 23)) hk hin12 (List.mem_cons_of_mem _ (List.mem_append_left _ (List.mem_of_getElem? (i := 1) rfl))) dX12_fillsWay_32 rfl ?_
          refine g_bipush (v := 100) hk dX12_fillsWay_35 (by decide) ?_
          refine g_iload_n hk dX12_fillsWay_37 rfl ?_
          refine g_imul hk dX12_fillsWay_38 ?_
          refine g_topi (fun y22203 ey22203 => ?_)
          have hy22203 : y22203.toInt = 100 * x22130.toInt := i32_mul ey22203 rfl rfl (by omega) (by omega)
          refine g_iload_n hk dX12_fillsWay_39 rfl ?_
          refine g_iadd hk dX12_fillsWay_40 ?_
          refine g_topi (fun y22204 ey22204 => ?_)
          have hy22204 : y22204.toInt = y22203.toInt + x22129.toInt := i32_add ey22204 rfl rfl (by omega) (by omega)
          refine sM_23 (j := (I22132 23).toNatClampNeg) hk (vp_in_iff.mpr ⟨by omega, by omega⟩) rfl dX12_fillsWay_41 ?_
          refine g_aload_n hk dX12_fillsWay_42 rfl ?_
          refine g_dup hk dX12_fillsWay_43 rfl ?_
          refine gM_i23 (v := (I22132 23)) hk hin12 (List.mem_cons_of_mem _ (List.mem_append_left _ (List.mem_of_getElem? (i := 1) rfl))) dX12_fillsWay_44 rfl ?_
          refine g_iconst (v := 1) hk dX12_fillsWay_47 (by decide) ?_
          refine g_iadd hk dX12_fillsWay_48 ?_
          refine g_topi (fun y22205 ey22205 => ?_)
          have hy22205 : y22205.toInt = (I22132 23).toInt + 1 := i32_add ey22205 rfl rfl (by omega) (by omega)
          refine pM_i23 hk hin12 (List.mem_cons_of_mem _ (List.mem_append_left _ (List.mem_of_getElem? (i := 1) rfl))) dX12_fillsWay_49 ?_
          refine g_aload_n hk dX12_fillsWay_52 rfl ?_
          refine g_iload_n hk dX12_fillsWay_53 rfl ?_
          refine g_iconst (v := 1) hk dX12_fillsWay_54 (by decide) ?_
          refine g_isub hk dX12_fillsWay_55 ?_
          refine g_topi (fun y22206 ey22206 => ?_)
          have hy22206 : y22206.toInt = x22130.toInt - 1 := i32_sub ey22206 rfl rfl (by omega) (by omega)
          refine g_iload_n hk dX12_fillsWay_56 rfl ?_
          refine g_iconst (v := 1) hk dX12_fillsWay_57 (by decide) ?_
          refine g_isub hk dX12_fillsWay_58 ?_
          refine g_topi (fun y22207 ey22207 => ?_)
          have hy22207 : y22207.toInt = x22129.toInt - 1 := i32_sub ey22207 rfl rfl (by omega) (by omega)
          refine g_callV (n := 2) hk (j174_X12_atTable l D zt r g (upd I22132 23 y22205) (up3 A22132 23 ((I22132 23).toNatClampNeg) y22204) L22132 y22206 y22207 ⟨(IvM_f1 (I := I22132) (A := A22132) hV22132), (IvM_f2 (I := I22132) (A := A22132) hV22132), (IvM_f3 (I := I22132) (A := A22132) hV22132), (IvM_f4 (I := I22132) (A := A22132) hV22132), (IvM_f6 (I := I22132) (A := A22132) hV22132), (IvM_f8 (I := I22132) (A := A22132) hV22132), (IvM_f15 (I := I22132) (A := A22132) hV22132), (IvM_f16 (I := I22132) (A := A22132) hV22132), (IvM_f17 (I := I22132) (A := A22132) hV22132), (IvM_f18 (I := I22132) (A := A22132) hV22132), (IvM_f22 (I := I22132) (A := A22132) hV22132), (show 0 ≤ y22205.toInt ∧ y22205.toInt ≤ 40 from ⟨by omega, by omega⟩), (IvM_f24 (I := I22132) (A := A22132) hV22132), (IvM_a11 (I := I22132) (A := A22132) hV22132), (IvM_a26 (I := I22132) (A := A22132) hV22132), (IvM_s8_0 (I := I22132) (A := A22132) hV22132), (IvM_s8_1 (I := I22132) (A := A22132) hV22132), (IvM_s10_0 (I := I22132) (A := A22132) hV22132), (IvM_s10_1 (I := I22132) (A := A22132) hV22132), (IvM_s17_0 (I := I22132) (A := A22132) hV22132), (IvM_s17_164 (I := I22132) (A := A22132) hV22132), (IvM_lv (I := I22132) (A := A22132) hV22132), (IvM_sd (I := I22132) (A := A22132) hV22132), (IvM_nq (I := I22132) (A := A22132) hV22132), (IvM_hr (I := I22132) (A := A22132) hV22132), (IvM_hh (I := I22132) (A := A22132) hV22132), trivial⟩ (by omega) (by omega) (by omega) (by omega)) (SP.same _) (fun _ h => h) (gi_V (List.mem_cons_of_mem _ (List.mem_append_left _ (List.mem_of_getElem? (i := 3) rfl))) (List.mem_cons_of_mem _ (List.mem_append_left _ (List.mem_of_getElem? (i := 4) rfl))) (List.mem_cons_of_mem _ (List.mem_append_left _ (List.mem_of_getElem? (i := 5) rfl))) (List.mem_cons_of_mem _ (List.mem_append_left _ (List.mem_of_getElem? (i := 6) rfl))) (gi_sub (fun w h => (List.mem_cons_of_mem _ (List.mem_append_right _ (List.mem_append_right _ (List.mem_append_left _ h))))) zg_j174_X12_atTable)) rfl rfl rfl (by decide +kernel) ⟨Nat.le_of_ble_eq_true rfl, Nat.le_of_ble_eq_true rfl⟩ 0 rfl rfl rfl rfl (Nat.le_of_ble_eq_true rfl) ⟨Nat.le_of_ble_eq_true rfl, Nat.le_of_ble_eq_true rfl⟩ dX12_fillsWay_59 (fun v ty' w' hp hk' => ?_)
          obtain ⟨y22208, rfl, rfl⟩ := hp
          show GW κ 8 0 0 (wM r g (upd I22132 23 y22205) (up3 A22132 23 ((I22132 23).toNatClampNeg) y22204) L22132) 62 [(2, .int x22129), (1, .int x22130), (0, .ref (r 0))] [.int y22208]
          refine g_istore_n (lv' := [(3, .int y22208), (2, .int x22129), (1, .int x22130), (0, .ref (r 0))]) hk dX12_fillsWay_62 (by decide) rfl ?_
          refine g_aload_n hk dX12_fillsWay_63 rfl ?_
          refine g_iload_n hk dX12_fillsWay_64 rfl ?_
          refine g_iconst (v := 1) hk dX12_fillsWay_65 (by decide) ?_
          refine g_isub hk dX12_fillsWay_66 ?_
          refine g_topi (fun y22209 ey22209 => ?_)
          have hy22209 : y22209.toInt = x22130.toInt - 1 := i32_sub ey22209 rfl rfl (by omega) (by omega)
          refine g_iload_n hk dX12_fillsWay_67 rfl ?_
          refine g_callV (n := 2) hk (j174_X12_atTable l D zt r g (upd I22132 23 y22205) (up3 A22132 23 ((I22132 23).toNatClampNeg) y22204) L22132 y22209 x22129 ⟨(IvM_f1 (I := I22132) (A := A22132) hV22132), (IvM_f2 (I := I22132) (A := A22132) hV22132), (IvM_f3 (I := I22132) (A := A22132) hV22132), (IvM_f4 (I := I22132) (A := A22132) hV22132), (IvM_f6 (I := I22132) (A := A22132) hV22132), (IvM_f8 (I := I22132) (A := A22132) hV22132), (IvM_f15 (I := I22132) (A := A22132) hV22132), (IvM_f16 (I := I22132) (A := A22132) hV22132), (IvM_f17 (I := I22132) (A := A22132) hV22132), (IvM_f18 (I := I22132) (A := A22132) hV22132), (IvM_f22 (I := I22132) (A := A22132) hV22132), (show 0 ≤ y22205.toInt ∧ y22205.toInt ≤ 40 from ⟨by omega, by omega⟩), (IvM_f24 (I := I22132) (A := A22132) hV22132), (IvM_a11 (I := I22132) (A := A22132) hV22132), (IvM_a26 (I := I22132) (A := A22132) hV22132), (IvM_s8_0 (I := I22132) (A := A22132) hV22132), (IvM_s8_1 (I := I22132) (A := A22132) hV22132), (IvM_s10_0 (I := I22132) (A := A22132) hV22132), (IvM_s10_1 (I := I22132) (A := A22132) hV22132), (IvM_s17_0 (I := I22132) (A := A22132) hV22132), (IvM_s17_164 (I := I22132) (A := A22132) hV22132), (IvM_lv (I := I22132) (A := A22132) hV22132), (IvM_sd (I := I22132) (A := A22132) hV22132), (IvM_nq (I := I22132) (A := A22132) hV22132), (IvM_hr (I := I22132) (A := A22132) hV22132), (IvM_hh (I := I22132) (A := A22132) hV22132), trivial⟩ (by omega) (by omega) (by omega) (by omega)) (SP.same _) (fun _ h => h) (gi_V (List.mem_cons_of_mem _ (List.mem_append_left _ (List.mem_of_getElem? (i := 3) rfl))) (List.mem_cons_of_mem _ (List.mem_append_left _ (List.mem_of_getElem? (i := 4) rfl))) (List.mem_cons_of_mem _ (List.mem_append_left _ (List.mem_of_getElem? (i := 5) rfl))) (List.mem_cons_of_mem _ (List.mem_append_left _ (List.mem_of_getElem? (i := 6) rfl))) (gi_sub (fun w h => (List.mem_cons_of_mem _ (List.mem_append_right _ (List.mem_append_right _ (List.mem_append_left _ h))))) zg_j174_X12_atTable)) rfl rfl rfl (by decide +kernel) ⟨Nat.le_of_ble_eq_true rfl, Nat.le_of_ble_eq_true rfl⟩ 0 rfl rfl rfl rfl (Nat.le_of_ble_eq_true rfl) ⟨Nat.le_of_ble_eq_true rfl, Nat.le_of_ble_eq_true rfl⟩ dX12_fillsWay_68 (fun v ty' w' hp hk' => ?_)
          obtain ⟨y22210, rfl, rfl⟩ := hp
          show GW κ 8 0 0 (wM r g (upd I22132 23 y22205) (up3 A22132 23 ((I22132 23).toNatClampNeg) y22204) L22132) 71 [(3, .int y22208), (2, .int x22129), (1, .int x22130), (0, .ref (r 0))] [.int y22210]
          refine g_istore (lv' := [(4, .int y22210), (3, .int y22208), (2, .int x22129), (1, .int x22130), (0, .ref (r 0))]) hk dX12_fillsWay_71 (by decide) rfl ?_
          refine g_aload_n hk dX12_fillsWay_73 rfl ?_
          refine g_iload_n hk dX12_fillsWay_74 rfl ?_
          refine g_iload_n hk dX12_fillsWay_75 rfl ?_
          refine g_iconst (v := 1) hk dX12_fillsWay_76 (by decide) ?_
          refine g_isub hk dX12_fillsWay_77 ?_
          refine g_topi (fun y22211 ey22211 => ?_)
          have hy22211 : y22211.toInt = x22129.toInt - 1 := i32_sub ey22211 rfl rfl (by omega) (by omega)
          refine g_callV (n := 2) hk (j174_X12_atTable l D zt r g (upd I22132 23 y22205) (up3 A22132 23 ((I22132 23).toNatClampNeg) y22204) L22132 x22130 y22211 ⟨(IvM_f1 (I := I22132) (A := A22132) hV22132), (IvM_f2 (I := I22132) (A := A22132) hV22132), (IvM_f3 (I := I22132) (A := A22132) hV22132), (IvM_f4 (I := I22132) (A := A22132) hV22132), (IvM_f6 (I := I22132) (A := A22132) hV22132), (IvM_f8 (I := I22132) (A := A22132) hV22132), (IvM_f15 (I := I22132) (A := A22132) hV22132), (IvM_f16 (I := I22132) (A := A22132) hV22132), (IvM_f17 (I := I22132) (A := A22132) hV22132), (IvM_f18 (I := I22132) (A := A22132) hV22132), (IvM_f22 (I := I22132) (A := A22132) hV22132), (show 0 ≤ y22205.toInt ∧ y22205.toInt ≤ 40 from ⟨by omega, by omega⟩), (IvM_f24 (I := I22132) (A := A22132) hV22132), (IvM_a11 (I := I22132) (A := A22132) hV22132), (IvM_a26 (I := I22132) (A := A22132) hV22132), (IvM_s8_0 (I := I22132) (A := A22132) hV22132), (IvM_s8_1 (I := I22132) (A := A22132) hV22132), (IvM_s10_0 (I := I22132) (A := A22132) hV22132), (IvM_s10_1 (I := I22132) (A := A22132) hV22132), (IvM_s17_0 (I := I22132) (A := A22132) hV22132), (IvM_s17_164 (I := I22132) (A := A22132) hV22132), (IvM_lv (I := I22132) (A := A22132) hV22132), (IvM_sd (I := I22132) (A := A22132) hV22132), (IvM_nq (I := I22132) (A := A22132) hV22132), (IvM_hr (I := I22132) (A := A22132) hV22132), (IvM_hh (I := I22132) (A := A22132) hV22132), trivial⟩ (by omega) (by omega) (by omega) (by omega)) (SP.same _) (fun _ h => h) (gi_V (List.mem_cons_of_mem _ (List.mem_append_left _ (List.mem_of_getElem? (i := 3) rfl))) (List.mem_cons_of_mem _ (List.mem_append_left _ (List.mem_of_getElem? (i := 4) rfl))) (List.mem_cons_of_mem _ (List.mem_append_left _ (List.mem_of_getElem? (i := 5) rfl))) (List.mem_cons_of_mem _ (List.mem_append_left _ (List.mem_of_getElem? (i := 6) rfl))) (gi_sub (fun w h => (List.mem_cons_of_mem _ (List.mem_append_right _ (List.mem_append_right _ (List.mem_append_left _ h))))) zg_j174_X12_atTable)) rfl rfl rfl (by decide +kernel) ⟨Nat.le_of_ble_eq_true rfl, Nat.le_of_ble_eq_true rfl⟩ 0 rfl rfl rfl rfl (Nat.le_of_ble_eq_true rfl) ⟨Nat.le_of_ble_eq_true rfl, Nat.le_of_ble_eq_true rfl⟩ dX12_fillsWay_78 (fun v ty' w' hp hk' => ?_)
          obtain ⟨y22212, rfl, rfl⟩ := hp
          show GW κ 8 0 0 (wM r g (upd I22132 23 y22205) (up3 A22132 23 ((I22132 23).toNatClampNeg) y22204) L22132) 81 [(4, .int y22210), (3, .int y22208), (2, .int x22129), (1, .int x22130), (0, .ref (r 0))] [.int y22212]
          refine g_istore (lv' := [(5, .int y22212), (4, .int y22210), (3, .int y22208), (2, .int x22129), (1, .int x22130), (0, .ref (r 0))]) hk dX12_fillsWay_81 (by decide) rfl ?_
          refine g_iload_n hk dX12_fillsWay_83 rfl ?_
          refine g_iload hk dX12_fillsWay_84 rfl ?_
          have b22213l := Int32.le_toInt y22208
          have b22213h := Int32.toInt_lt y22208
          have b22214l := Int32.le_toInt y22210
          have b22214h := Int32.toInt_lt y22210
          refine g_icmp_gt (tgt := 99) (a := y22208.toInt) (b := y22210.toInt) hk dX12_fillsWay_86 (by decide) rfl rfl (fun c22215 => ?_) (fun c22215 => ?_)
          · skip
            refine g_iconst (v := 0) hk dX12_fillsWay_99 (by decide) ?_
            refine g_istore (lv' := [(6, .int 0), (5, .int y22212), (4, .int y22210), (3, .int y22208), (2, .int x22129), (1, .int x22130), (0, .ref (r 0))]) hk dX12_fillsWay_100 (by decide) rfl ?_
            refine g_iload hk dX12_fillsWay_102 rfl ?_
            refine g_iload hk dX12_fillsWay_104 rfl ?_
            have b22216l := Int32.le_toInt y22212
            have b22216h := Int32.toInt_lt y22212
            refine g_icmp_gt (tgt := 113) (a := y22210.toInt) (b := y22212.toInt) hk dX12_fillsWay_106 (by decide) rfl rfl (fun c22217 => ?_) (fun c22217 => ?_)
            · skip
              refine g_iconst (v := 0) hk dX12_fillsWay_113 (by decide) ?_
              refine g_istore (lv' := [(7, .int 0), (6, .int 0), (5, .int y22212), (4, .int y22210), (3, .int y22208), (2, .int x22129), (1, .int x22130), (0, .ref (r 0))]) hk dX12_fillsWay_114 (by decide) rfl ?_
              refine g_iload hk dX12_fillsWay_116 rfl ?_
              refine g_if_ne (tgt := 126) (a := 0) hk dX12_fillsWay_118 (by decide) rfl (fun z9 => absurd z9 (show ¬ ((0 : Int) ≠ (0 : Int)) from by decide)) (fun _ => ?_)
              refine g_iload hk dX12_fillsWay_121 rfl ?_
              refine g_if_eq (tgt := 129) (a := 0) hk dX12_fillsWay_123 (by decide) rfl (fun _ => ?_) (fun z9 => absurd (show (0 : Int) = (0 : Int) from by decide) z9)
              refine g_iload hk dX12_fillsWay_129 rfl ?_
              refine g_if_ne (tgt := 139) (a := 0) hk dX12_fillsWay_131 (by decide) rfl (fun z9 => absurd z9 (show ¬ ((0 : Int) ≠ (0 : Int)) from by decide)) (fun _ => ?_)
              refine g_iload hk dX12_fillsWay_134 rfl ?_
              refine g_if_ne (tgt := 142) (a := 0) hk dX12_fillsWay_136 (by decide) rfl (fun z9 => absurd z9 (show ¬ ((0 : Int) ≠ (0 : Int)) from by decide)) (fun _ => ?_)
              obtain ⟨y22218, ey22218⟩ : ∃ y : Int32, y = x22129 + Int32.ofInt (-1) := ⟨_, rfl⟩
              have hy22218 : y22218.toInt = x22129.toInt + (-1) := i32_add ey22218 rfl (by decide) (by omega) (by omega)
              refine g_iinc (v := y22218) (lv' := [(2, .int y22218), (7, .int 0), (6, .int 0), (5, .int y22212), (4, .int y22210), (3, .int y22208), (1, .int x22130), (0, .ref (r 0))]) hk 5 dX12_fillsWay_139 rfl ey22218.symm (by decide) rfl ?_
              refine g_goto (tgt := 19) hk dX12_fillsWay_142 (by decide) ?_
              exact g_lv (List.forall_mem_cons.mpr ⟨List.mem_of_getElem? (i := 0) rfl, (List.forall_mem_cons.mpr ⟨List.mem_of_getElem? (i := 6) rfl, (List.forall_mem_cons.mpr ⟨List.mem_of_getElem? (i := 7) rfl, (fun _ h => absurd h List.not_mem_nil)⟩)⟩)⟩) (ih22199 y22218 x22130 (upd I22132 23 y22205) (up3 A22132 23 ((I22132 23).toNatClampNeg) y22204) L22132 (show Md [23] (upd I 23 0) (upd I22132 23 y22205) from Md.tr hI22132 (show Md [23] I22132 (upd I22132 23 y22205) from (Md.up Md.rf rfl)) rfl) (show Md [23] A (up3 A22132 23 ((I22132 23).toNatClampNeg) y22204) from Md.tr hA22132 (show Md [23] A22132 (up3 A22132 23 ((I22132 23).toNatClampNeg) y22204) from (Md.up3 Md.rf rfl)) rfl) ⟨(IvM_f1 (I := I22132) (A := A22132) hV22132), (IvM_f2 (I := I22132) (A := A22132) hV22132), (IvM_f3 (I := I22132) (A := A22132) hV22132), (IvM_f4 (I := I22132) (A := A22132) hV22132), (IvM_f6 (I := I22132) (A := A22132) hV22132), (IvM_f8 (I := I22132) (A := A22132) hV22132), (IvM_f15 (I := I22132) (A := A22132) hV22132), (IvM_f16 (I := I22132) (A := A22132) hV22132), (IvM_f17 (I := I22132) (A := A22132) hV22132), (IvM_f18 (I := I22132) (A := A22132) hV22132), (IvM_f22 (I := I22132) (A := A22132) hV22132), (show 0 ≤ y22205.toInt ∧ y22205.toInt ≤ 40 from ⟨by omega, by omega⟩), (IvM_f24 (I := I22132) (A := A22132) hV22132), (IvM_a11 (I := I22132) (A := A22132) hV22132), (IvM_a26 (I := I22132) (A := A22132) hV22132), (IvM_s8_0 (I := I22132) (A := A22132) hV22132), (IvM_s8_1 (I := I22132) (A := A22132) hV22132), (IvM_s10_0 (I := I22132) (A := A22132) hV22132), (IvM_s10_1 (I := I22132) (A := A22132) hV22132), (IvM_s17_0 (I := I22132) (A := A22132) hV22132), (IvM_s17_164 (I := I22132) (A := A22132) hV22132), (IvM_lv (I := I22132) (A := A22132) hV22132), (IvM_sd (I := I22132) (A := A22132) hV22132), (IvM_nq (I := I22132) (A := A22132) hV22132), (IvM_hr (I := I22132) (A := A22132) hV22132), (IvM_hh (I := I22132) (A := A22132) hV22132), trivial⟩ (by omega) (by omega) (by omega) (by omega) (by first | (rw [show ((upd I22132 23 y22205) 23) = y22205 from rfl] <;> omega) | omega) (by omega) (by omega))
            · skip
              refine g_iconst (v := 1) hk dX12_fillsWay_109 (by decide) ?_
              refine g_goto (tgt := 114) hk dX12_fillsWay_110 (by decide) ?_
              refine g_istore (lv' := [(7, .int 1), (6, .int 0), (5, .int y22212), (4, .int y22210), (3, .int y22208), (2, .int x22129), (1, .int x22130), (0, .ref (r 0))]) hk dX12_fillsWay_114 (by decide) rfl ?_
              refine g_iload hk dX12_fillsWay_116 rfl ?_
              refine g_if_ne (tgt := 126) (a := 0) hk dX12_fillsWay_118 (by decide) rfl (fun z9 => absurd z9 (show ¬ ((0 : Int) ≠ (0 : Int)) from by decide)) (fun _ => ?_)
              refine g_iload hk dX12_fillsWay_121 rfl ?_
              refine g_if_eq (tgt := 129) (a := 1) hk dX12_fillsWay_123 (by decide) rfl (fun z9 => absurd z9 (show ¬ ((1 : Int) = (0 : Int)) from by decide)) (fun _ => ?_)
              obtain ⟨y22219, ey22219⟩ : ∃ y : Int32, y = x22130 + Int32.ofInt (-1) := ⟨_, rfl⟩
              have hy22219 : y22219.toInt = x22130.toInt + (-1) := i32_add ey22219 rfl (by decide) (by omega) (by omega)
              refine g_iinc (v := y22219) (lv' := [(1, .int y22219), (7, .int 1), (6, .int 0), (5, .int y22212), (4, .int y22210), (3, .int y22208), (2, .int x22129), (0, .ref (r 0))]) hk 6 dX12_fillsWay_126 rfl ey22219.symm (by decide) rfl ?_
              refine g_iload hk dX12_fillsWay_129 rfl ?_
              refine g_if_ne (tgt := 139) (a := 0) hk dX12_fillsWay_131 (by decide) rfl (fun z9 => absurd z9 (show ¬ ((0 : Int) ≠ (0 : Int)) from by decide)) (fun _ => ?_)
              refine g_iload hk dX12_fillsWay_134 rfl ?_
              refine g_if_ne (tgt := 142) (a := 1) hk dX12_fillsWay_136 (by decide) rfl (fun _ => ?_) (fun z9 => absurd (show (1 : Int) ≠ (0 : Int) from by decide) z9)
              refine g_goto (tgt := 19) hk dX12_fillsWay_142 (by decide) ?_
              exact g_lv (List.forall_mem_cons.mpr ⟨List.mem_of_getElem? (i := 6) rfl, (List.forall_mem_cons.mpr ⟨List.mem_of_getElem? (i := 0) rfl, (List.forall_mem_cons.mpr ⟨List.mem_of_getElem? (i := 7) rfl, (fun _ h => absurd h List.not_mem_nil)⟩)⟩)⟩) (ih22199 x22129 y22219 (upd I22132 23 y22205) (up3 A22132 23 ((I22132 23).toNatClampNeg) y22204) L22132 (show Md [23] (upd I 23 0) (upd I22132 23 y22205) from Md.tr hI22132 (show Md [23] I22132 (upd I22132 23 y22205) from (Md.up Md.rf rfl)) rfl) (show Md [23] A (up3 A22132 23 ((I22132 23).toNatClampNeg) y22204) from Md.tr hA22132 (show Md [23] A22132 (up3 A22132 23 ((I22132 23).toNatClampNeg) y22204) from (Md.up3 Md.rf rfl)) rfl) ⟨(IvM_f1 (I := I22132) (A := A22132) hV22132), (IvM_f2 (I := I22132) (A := A22132) hV22132), (IvM_f3 (I := I22132) (A := A22132) hV22132), (IvM_f4 (I := I22132) (A := A22132) hV22132), (IvM_f6 (I := I22132) (A := A22132) hV22132), (IvM_f8 (I := I22132) (A := A22132) hV22132), (IvM_f15 (I := I22132) (A := A22132) hV22132), (IvM_f16 (I := I22132) (A := A22132) hV22132), (IvM_f17 (I := I22132) (A := A22132) hV22132), (IvM_f18 (I := I22132) (A := A22132) hV22132), (IvM_f22 (I := I22132) (A := A22132) hV22132), (show 0 ≤ y22205.toInt ∧ y22205.toInt ≤ 40 from ⟨by omega, by omega⟩), (IvM_f24 (I := I22132) (A := A22132) hV22132), (IvM_a11 (I := I22132) (A := A22132) hV22132), (IvM_a26 (I := I22132) (A := A22132) hV22132), (IvM_s8_0 (I := I22132) (A := A22132) hV22132), (IvM_s8_1 (I := I22132) (A := A22132) hV22132), (IvM_s10_0 (I := I22132) (A := A22132) hV22132), (IvM_s10_1 (I := I22132) (A := A22132) hV22132), (IvM_s17_0 (I := I22132) (A := A22132) hV22132), (IvM_s17_164 (I := I22132) (A := A22132) hV22132), (IvM_lv (I := I22132) (A := A22132) hV22132), (IvM_sd (I := I22132) (A := A22132) hV22132), (IvM_nq (I := I22132) (A := A22132) hV22132), (IvM_hr (I := I22132) (A := A22132) hV22132), (IvM_hh (I := I22132) (A := A22132) hV22132), trivial⟩ (by omega) (by omega) (by omega) (by omega) (by first | (rw [show ((upd I22132 23 y22205) 23) = y22205 from rfl] <;> omega) | omega) (by omega) (by omega))
          · skip
            refine g_iload_n hk dX12_fillsWay_89 rfl ?_
            refine g_iload hk dX12_fillsWay_90 rfl ?_
            have b22220l := Int32.le_toInt y22212
            have b22220h := Int32.toInt_lt y22212
            refine g_icmp_gt (tgt := 99) (a := y22208.toInt) (b := y22212.toInt) hk dX12_fillsWay_92 (by decide) rfl rfl (fun c22221 => ?_) (fun c22221 => ?_)
            · skip
              refine g_iconst (v := 0) hk dX12_fillsWay_99 (by decide) ?_
              refine g_istore (lv' := [(6, .int 0), (5, .int y22212), (4, .int y22210), (3, .int y22208), (2, .int x22129), (1, .int x22130), (0, .ref (r 0))]) hk dX12_fillsWay_100 (by decide) rfl ?_
              refine g_iload hk dX12_fillsWay_102 rfl ?_
              refine g_iload hk dX12_fillsWay_104 rfl ?_
              refine g_icmp_gt (tgt := 113) (a := y22210.toInt) (b := y22212.toInt) hk dX12_fillsWay_106 (by decide) rfl rfl (fun c22222 => ?_) (fun c22222 => ?_)
              · skip
                refine g_iconst (v := 0) hk dX12_fillsWay_113 (by decide) ?_
                refine g_istore (lv' := [(7, .int 0), (6, .int 0), (5, .int y22212), (4, .int y22210), (3, .int y22208), (2, .int x22129), (1, .int x22130), (0, .ref (r 0))]) hk dX12_fillsWay_114 (by decide) rfl ?_
                refine g_iload hk dX12_fillsWay_116 rfl ?_
                refine g_if_ne (tgt := 126) (a := 0) hk dX12_fillsWay_118 (by decide) rfl (fun z9 => absurd z9 (show ¬ ((0 : Int) ≠ (0 : Int)) from by decide)) (fun _ => ?_)
                refine g_iload hk dX12_fillsWay_121 rfl ?_
                refine g_if_eq (tgt := 129) (a := 0) hk dX12_fillsWay_123 (by decide) rfl (fun _ => ?_) (fun z9 => absurd (show (0 : Int) = (0 : Int) from by decide) z9)
                refine g_iload hk dX12_fillsWay_129 rfl ?_
                refine g_if_ne (tgt := 139) (a := 0) hk dX12_fillsWay_131 (by decide) rfl (fun z9 => absurd z9 (show ¬ ((0 : Int) ≠ (0 : Int)) from by decide)) (fun _ => ?_)
                refine g_iload hk dX12_fillsWay_134 rfl ?_
                refine g_if_ne (tgt := 142) (a := 0) hk dX12_fillsWay_136 (by decide) rfl (fun z9 => absurd z9 (show ¬ ((0 : Int) ≠ (0 : Int)) from by decide)) (fun _ => ?_)
                obtain ⟨y22223, ey22223⟩ : ∃ y : Int32, y = x22129 + Int32.ofInt (-1) := ⟨_, rfl⟩
                have hy22223 : y22223.toInt = x22129.toInt + (-1) := i32_add ey22223 rfl (by decide) (by omega) (by omega)
                refine g_iinc (v := y22223) (lv' := [(2, .int y22223), (7, .int 0), (6, .int 0), (5, .int y22212), (4, .int y22210), (3, .int y22208), (1, .int x22130), (0, .ref (r 0))]) hk 5 dX12_fillsWay_139 rfl ey22223.symm (by decide) rfl ?_
                refine g_goto (tgt := 19) hk dX12_fillsWay_142 (by decide) ?_
                exact g_lv (List.forall_mem_cons.mpr ⟨List.mem_of_getElem? (i := 0) rfl, (List.forall_mem_cons.mpr ⟨List.mem_of_getElem? (i := 6) rfl, (List.forall_mem_cons.mpr ⟨List.mem_of_getElem? (i := 7) rfl, (fun _ h => absurd h List.not_mem_nil)⟩)⟩)⟩) (ih22199 y22223 x22130 (upd I22132 23 y22205) (up3 A22132 23 ((I22132 23).toNatClampNeg) y22204) L22132 (show Md [23] (upd I 23 0) (upd I22132 23 y22205) from Md.tr hI22132 (show Md [23] I22132 (upd I22132 23 y22205) from (Md.up Md.rf rfl)) rfl) (show Md [23] A (up3 A22132 23 ((I22132 23).toNatClampNeg) y22204) from Md.tr hA22132 (show Md [23] A22132 (up3 A22132 23 ((I22132 23).toNatClampNeg) y22204) from (Md.up3 Md.rf rfl)) rfl) ⟨(IvM_f1 (I := I22132) (A := A22132) hV22132), (IvM_f2 (I := I22132) (A := A22132) hV22132), (IvM_f3 (I := I22132) (A := A22132) hV22132), (IvM_f4 (I := I22132) (A := A22132) hV22132), (IvM_f6 (I := I22132) (A := A22132) hV22132), (IvM_f8 (I := I22132) (A := A22132) hV22132), (IvM_f15 (I := I22132) (A := A22132) hV22132), (IvM_f16 (I := I22132) (A := A22132) hV22132), (IvM_f17 (I := I22132) (A := A22132) hV22132), (IvM_f18 (I := I22132) (A := A22132) hV22132), (IvM_f22 (I := I22132) (A := A22132) hV22132), (show 0 ≤ y22205.toInt ∧ y22205.toInt ≤ 40 from ⟨by omega, by omega⟩), (IvM_f24 (I := I22132) (A := A22132) hV22132), (IvM_a11 (I := I22132) (A := A22132) hV22132), (IvM_a26 (I := I22132) (A := A22132) hV22132), (IvM_s8_0 (I := I22132) (A := A22132) hV22132), (IvM_s8_1 (I := I22132) (A := A22132) hV22132), (IvM_s10_0 (I := I22132) (A := A22132) hV22132), (IvM_s10_1 (I := I22132) (A := A22132) hV22132), (IvM_s17_0 (I := I22132) (A := A22132) hV22132), (IvM_s17_164 (I := I22132) (A := A22132) hV22132), (IvM_lv (I := I22132) (A := A22132) hV22132), (IvM_sd (I := I22132) (A := A22132) hV22132), (IvM_nq (I := I22132) (A := A22132) hV22132), (IvM_hr (I := I22132) (A := A22132) hV22132), (IvM_hh (I := I22132) (A := A22132) hV22132), trivial⟩ (by omega) (by omega) (by omega) (by omega) (by first | (rw [show ((upd I22132 23 y22205) 23) = y22205 from rfl] <;> omega) | omega) (by omega) (by omega))
              · skip
                refine g_iconst (v := 1) hk dX12_fillsWay_109 (by decide) ?_
                refine g_goto (tgt := 114) hk dX12_fillsWay_110 (by decide) ?_
                refine g_istore (lv' := [(7, .int 1), (6, .int 0), (5, .int y22212), (4, .int y22210), (3, .int y22208), (2, .int x22129), (1, .int x22130), (0, .ref (r 0))]) hk dX12_fillsWay_114 (by decide) rfl ?_
                refine g_iload hk dX12_fillsWay_116 rfl ?_
                refine g_if_ne (tgt := 126) (a := 0) hk dX12_fillsWay_118 (by decide) rfl (fun z9 => absurd z9 (show ¬ ((0 : Int) ≠ (0 : Int)) from by decide)) (fun _ => ?_)
                refine g_iload hk dX12_fillsWay_121 rfl ?_
                refine g_if_eq (tgt := 129) (a := 1) hk dX12_fillsWay_123 (by decide) rfl (fun z9 => absurd z9 (show ¬ ((1 : Int) = (0 : Int)) from by decide)) (fun _ => ?_)
                obtain ⟨y22224, ey22224⟩ : ∃ y : Int32, y = x22130 + Int32.ofInt (-1) := ⟨_, rfl⟩
                have hy22224 : y22224.toInt = x22130.toInt + (-1) := i32_add ey22224 rfl (by decide) (by omega) (by omega)
                refine g_iinc (v := y22224) (lv' := [(1, .int y22224), (7, .int 1), (6, .int 0), (5, .int y22212), (4, .int y22210), (3, .int y22208), (2, .int x22129), (0, .ref (r 0))]) hk 6 dX12_fillsWay_126 rfl ey22224.symm (by decide) rfl ?_
                refine g_iload hk dX12_fillsWay_129 rfl ?_
                refine g_if_ne (tgt := 139) (a := 0) hk dX12_fillsWay_131 (by decide) rfl (fun z9 => absurd z9 (show ¬ ((0 : Int) ≠ (0 : Int)) from by decide)) (fun _ => ?_)
                refine g_iload hk dX12_fillsWay_134 rfl ?_
                refine g_if_ne (tgt := 142) (a := 1) hk dX12_fillsWay_136 (by decide) rfl (fun _ => ?_) (fun z9 => absurd (show (1 : Int) ≠ (0 : Int) from by decide) z9)
                refine g_goto (tgt := 19) hk dX12_fillsWay_142 (by decide) ?_
                exact g_lv (List.forall_mem_cons.mpr ⟨List.mem_of_getElem? (i := 6) rfl, (List.forall_mem_cons.mpr ⟨List.mem_of_getElem? (i := 0) rfl, (List.forall_mem_cons.mpr ⟨List.mem_of_getElem? (i := 7) rfl, (fun _ h => absurd h List.not_mem_nil)⟩)⟩)⟩) (ih22199 x22129 y22224 (upd I22132 23 y22205) (up3 A22132 23 ((I22132 23).toNatClampNeg) y22204) L22132 (show Md [23] (upd I 23 0) (upd I22132 23 y22205) from Md.tr hI22132 (show Md [23] I22132 (upd I22132 23 y22205) from (Md.up Md.rf rfl)) rfl) (show Md [23] A (up3 A22132 23 ((I22132 23).toNatClampNeg) y22204) from Md.tr hA22132 (show Md [23] A22132 (up3 A22132 23 ((I22132 23).toNatClampNeg) y22204) from (Md.up3 Md.rf rfl)) rfl) ⟨(IvM_f1 (I := I22132) (A := A22132) hV22132), (IvM_f2 (I := I22132) (A := A22132) hV22132), (IvM_f3 (I := I22132) (A := A22132) hV22132), (IvM_f4 (I := I22132) (A := A22132) hV22132), (IvM_f6 (I := I22132) (A := A22132) hV22132), (IvM_f8 (I := I22132) (A := A22132) hV22132), (IvM_f15 (I := I22132) (A := A22132) hV22132), (IvM_f16 (I := I22132) (A := A22132) hV22132), (IvM_f17 (I := I22132) (A := A22132) hV22132), (IvM_f18 (I := I22132) (A := A22132) hV22132), (IvM_f22 (I := I22132) (A := A22132) hV22132), (show 0 ≤ y22205.toInt ∧ y22205.toInt ≤ 40 from ⟨by omega, by omega⟩), (IvM_f24 (I := I22132) (A := A22132) hV22132), (IvM_a11 (I := I22132) (A := A22132) hV22132), (IvM_a26 (I := I22132) (A := A22132) hV22132), (IvM_s8_0 (I := I22132) (A := A22132) hV22132), (IvM_s8_1 (I := I22132) (A := A22132) hV22132), (IvM_s10_0 (I := I22132) (A := A22132) hV22132), (IvM_s10_1 (I := I22132) (A := A22132) hV22132), (IvM_s17_0 (I := I22132) (A := A22132) hV22132), (IvM_s17_164 (I := I22132) (A := A22132) hV22132), (IvM_lv (I := I22132) (A := A22132) hV22132), (IvM_sd (I := I22132) (A := A22132) hV22132), (IvM_nq (I := I22132) (A := A22132) hV22132), (IvM_hr (I := I22132) (A := A22132) hV22132), (IvM_hh (I := I22132) (A := A22132) hV22132), trivial⟩ (by omega) (by omega) (by omega) (by omega) (by first | (rw [show ((upd I22132 23 y22205) 23) = y22205 from rfl] <;> omega) | omega) (by omega) (by omega))
            · skip
              refine g_iconst (v := 1) hk dX12_fillsWay_95 (by decide) ?_
              refine g_goto (tgt := 100) hk dX12_fillsWay_96 (by decide) ?_
              refine g_istore (lv' := [(6, .int 1), (5, .int y22212), (4, .int y22210), (3, .int y22208), (2, .int x22129), (1, .int x22130), (0, .ref (r 0))]) hk dX12_fillsWay_100 (by decide) rfl ?_
              refine g_iload hk dX12_fillsWay_102 rfl ?_
              refine g_iload hk dX12_fillsWay_104 rfl ?_
              refine g_icmp_gt (tgt := 113) (a := y22210.toInt) (b := y22212.toInt) hk dX12_fillsWay_106 (by decide) rfl rfl (fun c22225 => ?_) (fun c22225 => ?_)
              · skip
                refine g_iconst (v := 0) hk dX12_fillsWay_113 (by decide) ?_
                refine g_istore (lv' := [(7, .int 0), (6, .int 1), (5, .int y22212), (4, .int y22210), (3, .int y22208), (2, .int x22129), (1, .int x22130), (0, .ref (r 0))]) hk dX12_fillsWay_114 (by decide) rfl ?_
                refine g_iload hk dX12_fillsWay_116 rfl ?_
                refine g_if_ne (tgt := 126) (a := 1) hk dX12_fillsWay_118 (by decide) rfl (fun _ => ?_) (fun z9 => absurd (show (1 : Int) ≠ (0 : Int) from by decide) z9)
                obtain ⟨y22226, ey22226⟩ : ∃ y : Int32, y = x22130 + Int32.ofInt (-1) := ⟨_, rfl⟩
                have hy22226 : y22226.toInt = x22130.toInt + (-1) := i32_add ey22226 rfl (by decide) (by omega) (by omega)
                refine g_iinc (v := y22226) (lv' := [(1, .int y22226), (7, .int 0), (6, .int 1), (5, .int y22212), (4, .int y22210), (3, .int y22208), (2, .int x22129), (0, .ref (r 0))]) hk 6 dX12_fillsWay_126 rfl ey22226.symm (by decide) rfl ?_
                refine g_iload hk dX12_fillsWay_129 rfl ?_
                refine g_if_ne (tgt := 139) (a := 1) hk dX12_fillsWay_131 (by decide) rfl (fun _ => ?_) (fun z9 => absurd (show (1 : Int) ≠ (0 : Int) from by decide) z9)
                obtain ⟨y22227, ey22227⟩ : ∃ y : Int32, y = x22129 + Int32.ofInt (-1) := ⟨_, rfl⟩
                have hy22227 : y22227.toInt = x22129.toInt + (-1) := i32_add ey22227 rfl (by decide) (by omega) (by omega)
                refine g_iinc (v := y22227) (lv' := [(2, .int y22227), (1, .int y22226), (7, .int 0), (6, .int 1), (5, .int y22212), (4, .int y22210), (3, .int y22208), (0, .ref (r 0))]) hk 6 dX12_fillsWay_139 rfl ey22227.symm (by decide) rfl ?_
                refine g_goto (tgt := 19) hk dX12_fillsWay_142 (by decide) ?_
                exact g_lv (List.forall_mem_cons.mpr ⟨List.mem_of_getElem? (i := 0) rfl, (List.forall_mem_cons.mpr ⟨List.mem_of_getElem? (i := 1) rfl, (List.forall_mem_cons.mpr ⟨List.mem_of_getElem? (i := 7) rfl, (fun _ h => absurd h List.not_mem_nil)⟩)⟩)⟩) (ih22199 y22227 y22226 (upd I22132 23 y22205) (up3 A22132 23 ((I22132 23).toNatClampNeg) y22204) L22132 (show Md [23] (upd I 23 0) (upd I22132 23 y22205) from Md.tr hI22132 (show Md [23] I22132 (upd I22132 23 y22205) from (Md.up Md.rf rfl)) rfl) (show Md [23] A (up3 A22132 23 ((I22132 23).toNatClampNeg) y22204) from Md.tr hA22132 (show Md [23] A22132 (up3 A22132 23 ((I22132 23).toNatClampNeg) y22204) from (Md.up3 Md.rf rfl)) rfl) ⟨(IvM_f1 (I := I22132) (A := A22132) hV22132), (IvM_f2 (I := I22132) (A := A22132) hV22132), (IvM_f3 (I := I22132) (A := A22132) hV22132), (IvM_f4 (I := I22132) (A := A22132) hV22132), (IvM_f6 (I := I22132) (A := A22132) hV22132), (IvM_f8 (I := I22132) (A := A22132) hV22132), (IvM_f15 (I := I22132) (A := A22132) hV22132), (IvM_f16 (I := I22132) (A := A22132) hV22132), (IvM_f17 (I := I22132) (A := A22132) hV22132), (IvM_f18 (I := I22132) (A := A22132) hV22132), (IvM_f22 (I := I22132) (A := A22132) hV22132), (show 0 ≤ y22205.toInt ∧ y22205.toInt ≤ 40 from ⟨by omega, by omega⟩), (IvM_f24 (I := I22132) (A := A22132) hV22132), (IvM_a11 (I := I22132) (A := A22132) hV22132), (IvM_a26 (I := I22132) (A := A22132) hV22132), (IvM_s8_0 (I := I22132) (A := A22132) hV22132), (IvM_s8_1 (I := I22132) (A := A22132) hV22132), (IvM_s10_0 (I := I22132) (A := A22132) hV22132), (IvM_s10_1 (I := I22132) (A := A22132) hV22132), (IvM_s17_0 (I := I22132) (A := A22132) hV22132), (IvM_s17_164 (I := I22132) (A := A22132) hV22132), (IvM_lv (I := I22132) (A := A22132) hV22132), (IvM_sd (I := I22132) (A := A22132) hV22132), (IvM_nq (I := I22132) (A := A22132) hV22132), (IvM_hr (I := I22132) (A := A22132) hV22132), (IvM_hh (I := I22132) (A := A22132) hV22132), trivial⟩ (by omega) (by omega) (by omega) (by omega) (by first | (rw [show ((upd I22132 23 y22205) 23) = y22205 from rfl] <;> omega) | omega) (by omega) (by omega))
              · skip
                refine g_iconst (v := 1) hk dX12_fillsWay_109 (by decide) ?_
                refine g_goto (tgt := 114) hk dX12_fillsWay_110 (by decide) ?_
                refine g_istore (lv' := [(7, .int 1), (6, .int 1), (5, .int y22212), (4, .int y22210), (3, .int y22208), (2, .int x22129), (1, .int x22130), (0, .ref (r 0))]) hk dX12_fillsWay_114 (by decide) rfl ?_
                refine g_iload hk dX12_fillsWay_116 rfl ?_
                refine g_if_ne (tgt := 126) (a := 1) hk dX12_fillsWay_118 (by decide) rfl (fun _ => ?_) (fun z9 => absurd (show (1 : Int) ≠ (0 : Int) from by decide) z9)
                obtain ⟨y22228, ey22228⟩ : ∃ y : Int32, y = x22130 + Int32.ofInt (-1) := ⟨_, rfl⟩
                have hy22228 : y22228.toInt = x22130.toInt + (-1) := i32_add ey22228 rfl (by decide) (by omega) (by omega)
                refine g_iinc (v := y22228) (lv' := [(1, .int y22228), (7, .int 1), (6, .int 1), (5, .int y22212), (4, .int y22210), (3, .int y22208), (2, .int x22129), (0, .ref (r 0))]) hk 6 dX12_fillsWay_126 rfl ey22228.symm (by decide) rfl ?_
                refine g_iload hk dX12_fillsWay_129 rfl ?_
                refine g_if_ne (tgt := 139) (a := 1) hk dX12_fillsWay_131 (by decide) rfl (fun _ => ?_) (fun z9 => absurd (show (1 : Int) ≠ (0 : Int) from by decide) z9)
                obtain ⟨y22229, ey22229⟩ : ∃ y : Int32, y = x22129 + Int32.ofInt (-1) := ⟨_, rfl⟩
                have hy22229 : y22229.toInt = x22129.toInt + (-1) := i32_add ey22229 rfl (by decide) (by omega) (by omega)
                refine g_iinc (v := y22229) (lv' := [(2, .int y22229), (1, .int y22228), (7, .int 1), (6, .int 1), (5, .int y22212), (4, .int y22210), (3, .int y22208), (0, .ref (r 0))]) hk 6 dX12_fillsWay_139 rfl ey22229.symm (by decide) rfl ?_
                refine g_goto (tgt := 19) hk dX12_fillsWay_142 (by decide) ?_
                exact g_lv (List.forall_mem_cons.mpr ⟨List.mem_of_getElem? (i := 0) rfl, (List.forall_mem_cons.mpr ⟨List.mem_of_getElem? (i := 1) rfl, (List.forall_mem_cons.mpr ⟨List.mem_of_getElem? (i := 7) rfl, (fun _ h => absurd h List.not_mem_nil)⟩)⟩)⟩) (ih22199 y22229 y22228 (upd I22132 23 y22205) (up3 A22132 23 ((I22132 23).toNatClampNeg) y22204) L22132 (show Md [23] (upd I 23 0) (upd I22132 23 y22205) from Md.tr hI22132 (show Md [23] I22132 (upd I22132 23 y22205) from (Md.up Md.rf rfl)) rfl) (show Md [23] A (up3 A22132 23 ((I22132 23).toNatClampNeg) y22204) from Md.tr hA22132 (show Md [23] A22132 (up3 A22132 23 ((I22132 23).toNatClampNeg) y22204) from (Md.up3 Md.rf rfl)) rfl) ⟨(IvM_f1 (I := I22132) (A := A22132) hV22132), (IvM_f2 (I := I22132) (A := A22132) hV22132), (IvM_f3 (I := I22132) (A := A22132) hV22132), (IvM_f4 (I := I22132) (A := A22132) hV22132), (IvM_f6 (I := I22132) (A := A22132) hV22132), (IvM_f8 (I := I22132) (A := A22132) hV22132), (IvM_f15 (I := I22132) (A := A22132) hV22132), (IvM_f16 (I := I22132) (A := A22132) hV22132), (IvM_f17 (I := I22132) (A := A22132) hV22132), (IvM_f18 (I := I22132) (A := A22132) hV22132), (IvM_f22 (I := I22132) (A := A22132) hV22132), (show 0 ≤ y22205.toInt ∧ y22205.toInt ≤ 40 from ⟨by omega, by omega⟩), (IvM_f24 (I := I22132) (A := A22132) hV22132), (IvM_a11 (I := I22132) (A := A22132) hV22132), (IvM_a26 (I := I22132) (A := A22132) hV22132), (IvM_s8_0 (I := I22132) (A := A22132) hV22132), (IvM_s8_1 (I := I22132) (A := A22132) hV22132), (IvM_s10_0 (I := I22132) (A := A22132) hV22132), (IvM_s10_1 (I := I22132) (A := A22132) hV22132), (IvM_s17_0 (I := I22132) (A := A22132) hV22132), (IvM_s17_164 (I := I22132) (A := A22132) hV22132), (IvM_lv (I := I22132) (A := A22132) hV22132), (IvM_sd (I := I22132) (A := A22132) hV22132), (IvM_nq (I := I22132) (A := A22132) hV22132), (IvM_hr (I := I22132) (A := A22132) hV22132), (IvM_hh (I := I22132) (A := A22132) hV22132), trivial⟩ (by omega) (by omega) (by omega) (by omega) (by first | (rw [show ((upd I22132 23 y22205) 23) = y22205 from rfl] <;> omega) | omega) (by omega) (by omega))
  obtain ⟨n22230, n22230a, n22230b⟩ : ∃ n : Nat, y22127.toInt + y22128.toInt + 3 < (n : Int) ∧ 0 < n := ⟨((y22127.toInt + y22128.toInt + 3 : Int)).toNat + 1, by omega, by omega⟩
  have k22231 : (0 : Int32).toInt = 0 := rfl
  exact lp22196 n22230 y22128 y22127 (upd I 23 0) A L Md.rf Md.rf ⟨(IvM_f1 (I := I) (A := A) hIv), (IvM_f2 (I := I) (A := A) hIv), (IvM_f3 (I := I) (A := A) hIv), (IvM_f4 (I := I) (A := A) hIv), (IvM_f6 (I := I) (A := A) hIv), (IvM_f8 (I := I) (A := A) hIv), (IvM_f15 (I := I) (A := A) hIv), (IvM_f16 (I := I) (A := A) hIv), (IvM_f17 (I := I) (A := A) hIv), (IvM_f18 (I := I) (A := A) hIv), (IvM_f22 (I := I) (A := A) hIv), (show 0 ≤ (0 : Int32).toInt ∧ (0 : Int32).toInt ≤ 40 from ⟨by decide, by decide⟩), (IvM_f24 (I := I) (A := A) hIv), (IvM_a11 (I := I) (A := A) hIv), (IvM_a26 (I := I) (A := A) hIv), (IvM_s8_0 (I := I) (A := A) hIv), (IvM_s8_1 (I := I) (A := A) hIv), (IvM_s10_0 (I := I) (A := A) hIv), (IvM_s10_1 (I := I) (A := A) hIv), (IvM_s17_0 (I := I) (A := A) hIv), (IvM_s17_164 (I := I) (A := A) hIv), (IvM_lv (I := I) (A := A) hIv), (IvM_sd (I := I) (A := A) hIv), (IvM_nq (I := I) (A := A) hIv), (IvM_hr (I := I) (A := A) hIv), (IvM_hh (I := I) (A := A) hIv), trivial⟩ (by omega) (by omega) (by omega) (by omega) (by first | (rw [show ((upd I 23 0) 23) = (0 : Int32) from rfl] <;> omega) | omega) n22230a n22230b
def wo_j194_X12_way : List Cond := [Cond.methodLink RX12 342 yX12_isOf, Cond.instanceMethod yX12_isOf, Cond.selects RX12 yX12_isOf yX12_isOf, Cond.initialized RX12, Cond.methodLink RX12 323 yX12_copies, Cond.instanceMethod yX12_copies, Cond.selects RX12 yX12_copies yX12_copies, Cond.methodLink RX12 345 yX12_distanceOf, Cond.instanceMethod yX12_distanceOf, Cond.selects RX12 yX12_distanceOf yX12_distanceOf, Cond.methodLink RX12 354 yX12_fillsWay, Cond.instanceMethod yX12_fillsWay, Cond.selects RX12 yX12_fillsWay yX12_fillsWay, Cond.fieldLink RX12 351 "WarpDeskModel" "wayMany" "I", Cond.fieldLink RX12 88 "WarpDeskModel" "wayAt" "[I"]
def wz_j194_X12_way : List Cond := .code yX12_way cX12_way 4 (some .int) :: (wo_j194_X12_way ++ (wsX120 ++ (wz_j168_X12_isOf ++ (wz_j151_X12_copies ++ (wz_j169_X12_distanceOf ++ (wz_j195_X12_fillsWay ++ ([] : List Cond)))))))
theorem zg_j194_X12_way : ∀ w ∈ wz_j194_X12_way, goodWord w = true := zg_cons rfl (zg_app (by decide +kernel) (zg_app zgU_wsX120 (zg_app zg_j168_X12_isOf (zg_app zg_j151_X12_copies (zg_app zg_j169_X12_distanceOf (zg_app zg_j195_X12_fillsWay zg_nil))))))
theorem zi_j194_X12_way : ∀ w ∈ wz_j194_X12_way, w ∈ lw_tbl := zi_cons zw_1831 (zi_app (zi_cons zw_1755 (zi_cons zw_1757 (zi_cons zw_78 (zi_cons zw_115 (zi_cons zw_1679 (zi_cons zw_1681 (zi_cons zw_70 (zi_cons zw_1759 (zi_cons zw_1761 (zi_cons zw_79 (zi_cons zw_1832 (zi_cons zw_1834 (zi_cons zw_92 (zi_cons zw_1425 (zi_cons zw_1424 zi_nil))))))))))))))) (zi_app inX12 (zi_app zi_j168_X12_isOf (zi_app zi_j151_X12_copies (zi_app zi_j169_X12_distanceOf (zi_app zi_j195_X12_fillsWay zi_nil))))))
set_option maxHeartbeats 4000000 in
set_option maxRecDepth 100000 in
theorem j194_X12_way (l : Launch) (D : va_G) (zt : Nat × Nat × Nat × (Nat → Nat) × (Nat → Nat)) (r : Nat → Nat) (g : Nat → ClassId) (I : Nat → Int32) (A : Nat → Nat → Int32) (L : Nat → Nat → Int64) (z1 : Int32) (z2 : Int32) (z3 : Int32) (hIv : IvM I A) : GM l D zt (tyM g) yX12_way wz_j194_X12_way ({ frames := 6, cells := 0, slots := 0, locals := 134 } : Room) [.ref (r 0), .int z1, .int z2, .int z3] (wM r g I A L) (fun v _ w' => ∃ (I' : Nat → Int32) (A' : Nat → Nat → Int32) (L' : Nat → Nat → Int64), Md [18, 19, 20, 23] I I' ∧ Md [18, 19, 20, 21, 23] A A' ∧ IvM I' A' ∧ ∃ y0 : Int32, v = some (.int y0) ∧ w' = wM r g I' A' L') 0 0 := by
  refine GM.of (cc := cX12_way) (maxL := 4) (ret := (some .int)) (own := RX12) (lv := [(0, .ref (r 0)), (1, .int z1), (2, .int z2), (3, .int z3)]) (by decide) rfl rfl (Nat.le_of_ble_eq_true rfl) rfl (fun κ sz hk hR hN => ?_)
  have hin12 : ∀ w ∈ u_ws RX12 TX12 55, w ∈ wz_j194_X12_way := fun w h => (List.mem_cons_of_mem _ (List.mem_append_right _ (List.mem_append_left _ h)))
  refine g_aload_n hk dX12_way_0 rfl ?_
  refine g_iload_n hk dX12_way_1 rfl ?_
  refine g_iload_n hk dX12_way_2 rfl ?_
  refine g_callV (n := 2) hk (j168_X12_isOf l D zt r g I A L z1 z2 hIv) (SP.same _) (fun _ h => h) (gi_V (List.mem_cons_of_mem _ (List.mem_append_left _ (List.mem_of_getElem? (i := 0) rfl))) (List.mem_cons_of_mem _ (List.mem_append_left _ (List.mem_of_getElem? (i := 1) rfl))) (List.mem_cons_of_mem _ (List.mem_append_left _ (List.mem_of_getElem? (i := 2) rfl))) (List.mem_cons_of_mem _ (List.mem_append_left _ (List.mem_of_getElem? (i := 3) rfl))) (gi_sub (fun w h => (List.mem_cons_of_mem _ (List.mem_append_right _ (List.mem_append_right _ (List.mem_append_left _ h))))) zg_j168_X12_isOf)) rfl rfl rfl (by decide +kernel) ⟨Nat.le_of_ble_eq_true rfl, Nat.le_of_ble_eq_true rfl⟩ 0 rfl rfl rfl rfl (Nat.le_of_ble_eq_true rfl) ⟨Nat.le_of_ble_eq_true rfl, Nat.le_of_ble_eq_true rfl⟩ dX12_way_3 (fun v ty' w' hp hk' => ?_)
  rcases hp with ⟨rfl, rfl⟩ | ⟨c22100, c22101, c22102, c22103, c22104, c22105, c22106, c22107, c22108, c22109, c22110, c22111, rfl, rfl⟩
  · skip
    show GW κ 4 0 0 (wM r g I A L) 6 [(0, .ref (r 0)), (1, .int z1), (2, .int z2), (3, .int z3)] [.int 0]
    refine g_if_eq (tgt := 14) (a := 0) hk dX12_way_6 (by decide) rfl (fun _ => ?_) (fun z9 => absurd (show (0 : Int) = (0 : Int) from by decide) z9)
    refine g_iconst (v := (-1)) hk dX12_way_14 (by decide) ?_
    exact g_iret hk hR rfl ⟨I, A, L, (show Md [18, 19, 20, 23] I I from Md.rf), (show Md [18, 19, 20, 21, 23] A A from Md.rf), hIv, (-1), rfl, rfl⟩ dX12_way_15
  · skip
    have f22113 : 0 ≤ (A 11 (5 * (I 15) + z1).toNatClampNeg).toInt ∧ (A 11 (5 * (I 15) + z1).toNatClampNeg).toInt ≤ 16 := IvM_a11 hIv _
    show GW κ 4 0 0 (wM r g I A L) 6 [(0, .ref (r 0)), (1, .int z1), (2, .int z2), (3, .int z3)] [.int 1]
    refine g_if_eq (tgt := 14) (a := 1) hk dX12_way_6 (by decide) rfl (fun z9 => absurd z9 (show ¬ ((1 : Int) = (0 : Int)) from by decide)) (fun _ => ?_)
    refine g_iload_n hk dX12_way_9 rfl ?_
    refine g_iconst (v := (-1)) hk dX12_way_10 (by decide) ?_
    have b22114l := Int32.le_toInt z3
    have b22114h := Int32.toInt_lt z3
    refine g_icmp_ge (tgt := 16) (a := z3.toInt) (b := (-1)) hk dX12_way_11 (by decide) rfl rfl (fun c22115 => ?_) (fun c22115 => ?_)
    · skip
      refine g_aload_n hk dX12_way_16 rfl ?_
      refine g_callV (n := 0) hk (j151_X12_copies l D zt r g I A L  hIv) (SP.same _) (fun _ h => h) (gi_V (List.mem_cons_of_mem _ (List.mem_append_left _ (List.mem_of_getElem? (i := 4) rfl))) (List.mem_cons_of_mem _ (List.mem_append_left _ (List.mem_of_getElem? (i := 5) rfl))) (List.mem_cons_of_mem _ (List.mem_append_left _ (List.mem_of_getElem? (i := 6) rfl))) (List.mem_cons_of_mem _ (List.mem_append_left _ (List.mem_of_getElem? (i := 3) rfl))) (gi_sub (fun w h => (List.mem_cons_of_mem _ (List.mem_append_right _ (List.mem_append_right _ (List.mem_append_right _ (List.mem_append_left _ h)))))) zg_j151_X12_copies)) rfl rfl rfl (by decide +kernel) ⟨Nat.le_of_ble_eq_true rfl, Nat.le_of_ble_eq_true rfl⟩ 0 rfl rfl rfl rfl (Nat.le_of_ble_eq_true rfl) ⟨Nat.le_of_ble_eq_true rfl, Nat.le_of_ble_eq_true rfl⟩ dX12_way_17 (fun v ty' w' hp hk' => ?_)
      obtain ⟨I22117, A22117, L22117, hI22117, hA22117, hV22117, r22118, r22119, rfl, rfl⟩ := hp
      have f22120 := IvM_s17_0 hIv
      have f22121 := IvM_s17_164 hIv
      show GW κ 4 0 0 (wM r g I22117 A22117 L22117) 20 [(0, .ref (r 0)), (1, .int z1), (2, .int z2), (3, .int z3)] []
      refine g_aload_n hk dX12_way_20 rfl ?_
      refine g_iload_n hk dX12_way_21 rfl ?_
      refine g_iload_n hk dX12_way_22 rfl ?_
      refine g_callV (n := 2) hk (j169_X12_distanceOf l D zt r g I22117 A22117 L22117 z1 z2 hV22117 (by omega) (by omega) (by omega) (by omega) (by first | (rw [show (A22117 11 (5 * (I22117 15) + z1).toNatClampNeg) = (A 11 (5 * (I 15) + z1).toNatClampNeg) from (by rw [show I22117 15 = (I 15) from (hI22117 15 rfl)]; exact (congrFun (hA22117 11 rfl) _))] <;> omega) | omega) (by first | (rw [show (A22117 11 (5 * (I22117 15) + z1).toNatClampNeg) = (A 11 (5 * (I 15) + z1).toNatClampNeg) from (by rw [show I22117 15 = (I 15) from (hI22117 15 rfl)]; exact (congrFun (hA22117 11 rfl) _))] <;> omega) | omega)) (SP.same _) (fun _ h => h) (gi_V (List.mem_cons_of_mem _ (List.mem_append_left _ (List.mem_of_getElem? (i := 7) rfl))) (List.mem_cons_of_mem _ (List.mem_append_left _ (List.mem_of_getElem? (i := 8) rfl))) (List.mem_cons_of_mem _ (List.mem_append_left _ (List.mem_of_getElem? (i := 9) rfl))) (List.mem_cons_of_mem _ (List.mem_append_left _ (List.mem_of_getElem? (i := 3) rfl))) (gi_sub (fun w h => (List.mem_cons_of_mem _ (List.mem_append_right _ (List.mem_append_right _ (List.mem_append_right _ (List.mem_append_right _ (List.mem_append_left _ h))))))) zg_j169_X12_distanceOf)) rfl rfl rfl (by decide +kernel) ⟨Nat.le_of_ble_eq_true rfl, Nat.le_of_ble_eq_true rfl⟩ 0 rfl rfl rfl rfl (Nat.le_of_ble_eq_true rfl) ⟨Nat.le_of_ble_eq_true rfl, Nat.le_of_ble_eq_true rfl⟩ dX12_way_23 (fun v ty' w' hp hk' => ?_)
      obtain ⟨I22123, A22123, L22123, hI22123, hA22123, hV22123, y22122, r22124, rfl, rfl⟩ := hp
      have f22125 := IvM_f18 hV22123
      show GW κ 4 0 0 (wM r g I22123 A22123 L22123) 26 [(0, .ref (r 0)), (1, .int z1), (2, .int z2), (3, .int z3)] [.int y22122]
      refine g_pop hk dX12_way_26 rfl ?_
      refine g_aload_n hk dX12_way_27 rfl ?_
      refine g_callV (n := 0) hk (j195_X12_fillsWay l D zt r g I22123 A22123 L22123  hV22123) (SP.same _) (fun _ h => h) (gi_V (List.mem_cons_of_mem _ (List.mem_append_left _ (List.mem_of_getElem? (i := 10) rfl))) (List.mem_cons_of_mem _ (List.mem_append_left _ (List.mem_of_getElem? (i := 11) rfl))) (List.mem_cons_of_mem _ (List.mem_append_left _ (List.mem_of_getElem? (i := 12) rfl))) (List.mem_cons_of_mem _ (List.mem_append_left _ (List.mem_of_getElem? (i := 3) rfl))) (gi_sub (fun w h => (List.mem_cons_of_mem _ (List.mem_append_right _ (List.mem_append_right _ (List.mem_append_right _ (List.mem_append_right _ (List.mem_append_right _ (List.mem_append_left _ h)))))))) zg_j195_X12_fillsWay)) rfl rfl rfl (by decide +kernel) ⟨Nat.le_of_ble_eq_true rfl, Nat.le_of_ble_eq_true rfl⟩ 0 rfl rfl rfl rfl (Nat.le_of_ble_eq_true rfl) ⟨Nat.le_of_ble_eq_true rfl, Nat.le_of_ble_eq_true rfl⟩ dX12_way_28 (fun v ty' w' hp hk' => ?_)
      obtain ⟨I22233, A22233, L22233, hI22233, hA22233, hV22233, rfl, rfl⟩ := hp
      show GW κ 4 0 0 (wM r g I22233 A22233 L22233) 31 [(0, .ref (r 0)), (1, .int z1), (2, .int z2), (3, .int z3)] []
      refine g_iload_n hk dX12_way_31 rfl ?_
      refine g_iconst (v := (-1)) hk dX12_way_32 (by decide) ?_
      refine g_icmp_ne (tgt := 43) (a := z3.toInt) (b := (-1)) hk dX12_way_33 (by decide) rfl rfl (fun c22234 => ?_) (fun c22234 => ?_)
      · skip
        refine g_iload_n hk dX12_way_43 rfl ?_
        refine g_aload_n hk dX12_way_44 rfl ?_
        refine gM_i23 (v := (I22233 23)) hk hin12 (List.mem_cons_of_mem _ (List.mem_append_left _ (List.mem_of_getElem? (i := 13) rfl))) dX12_way_45 rfl ?_
        have f22235 := IvM_f23 hV22233
        refine g_icmp_ge (tgt := 67) (a := z3.toInt) (b := (I22233 23).toInt) hk dX12_way_48 (by decide) rfl rfl (fun c22236 => ?_) (fun c22236 => ?_)
        · skip
          refine g_iconst (v := (-1)) hk dX12_way_67 (by decide) ?_
          exact g_iret hk hR rfl ⟨I22233, A22233, L22233, (show Md [18, 19, 20, 23] I I22233 from (Md.tr (Md.tr (Md.tr Md.rf hI22117 rfl) hI22123 rfl) hI22233 rfl)), (show Md [18, 19, 20, 21, 23] A A22233 from (Md.tr (Md.tr (Md.tr Md.rf hA22117 rfl) hA22123 rfl) hA22233 rfl)), hV22233, (-1), rfl, rfl⟩ dX12_way_68
        · skip
          refine g_aload_n hk dX12_way_51 rfl ?_
          refine gM_r0_46 hk hin12 (List.mem_cons_of_mem _ (List.mem_append_left _ (List.mem_of_getElem? (i := 14) rfl))) dX12_way_52 ?_
          refine g_aload_n hk dX12_way_55 rfl ?_
          refine gM_i23 (v := (I22233 23)) hk hin12 (List.mem_cons_of_mem _ (List.mem_append_left _ (List.mem_of_getElem? (i := 13) rfl))) dX12_way_56 rfl ?_
          refine g_iconst (v := 1) hk dX12_way_59 (by decide) ?_
          refine g_isub hk dX12_way_60 ?_
          refine g_topi (fun y22237 ey22237 => ?_)
          have hy22237 : y22237.toInt = (I22233 23).toInt - 1 := i32_sub ey22237 rfl rfl (by omega) (by omega)
          refine g_iload_n hk dX12_way_61 rfl ?_
          refine g_isub hk dX12_way_62 ?_
          refine g_topi (fun y22238 ey22238 => ?_)
          have hy22238 : y22238.toInt = y22237.toInt - z3.toInt := i32_sub ey22238 rfl rfl (by omega) (by omega)
          refine lM_23 (v := (A22233 23 y22238.toNatClampNeg)) hk (vp_in_iff.mpr ⟨by omega, by omega⟩) rfl dX12_way_63 ?_
          refine g_goto (tgt := 68) hk dX12_way_64 (by decide) ?_
          have b22239l := Int32.le_toInt (A22233 23 y22238.toNatClampNeg)
          have b22239h := Int32.toInt_lt (A22233 23 y22238.toNatClampNeg)
          exact g_iret hk hR rfl ⟨I22233, A22233, L22233, (show Md [18, 19, 20, 23] I I22233 from (Md.tr (Md.tr (Md.tr Md.rf hI22117 rfl) hI22123 rfl) hI22233 rfl)), (show Md [18, 19, 20, 21, 23] A A22233 from (Md.tr (Md.tr (Md.tr Md.rf hA22117 rfl) hA22123 rfl) hA22233 rfl)), hV22233, (A22233 23 y22238.toNatClampNeg), rfl, rfl⟩ dX12_way_68
      · skip
        refine g_aload_n hk dX12_way_36 rfl ?_
        refine gM_i23 (v := (I22233 23)) hk hin12 (List.mem_cons_of_mem _ (List.mem_append_left _ (List.mem_of_getElem? (i := 13) rfl))) dX12_way_37 rfl ?_
        have f22240 := IvM_f23 hV22233
        refine g_goto (tgt := 68) hk dX12_way_40 (by decide) ?_
        exact g_iret hk hR rfl ⟨I22233, A22233, L22233, (show Md [18, 19, 20, 23] I I22233 from (Md.tr (Md.tr (Md.tr Md.rf hI22117 rfl) hI22123 rfl) hI22233 rfl)), (show Md [18, 19, 20, 21, 23] A A22233 from (Md.tr (Md.tr (Md.tr Md.rf hA22117 rfl) hA22123 rfl) hA22233 rfl)), hV22233, (I22233 23), rfl, rfl⟩ dX12_way_68
    · skip
      refine g_iconst (v := (-1)) hk dX12_way_14 (by decide) ?_
      exact g_iret hk hR rfl ⟨I, A, L, (show Md [18, 19, 20, 23] I I from Md.rf), (show Md [18, 19, 20, 21, 23] A A from Md.rf), hIv, (-1), rfl, rfl⟩ dX12_way_15
def wo_j196_X12_needs : List Cond := [Cond.methodLink RX12 342 yX12_isOf, Cond.instanceMethod yX12_isOf, Cond.selects RX12 yX12_isOf yX12_isOf, Cond.initialized RX12, Cond.fieldLink RX12 70 "WarpDeskModel" "now" "[I", Cond.methodLink RX12 357 yX12_fillsFar, Cond.instanceMethod yX12_fillsFar, Cond.selects RX12 yX12_fillsFar yX12_fillsFar, Cond.methodLink RX12 360 yX12_bestWindow, Cond.instanceMethod yX12_bestWindow, Cond.selects RX12 yX12_bestWindow yX12_bestWindow]
def wz_j196_X12_needs : List Cond := .code yX12_needs cX12_needs 6 (some .int) :: (wo_j196_X12_needs ++ (wsX120 ++ (wz_j168_X12_isOf ++ (wz_j186_X12_fillsFar ++ (wz_j187_X12_bestWindow ++ ([] : List Cond))))))
theorem zg_j196_X12_needs : ∀ w ∈ wz_j196_X12_needs, goodWord w = true := zg_cons rfl (zg_app (by decide +kernel) (zg_app zgU_wsX120 (zg_app zg_j168_X12_isOf (zg_app zg_j186_X12_fillsFar (zg_app zg_j187_X12_bestWindow zg_nil)))))
theorem zi_j196_X12_needs : ∀ w ∈ wz_j196_X12_needs, w ∈ lw_tbl := zi_cons zw_1855 (zi_app (zi_cons zw_1755 (zi_cons zw_1757 (zi_cons zw_78 (zi_cons zw_115 (zi_cons zw_1413 (zi_cons zw_1844 (zi_cons zw_1846 (zi_cons zw_93 (zi_cons zw_1848 (zi_cons zw_1850 (zi_cons zw_94 zi_nil))))))))))) (zi_app inX12 (zi_app zi_j168_X12_isOf (zi_app zi_j186_X12_fillsFar (zi_app zi_j187_X12_bestWindow zi_nil)))))
set_option maxHeartbeats 4000000 in
set_option maxRecDepth 100000 in
theorem j196_X12_needs (l : Launch) (D : va_G) (zt : Nat × Nat × Nat × (Nat → Nat) × (Nat → Nat)) (r : Nat → Nat) (g : Nat → ClassId) (I : Nat → Int32) (A : Nat → Nat → Int32) (L : Nat → Nat → Int64) (z1 : Int32) (z2 : Int32) (hIv : IvM I A) : GM l D zt (tyM g) yX12_needs wz_j196_X12_needs ({ frames := 7, cells := 0, slots := 0, locals := 156 } : Room) [.ref (r 0), .int z1, .int z2] (wM r g I A L) (fun v _ w' => ∃ (I' : Nat → Int32) (A' : Nat → Nat → Int32) (L' : Nat → Nat → Int64), Md [18, 19, 20] I I' ∧ Md [17, 18, 19, 20, 21, 24] A A' ∧ IvM I' A' ∧ ∃ y0 : Int32, ((-2) ≤ y0.toInt) ∧ (y0.toInt ≤ 15) ∧ v = some (.int y0) ∧ w' = wM r g I' A' L') 0 0 := by
  refine GM.of (cc := cX12_needs) (maxL := 6) (ret := (some .int)) (own := RX12) (lv := [(0, .ref (r 0)), (1, .int z1), (2, .int z2)]) (by decide) rfl rfl (Nat.le_of_ble_eq_true rfl) rfl (fun κ sz hk hR hN => ?_)
  have hin12 : ∀ w ∈ u_ws RX12 TX12 55, w ∈ wz_j196_X12_needs := fun w h => (List.mem_cons_of_mem _ (List.mem_append_right _ (List.mem_append_left _ h)))
  refine g_aload_n hk dX12_needs_0 rfl ?_
  refine g_iload_n hk dX12_needs_1 rfl ?_
  refine g_iload_n hk dX12_needs_2 rfl ?_
  refine g_callV (n := 2) hk (j168_X12_isOf l D zt r g I A L z1 z2 hIv) (SP.same _) (fun _ h => h) (gi_V (List.mem_cons_of_mem _ (List.mem_append_left _ (List.mem_of_getElem? (i := 0) rfl))) (List.mem_cons_of_mem _ (List.mem_append_left _ (List.mem_of_getElem? (i := 1) rfl))) (List.mem_cons_of_mem _ (List.mem_append_left _ (List.mem_of_getElem? (i := 2) rfl))) (List.mem_cons_of_mem _ (List.mem_append_left _ (List.mem_of_getElem? (i := 3) rfl))) (gi_sub (fun w h => (List.mem_cons_of_mem _ (List.mem_append_right _ (List.mem_append_right _ (List.mem_append_left _ h))))) zg_j168_X12_isOf)) rfl rfl rfl (by decide +kernel) ⟨Nat.le_of_ble_eq_true rfl, Nat.le_of_ble_eq_true rfl⟩ 0 rfl rfl rfl rfl (Nat.le_of_ble_eq_true rfl) ⟨Nat.le_of_ble_eq_true rfl, Nat.le_of_ble_eq_true rfl⟩ dX12_needs_3 (fun v ty' w' hp hk' => ?_)
  rcases hp with ⟨rfl, rfl⟩ | ⟨c22242, c22243, c22244, c22245, c22246, c22247, c22248, c22249, c22250, c22251, c22252, c22253, rfl, rfl⟩
  · skip
    show GW κ 6 0 0 (wM r g I A L) 6 [(0, .ref (r 0)), (1, .int z1), (2, .int z2)] [.int 0]
    refine g_if_ne (tgt := 11) (a := 0) hk dX12_needs_6 (by decide) rfl (fun z9 => absurd z9 (show ¬ ((0 : Int) ≠ (0 : Int)) from by decide)) (fun _ => ?_)
    refine g_iconst (v := (-1)) hk dX12_needs_9 (by decide) ?_
    exact g_iret hk hR rfl ⟨I, A, L, (show Md [18, 19, 20] I I from Md.rf), (show Md [17, 18, 19, 20, 21, 24] A A from Md.rf), hIv, (-1), (by decide), (by decide), rfl, rfl⟩ dX12_needs_10
  · skip
    have f22255 : 0 ≤ (A 11 (5 * (I 15) + z1).toNatClampNeg).toInt ∧ (A 11 (5 * (I 15) + z1).toNatClampNeg).toInt ≤ 16 := IvM_a11 hIv _
    show GW κ 6 0 0 (wM r g I A L) 6 [(0, .ref (r 0)), (1, .int z1), (2, .int z2)] [.int 1]
    refine g_if_ne (tgt := 11) (a := 1) hk dX12_needs_6 (by decide) rfl (fun _ => ?_) (fun z9 => absurd (show (1 : Int) ≠ (0 : Int) from by decide) z9)
    refine g_aload_n hk dX12_needs_11 rfl ?_
    refine gM_r0_35 hk hin12 (List.mem_cons_of_mem _ (List.mem_append_left _ (List.mem_of_getElem? (i := 4) rfl))) dX12_needs_12 ?_
    refine g_sipush (v := 161) hk dX12_needs_15 (by decide) ?_
    refine lM_17 (v := (A 17 161)) hk (vp_in_iff.mpr ⟨by decide, by decide⟩) rfl dX12_needs_18 ?_
    refine g_istore_n (lv' := [(3, .int (A 17 161)), (0, .ref (r 0)), (1, .int z1), (2, .int z2)]) hk dX12_needs_19 (by decide) rfl ?_
    refine g_bipush (v := (-2)) hk dX12_needs_20 (by decide) ?_
    refine g_istore (lv' := [(4, .int (-2)), (3, .int (A 17 161)), (0, .ref (r 0)), (1, .int z1), (2, .int z2)]) hk dX12_needs_22 (by decide) rfl ?_
    refine g_bipush (v := 15) hk dX12_needs_24 (by decide) ?_
    refine g_istore (lv' := [(5, .int 15), (4, .int (-2)), (3, .int (A 17 161)), (0, .ref (r 0)), (1, .int z1), (2, .int z2)]) hk dX12_needs_26 (by decide) rfl ?_
    have lp22317 : ∀ (n22318 : Nat) (x22256 : Int32) (x22257 : Int32) (I22262 : Nat → Int32) (A22262 : Nat → Nat → Int32) (L22262 : Nat → Nat → Int64), (Md [18, 19, 20] I I22262) → (Md [17, 18, 19, 20, 21, 24] A A22262) → (IvM I22262 A22262) → ((-1) ≤ x22256.toInt) → (x22256.toInt ≤ 15) → ((-2) ≤ x22257.toInt) → (x22257.toInt ≤ 15) → (x22256.toInt + 1 - 0 < (n22318 : Int)) → (0 < n22318) → GW κ 6 0 0 (wM r g I22262 A22262 L22262) 28 [(5, .int x22256), (4, .int x22257), (3, .int (A 17 161)), (0, .ref (r 0)), (1, .int z1), (2, .int z2)] [] := by
      intro n22318
      induction n22318 with
      | zero =>
        intro x22256 x22257 I22262 A22262 L22262 hI22262 hA22262 hV22262 h22313 h22314 h22315 h22316 m22319 m22319z
        exact absurd m22319z (Nat.lt_irrefl 0)
      | succ n22318 ih22320 =>
        intro x22256 x22257 I22262 A22262 L22262 hI22262 hA22262 hV22262 h22313 h22314 h22315 h22316 m22319 m22319z
        refine g_iload hk dX12_needs_28 rfl ?_
        refine g_if_lt (tgt := 66) (a := x22256.toInt) hk dX12_needs_30 (by decide) rfl (fun c22321 => ?_) (fun c22321 => ?_)
        · skip
          refine g_aload_n hk dX12_needs_66 rfl ?_
          refine gM_r0_35 hk hin12 (List.mem_cons_of_mem _ (List.mem_append_left _ (List.mem_of_getElem? (i := 4) rfl))) dX12_needs_67 ?_
          refine g_sipush (v := 161) hk dX12_needs_70 (by decide) ?_
          refine g_iload_n hk dX12_needs_73 rfl ?_
          refine sM_17 (j := 161) hk (vp_in_iff.mpr ⟨by decide, by decide⟩) (by decide) dX12_needs_74 ?_
          have f22322 := IvM_s17_0 hV22262
          have f22323 := IvM_s17_164 hV22262
          refine g_iload hk dX12_needs_75 rfl ?_
          exact g_iret hk hR rfl ⟨I22262, (up3 A22262 17 161 (A 17 161)), L22262, (show Md [18, 19, 20] I I22262 from (Md.tr Md.rf hI22262 rfl)), (show Md [17, 18, 19, 20, 21, 24] A (up3 A22262 17 161 (A 17 161)) from (Md.up3 (Md.tr Md.rf hA22262 rfl) rfl)), ⟨(IvM_f1 (I := I22262) (A := A22262) hV22262), (IvM_f2 (I := I22262) (A := A22262) hV22262), (IvM_f3 (I := I22262) (A := A22262) hV22262), (IvM_f4 (I := I22262) (A := A22262) hV22262), (IvM_f6 (I := I22262) (A := A22262) hV22262), (IvM_f8 (I := I22262) (A := A22262) hV22262), (IvM_f15 (I := I22262) (A := A22262) hV22262), (IvM_f16 (I := I22262) (A := A22262) hV22262), (IvM_f17 (I := I22262) (A := A22262) hV22262), (IvM_f18 (I := I22262) (A := A22262) hV22262), (IvM_f22 (I := I22262) (A := A22262) hV22262), (IvM_f23 (I := I22262) (A := A22262) hV22262), (IvM_f24 (I := I22262) (A := A22262) hV22262), (IvM_a11 (I := I22262) (A := A22262) hV22262), (IvM_a26 (I := I22262) (A := A22262) hV22262), (IvM_s8_0 (I := I22262) (A := A22262) hV22262), (IvM_s8_1 (I := I22262) (A := A22262) hV22262), (IvM_s10_0 (I := I22262) (A := A22262) hV22262), (IvM_s10_1 (I := I22262) (A := A22262) hV22262), (show 0 ≤ ((up3 A22262 17 161 (A 17 161)) 17 0).toInt ∧ ((up3 A22262 17 161 (A 17 161)) 17 0).toInt ≤ 160 from by rw [show (up3 A22262 17 161 (A 17 161)) 17 0 = (A22262 17 0) from rfl]; exact (IvM_s17_0 (I := I22262) (A := A22262) hV22262)), (show 1 ≤ ((up3 A22262 17 161 (A 17 161)) 17 164).toInt ∧ ((up3 A22262 17 161 (A 17 161)) 17 164).toInt ≤ 2147483647 from by rw [show (up3 A22262 17 161 (A 17 161)) 17 164 = (A22262 17 164) from rfl]; exact (IvM_s17_164 (I := I22262) (A := A22262) hV22262)), (IvM_lv (I := I22262) (A := A22262) hV22262), (IvM_sd (I := I22262) (A := A22262) hV22262), (IvM_nq (I := I22262) (A := A22262) hV22262), (IvM_hr (I := I22262) (A := A22262) hV22262), (IvM_hh (I := I22262) (A := A22262) hV22262), trivial⟩, x22257, (by omega), (by omega), rfl, rfl⟩ dX12_needs_77
        · skip
          refine g_aload_n hk dX12_needs_33 rfl ?_
          refine gM_r0_35 hk hin12 (List.mem_cons_of_mem _ (List.mem_append_left _ (List.mem_of_getElem? (i := 4) rfl))) dX12_needs_34 ?_
          refine g_sipush (v := 161) hk dX12_needs_37 (by decide) ?_
          refine g_iload hk dX12_needs_40 rfl ?_
          refine sM_17 (j := 161) hk (vp_in_iff.mpr ⟨by decide, by decide⟩) (by decide) dX12_needs_42 ?_
          have f22324 := IvM_s17_0 hV22262
          have f22325 := IvM_s17_164 hV22262
          refine g_aload_n hk dX12_needs_43 rfl ?_
          refine g_iload_n hk dX12_needs_44 rfl ?_
          refine g_callV (n := 1) hk (j186_X12_fillsFar l D zt r g I22262 (up3 A22262 17 161 x22256) L22262 z1 ⟨(IvM_f1 (I := I22262) (A := A22262) hV22262), (IvM_f2 (I := I22262) (A := A22262) hV22262), (IvM_f3 (I := I22262) (A := A22262) hV22262), (IvM_f4 (I := I22262) (A := A22262) hV22262), (IvM_f6 (I := I22262) (A := A22262) hV22262), (IvM_f8 (I := I22262) (A := A22262) hV22262), (IvM_f15 (I := I22262) (A := A22262) hV22262), (IvM_f16 (I := I22262) (A := A22262) hV22262), (IvM_f17 (I := I22262) (A := A22262) hV22262), (IvM_f18 (I := I22262) (A := A22262) hV22262), (IvM_f22 (I := I22262) (A := A22262) hV22262), (IvM_f23 (I := I22262) (A := A22262) hV22262), (IvM_f24 (I := I22262) (A := A22262) hV22262), (IvM_a11 (I := I22262) (A := A22262) hV22262), (IvM_a26 (I := I22262) (A := A22262) hV22262), (IvM_s8_0 (I := I22262) (A := A22262) hV22262), (IvM_s8_1 (I := I22262) (A := A22262) hV22262), (IvM_s10_0 (I := I22262) (A := A22262) hV22262), (IvM_s10_1 (I := I22262) (A := A22262) hV22262), (show 0 ≤ ((up3 A22262 17 161 x22256) 17 0).toInt ∧ ((up3 A22262 17 161 x22256) 17 0).toInt ≤ 160 from by rw [show (up3 A22262 17 161 x22256) 17 0 = (A22262 17 0) from rfl]; exact (IvM_s17_0 (I := I22262) (A := A22262) hV22262)), (show 1 ≤ ((up3 A22262 17 161 x22256) 17 164).toInt ∧ ((up3 A22262 17 161 x22256) 17 164).toInt ≤ 2147483647 from by rw [show (up3 A22262 17 161 x22256) 17 164 = (A22262 17 164) from rfl]; exact (IvM_s17_164 (I := I22262) (A := A22262) hV22262)), (IvM_lv (I := I22262) (A := A22262) hV22262), (IvM_sd (I := I22262) (A := A22262) hV22262), (IvM_nq (I := I22262) (A := A22262) hV22262), (IvM_hr (I := I22262) (A := A22262) hV22262), (IvM_hh (I := I22262) (A := A22262) hV22262), trivial⟩ (by omega) (by omega)) (SP.same _) (fun _ h => h) (gi_V (List.mem_cons_of_mem _ (List.mem_append_left _ (List.mem_of_getElem? (i := 5) rfl))) (List.mem_cons_of_mem _ (List.mem_append_left _ (List.mem_of_getElem? (i := 6) rfl))) (List.mem_cons_of_mem _ (List.mem_append_left _ (List.mem_of_getElem? (i := 7) rfl))) (List.mem_cons_of_mem _ (List.mem_append_left _ (List.mem_of_getElem? (i := 3) rfl))) (gi_sub (fun w h => (List.mem_cons_of_mem _ (List.mem_append_right _ (List.mem_append_right _ (List.mem_append_right _ (List.mem_append_left _ h)))))) zg_j186_X12_fillsFar)) rfl rfl rfl (by decide +kernel) ⟨Nat.le_of_ble_eq_true rfl, Nat.le_of_ble_eq_true rfl⟩ 0 rfl rfl rfl rfl (Nat.le_of_ble_eq_true rfl) ⟨Nat.le_of_ble_eq_true rfl, Nat.le_of_ble_eq_true rfl⟩ dX12_needs_45 (fun v ty' w' hp hk' => ?_)
          obtain ⟨I22327, A22327, L22327, hI22327, hA22327, hV22327, r22328, rfl, rfl⟩ := hp
          show GW κ 6 0 0 (wM r g I22327 A22327 L22327) 48 [(5, .int x22256), (4, .int x22257), (3, .int (A 17 161)), (0, .ref (r 0)), (1, .int z1), (2, .int z2)] []
          refine g_aload_n hk dX12_needs_48 rfl ?_
          refine g_callV (n := 0) hk (j187_X12_bestWindow l D zt r g I22327 A22327 L22327  hV22327) (SP.same _) (fun _ h => h) (gi_V (List.mem_cons_of_mem _ (List.mem_append_left _ (List.mem_of_getElem? (i := 8) rfl))) (List.mem_cons_of_mem _ (List.mem_append_left _ (List.mem_of_getElem? (i := 9) rfl))) (List.mem_cons_of_mem _ (List.mem_append_left _ (List.mem_of_getElem? (i := 10) rfl))) (List.mem_cons_of_mem _ (List.mem_append_left _ (List.mem_of_getElem? (i := 3) rfl))) (gi_sub (fun w h => (List.mem_cons_of_mem _ (List.mem_append_right _ (List.mem_append_right _ (List.mem_append_right _ (List.mem_append_right _ (List.mem_append_left _ h))))))) zg_j187_X12_bestWindow)) rfl rfl rfl (by decide +kernel) ⟨Nat.le_of_ble_eq_true rfl, Nat.le_of_ble_eq_true rfl⟩ 0 rfl rfl rfl rfl (Nat.le_of_ble_eq_true rfl) ⟨Nat.le_of_ble_eq_true rfl, Nat.le_of_ble_eq_true rfl⟩ dX12_needs_49 (fun v ty' w' hp hk' => ?_)
          obtain ⟨y22329, c22330, c22331, rfl, rfl⟩ := hp
          show GW κ 6 0 0 (wM r g I22327 A22327 L22327) 52 [(5, .int x22256), (4, .int x22257), (3, .int (A 17 161)), (0, .ref (r 0)), (1, .int z1), (2, .int z2)] [.int y22329]
          refine g_iload_n hk dX12_needs_52 rfl ?_
          refine g_icmp_ne (tgt := 60) (a := y22329.toInt) (b := z2.toInt) hk dX12_needs_53 (by decide) rfl rfl (fun c22332 => ?_) (fun c22332 => ?_)
          · skip
            obtain ⟨y22333, ey22333⟩ : ∃ y : Int32, y = x22256 + Int32.ofInt (-1) := ⟨_, rfl⟩
            have hy22333 : y22333.toInt = x22256.toInt + (-1) := i32_add ey22333 rfl (by decide) (by omega) (by omega)
            refine g_iinc (v := y22333) (lv' := [(5, .int y22333), (4, .int x22257), (3, .int (A 17 161)), (0, .ref (r 0)), (1, .int z1), (2, .int z2)]) hk 0 dX12_needs_60 rfl ey22333.symm (by decide) rfl ?_
            refine g_goto (tgt := 28) hk dX12_needs_63 (by decide) ?_
            exact g_lv (List.forall_mem_cons.mpr ⟨List.mem_of_getElem? (i := 0) rfl, (List.forall_mem_cons.mpr ⟨List.mem_of_getElem? (i := 1) rfl, (List.forall_mem_cons.mpr ⟨List.mem_of_getElem? (i := 2) rfl, (List.forall_mem_cons.mpr ⟨List.mem_of_getElem? (i := 3) rfl, (List.forall_mem_cons.mpr ⟨List.mem_of_getElem? (i := 4) rfl, (List.forall_mem_cons.mpr ⟨List.mem_of_getElem? (i := 5) rfl, (fun _ h => absurd h List.not_mem_nil)⟩)⟩)⟩)⟩)⟩)⟩) (ih22320 y22333 x22257 I22327 A22327 L22327 (show Md [18, 19, 20] I I22327 from Md.tr hI22262 (show Md [18, 19, 20] I22262 I22327 from (Md.tr Md.rf hI22327 rfl)) rfl) (show Md [17, 18, 19, 20, 21, 24] A A22327 from Md.tr hA22262 (show Md [17, 18, 19, 20, 21, 24] A22262 A22327 from (Md.tr (Md.up3 Md.rf rfl) hA22327 rfl)) rfl) hV22327 (by omega) (by omega) (by omega) (by omega) (by omega) (by omega))
          · skip
            refine g_iload hk dX12_needs_56 rfl ?_
            refine g_istore (lv' := [(4, .int x22256), (5, .int x22256), (3, .int (A 17 161)), (0, .ref (r 0)), (1, .int z1), (2, .int z2)]) hk dX12_needs_58 (by decide) rfl ?_
            obtain ⟨y22334, ey22334⟩ : ∃ y : Int32, y = x22256 + Int32.ofInt (-1) := ⟨_, rfl⟩
            have hy22334 : y22334.toInt = x22256.toInt + (-1) := i32_add ey22334 rfl (by decide) (by omega) (by omega)
            refine g_iinc (v := y22334) (lv' := [(5, .int y22334), (4, .int x22256), (3, .int (A 17 161)), (0, .ref (r 0)), (1, .int z1), (2, .int z2)]) hk 1 dX12_needs_60 rfl ey22334.symm (by decide) rfl ?_
            refine g_goto (tgt := 28) hk dX12_needs_63 (by decide) ?_
            exact g_lv (List.forall_mem_cons.mpr ⟨List.mem_of_getElem? (i := 0) rfl, (List.forall_mem_cons.mpr ⟨List.mem_of_getElem? (i := 1) rfl, (List.forall_mem_cons.mpr ⟨List.mem_of_getElem? (i := 2) rfl, (List.forall_mem_cons.mpr ⟨List.mem_of_getElem? (i := 3) rfl, (List.forall_mem_cons.mpr ⟨List.mem_of_getElem? (i := 4) rfl, (List.forall_mem_cons.mpr ⟨List.mem_of_getElem? (i := 5) rfl, (fun _ h => absurd h List.not_mem_nil)⟩)⟩)⟩)⟩)⟩)⟩) (ih22320 y22334 x22256 I22327 A22327 L22327 (show Md [18, 19, 20] I I22327 from Md.tr hI22262 (show Md [18, 19, 20] I22262 I22327 from (Md.tr Md.rf hI22327 rfl)) rfl) (show Md [17, 18, 19, 20, 21, 24] A A22327 from Md.tr hA22262 (show Md [17, 18, 19, 20, 21, 24] A22262 A22327 from (Md.tr (Md.up3 Md.rf rfl) hA22327 rfl)) rfl) hV22327 (by omega) (by omega) (by omega) (by omega) (by omega) (by omega))
    have k22335 : (15 : Int32).toInt = 15 := rfl
    have k22336 : ((-2) : Int32).toInt = (-2) := rfl
    obtain ⟨n22337, n22337a, n22337b⟩ : ∃ n : Nat, (15 : Int32).toInt + 1 - 0 < (n : Int) ∧ 0 < n := ⟨(((15 : Int32).toInt + 1 - 0 : Int)).toNat + 1, by omega, by omega⟩
    exact lp22317 n22337 15 (-2) I A L Md.rf Md.rf hIv (by omega) (by omega) (by omega) (by omega) n22337a n22337b
def wo_j197_X12_alike : List Cond := [Cond.methodLink RX12 251 yX12_isQuery, Cond.instanceMethod yX12_isQuery, Cond.selects RX12 yX12_isQuery yX12_isQuery, Cond.initialized RX12, Cond.methodLink RX12 254 yX12_wideOf, Cond.instanceMethod yX12_wideOf, Cond.selects RX12 yX12_wideOf yX12_wideOf, Cond.methodLink RX12 323 yX12_copies, Cond.instanceMethod yX12_copies, Cond.selects RX12 yX12_copies yX12_copies, Cond.fieldLink RX12 267 "WarpDeskModel" "wide" "I", Cond.methodLink RX12 276 yX12_laysQuery, Cond.instanceMethod yX12_laysQuery, Cond.selects RX12 yX12_laysQuery yX12_laysQuery, Cond.methodLink RX12 273 yX12_changesBoth, Cond.instanceMethod yX12_changesBoth, Cond.selects RX12 yX12_changesBoth yX12_changesBoth, Cond.constant RX12 282 (2000000000), Cond.methodLink RX12 304 yX12_laysTable, Cond.instanceMethod yX12_laysTable, Cond.selects RX12 yX12_laysTable yX12_laysTable]
def wz_j197_X12_alike : List Cond := .code yX12_alike cX12_alike 3 (some .int) :: (wo_j197_X12_alike ++ (wsX120 ++ (wz_j147_X12_isQuery ++ (wz_j148_X12_wideOf ++ (wz_j151_X12_copies ++ (wz_j172_X12_laysQuery ++ (wz_j171_X12_changesBoth ++ (wz_j173_X12_laysTable ++ ([] : List Cond)))))))))
theorem zg_j197_X12_alike : ∀ w ∈ wz_j197_X12_alike, goodWord w = true := zg_cons rfl (zg_app (by decide +kernel) (zg_app zgU_wsX120 (zg_app zg_j147_X12_isQuery (zg_app zg_j148_X12_wideOf (zg_app zg_j151_X12_copies (zg_app zg_j172_X12_laysQuery (zg_app zg_j171_X12_changesBoth (zg_app zg_j173_X12_laysTable zg_nil))))))))
theorem zi_j197_X12_alike : ∀ w ∈ wz_j197_X12_alike, w ∈ lw_tbl := zi_cons zw_1827 (zi_app (zi_cons zw_1663 (zi_cons zw_1665 (zi_cons zw_67 (zi_cons zw_115 (zi_cons zw_1667 (zi_cons zw_1669 (zi_cons zw_68 (zi_cons zw_1679 (zi_cons zw_1681 (zi_cons zw_70 (zi_cons zw_1415 (zi_cons zw_1771 (zi_cons zw_1773 (zi_cons zw_82 (zi_cons zw_1767 (zi_cons zw_1769 (zi_cons zw_81 (zi_cons zw_1775 (zi_cons zw_1776 (zi_cons zw_1778 (zi_cons zw_83 zi_nil))))))))))))))))))))) (zi_app inX12 (zi_app zi_j147_X12_isQuery (zi_app zi_j148_X12_wideOf (zi_app zi_j151_X12_copies (zi_app zi_j172_X12_laysQuery (zi_app zi_j171_X12_changesBoth (zi_app zi_j173_X12_laysTable zi_nil))))))))
set_option maxHeartbeats 4000000 in
set_option maxRecDepth 100000 in
theorem j197_X12_alike (l : Launch) (D : va_G) (zt : Nat × Nat × Nat × (Nat → Nat) × (Nat → Nat)) (r : Nat → Nat) (g : Nat → ClassId) (I : Nat → Int32) (A : Nat → Nat → Int32) (L : Nat → Nat → Int64) (z1 : Int32) (z2 : Int32) (hIv : IvM I A) : GM l D zt (tyM g) yX12_alike wz_j197_X12_alike ({ frames := 5, cells := 0, slots := 0, locals := 112 } : Room) [.ref (r 0), .int z1, .int z2] (wM r g I A L) (fun v _ w' => ∃ (I' : Nat → Int32) (A' : Nat → Nat → Int32) (L' : Nat → Nat → Int64), Md [18, 19, 20] I I' ∧ Md [18, 19, 20, 21] A A' ∧ IvM I' A' ∧ ∃ y0 : Int32, v = some (.int y0) ∧ w' = wM r g I' A' L') 0 0 := by
  refine GM.of (cc := cX12_alike) (maxL := 3) (ret := (some .int)) (own := RX12) (lv := [(0, .ref (r 0)), (1, .int z1), (2, .int z2)]) (by decide) rfl rfl (Nat.le_of_ble_eq_true rfl) rfl (fun κ sz hk hR hN => ?_)
  have hin12 : ∀ w ∈ u_ws RX12 TX12 55, w ∈ wz_j197_X12_alike := fun w h => (List.mem_cons_of_mem _ (List.mem_append_right _ (List.mem_append_left _ h)))
  refine g_aload_n hk dX12_alike_0 rfl ?_
  refine g_iload_n hk dX12_alike_1 rfl ?_
  refine g_callV (n := 1) hk (j147_X12_isQuery l D zt r g I A L z1 hIv) (SP.same _) (fun _ h => h) (gi_V (List.mem_cons_of_mem _ (List.mem_append_left _ (List.mem_of_getElem? (i := 0) rfl))) (List.mem_cons_of_mem _ (List.mem_append_left _ (List.mem_of_getElem? (i := 1) rfl))) (List.mem_cons_of_mem _ (List.mem_append_left _ (List.mem_of_getElem? (i := 2) rfl))) (List.mem_cons_of_mem _ (List.mem_append_left _ (List.mem_of_getElem? (i := 3) rfl))) (gi_sub (fun w h => (List.mem_cons_of_mem _ (List.mem_append_right _ (List.mem_append_right _ (List.mem_append_left _ h))))) zg_j147_X12_isQuery)) rfl rfl rfl (by decide +kernel) ⟨Nat.le_of_ble_eq_true rfl, Nat.le_of_ble_eq_true rfl⟩ 0 rfl rfl rfl rfl (Nat.le_of_ble_eq_true rfl) ⟨Nat.le_of_ble_eq_true rfl, Nat.le_of_ble_eq_true rfl⟩ dX12_alike_2 (fun v ty' w' hp hk' => ?_)
  rcases hp with ⟨rfl, rfl⟩ | ⟨c22339, c22340, c22341, c22342, rfl, rfl⟩
  · skip
    show GW κ 3 0 0 (wM r g I A L) 5 [(0, .ref (r 0)), (1, .int z1), (2, .int z2)] [.int 0]
    refine g_if_eq (tgt := 16) (a := 0) hk dX12_alike_5 (by decide) rfl (fun _ => ?_) (fun z9 => absurd (show (0 : Int) = (0 : Int) from by decide) z9)
    refine g_iconst (v := (-1)) hk dX12_alike_16 (by decide) ?_
    exact g_iret hk hR rfl ⟨I, A, L, (show Md [18, 19, 20] I I from Md.rf), (show Md [18, 19, 20, 21] A A from Md.rf), hIv, (-1), rfl, rfl⟩ dX12_alike_17
  · skip
    have f22344 : 0 ≤ (A 11 (5 * (I 15) + z1).toNatClampNeg).toInt ∧ (A 11 (5 * (I 15) + z1).toNatClampNeg).toInt ≤ 16 := IvM_a11 hIv _
    show GW κ 3 0 0 (wM r g I A L) 5 [(0, .ref (r 0)), (1, .int z1), (2, .int z2)] [.int 1]
    refine g_if_eq (tgt := 16) (a := 1) hk dX12_alike_5 (by decide) rfl (fun z9 => absurd z9 (show ¬ ((1 : Int) = (0 : Int)) from by decide)) (fun _ => ?_)
    refine g_aload_n hk dX12_alike_8 rfl ?_
    refine g_iload_n hk dX12_alike_9 rfl ?_
    refine g_callV (n := 1) hk (j147_X12_isQuery l D zt r g I A L z2 hIv) (SP.same _) (fun _ h => h) (gi_V (List.mem_cons_of_mem _ (List.mem_append_left _ (List.mem_of_getElem? (i := 0) rfl))) (List.mem_cons_of_mem _ (List.mem_append_left _ (List.mem_of_getElem? (i := 1) rfl))) (List.mem_cons_of_mem _ (List.mem_append_left _ (List.mem_of_getElem? (i := 2) rfl))) (List.mem_cons_of_mem _ (List.mem_append_left _ (List.mem_of_getElem? (i := 3) rfl))) (gi_sub (fun w h => (List.mem_cons_of_mem _ (List.mem_append_right _ (List.mem_append_right _ (List.mem_append_left _ h))))) zg_j147_X12_isQuery)) rfl rfl rfl (by decide +kernel) ⟨Nat.le_of_ble_eq_true rfl, Nat.le_of_ble_eq_true rfl⟩ 0 rfl rfl rfl rfl (Nat.le_of_ble_eq_true rfl) ⟨Nat.le_of_ble_eq_true rfl, Nat.le_of_ble_eq_true rfl⟩ dX12_alike_10 (fun v ty' w' hp hk' => ?_)
    rcases hp with ⟨rfl, rfl⟩ | ⟨c22346, c22347, c22348, c22349, rfl, rfl⟩
    · skip
      show GW κ 3 0 0 (wM r g I A L) 13 [(0, .ref (r 0)), (1, .int z1), (2, .int z2)] [.int 0]
      refine g_if_ne (tgt := 18) (a := 0) hk dX12_alike_13 (by decide) rfl (fun z9 => absurd z9 (show ¬ ((0 : Int) ≠ (0 : Int)) from by decide)) (fun _ => ?_)
      refine g_iconst (v := (-1)) hk dX12_alike_16 (by decide) ?_
      exact g_iret hk hR rfl ⟨I, A, L, (show Md [18, 19, 20] I I from Md.rf), (show Md [18, 19, 20, 21] A A from Md.rf), hIv, (-1), rfl, rfl⟩ dX12_alike_17
    · skip
      have f22351 : 0 ≤ (A 11 (5 * (I 15) + z2).toNatClampNeg).toInt ∧ (A 11 (5 * (I 15) + z2).toNatClampNeg).toInt ≤ 16 := IvM_a11 hIv _
      show GW κ 3 0 0 (wM r g I A L) 13 [(0, .ref (r 0)), (1, .int z1), (2, .int z2)] [.int 1]
      refine g_if_ne (tgt := 18) (a := 1) hk dX12_alike_13 (by decide) rfl (fun _ => ?_) (fun z9 => absurd (show (1 : Int) ≠ (0 : Int) from by decide) z9)
      refine g_aload_n hk dX12_alike_18 rfl ?_
      refine g_iload_n hk dX12_alike_19 rfl ?_
      refine g_callV (n := 1) hk (j148_X12_wideOf l D zt r g I A L z1 hIv (by omega) (by omega)) (SP.same _) (fun _ h => h) (gi_V (List.mem_cons_of_mem _ (List.mem_append_left _ (List.mem_of_getElem? (i := 4) rfl))) (List.mem_cons_of_mem _ (List.mem_append_left _ (List.mem_of_getElem? (i := 5) rfl))) (List.mem_cons_of_mem _ (List.mem_append_left _ (List.mem_of_getElem? (i := 6) rfl))) (List.mem_cons_of_mem _ (List.mem_append_left _ (List.mem_of_getElem? (i := 3) rfl))) (gi_sub (fun w h => (List.mem_cons_of_mem _ (List.mem_append_right _ (List.mem_append_right _ (List.mem_append_right _ (List.mem_append_left _ h)))))) zg_j148_X12_wideOf)) rfl rfl rfl (by decide +kernel) ⟨Nat.le_of_ble_eq_true rfl, Nat.le_of_ble_eq_true rfl⟩ 0 rfl rfl rfl rfl (Nat.le_of_ble_eq_true rfl) ⟨Nat.le_of_ble_eq_true rfl, Nat.le_of_ble_eq_true rfl⟩ dX12_alike_20 (fun v ty' w' hp hk' => ?_)
      obtain ⟨rfl, rfl⟩ := hp
      show GW κ 3 0 0 (wM r g I A L) 23 [(0, .ref (r 0)), (1, .int z1), (2, .int z2)] [.int (A 11 (5 * (I 15) + z1).toNatClampNeg)]
      refine g_aload_n hk dX12_alike_23 rfl ?_
      refine g_iload_n hk dX12_alike_24 rfl ?_
      refine g_callV (n := 1) hk (j148_X12_wideOf l D zt r g I A L z2 hIv (by omega) (by omega)) (SP.same _) (fun _ h => h) (gi_V (List.mem_cons_of_mem _ (List.mem_append_left _ (List.mem_of_getElem? (i := 4) rfl))) (List.mem_cons_of_mem _ (List.mem_append_left _ (List.mem_of_getElem? (i := 5) rfl))) (List.mem_cons_of_mem _ (List.mem_append_left _ (List.mem_of_getElem? (i := 6) rfl))) (List.mem_cons_of_mem _ (List.mem_append_left _ (List.mem_of_getElem? (i := 3) rfl))) (gi_sub (fun w h => (List.mem_cons_of_mem _ (List.mem_append_right _ (List.mem_append_right _ (List.mem_append_right _ (List.mem_append_left _ h)))))) zg_j148_X12_wideOf)) rfl rfl rfl (by decide +kernel) ⟨Nat.le_of_ble_eq_true rfl, Nat.le_of_ble_eq_true rfl⟩ 0 rfl rfl rfl rfl (Nat.le_of_ble_eq_true rfl) ⟨Nat.le_of_ble_eq_true rfl, Nat.le_of_ble_eq_true rfl⟩ dX12_alike_25 (fun v ty' w' hp hk' => ?_)
      obtain ⟨rfl, rfl⟩ := hp
      show GW κ 3 0 0 (wM r g I A L) 28 [(0, .ref (r 0)), (1, .int z1), (2, .int z2)] [.int (A 11 (5 * (I 15) + z2).toNatClampNeg), .int (A 11 (5 * (I 15) + z1).toNatClampNeg)]
      refine g_icmp_eq (tgt := 34) (a := (A 11 (5 * (I 15) + z1).toNatClampNeg).toInt) (b := (A 11 (5 * (I 15) + z2).toNatClampNeg).toInt) hk dX12_alike_28 (by decide) rfl rfl (fun c22352 => ?_) (fun c22352 => ?_)
      · skip
        refine g_aload_n hk dX12_alike_34 rfl ?_
        refine g_callV (n := 0) hk (j151_X12_copies l D zt r g I A L  hIv) (SP.same _) (fun _ h => h) (gi_V (List.mem_cons_of_mem _ (List.mem_append_left _ (List.mem_of_getElem? (i := 7) rfl))) (List.mem_cons_of_mem _ (List.mem_append_left _ (List.mem_of_getElem? (i := 8) rfl))) (List.mem_cons_of_mem _ (List.mem_append_left _ (List.mem_of_getElem? (i := 9) rfl))) (List.mem_cons_of_mem _ (List.mem_append_left _ (List.mem_of_getElem? (i := 3) rfl))) (gi_sub (fun w h => (List.mem_cons_of_mem _ (List.mem_append_right _ (List.mem_append_right _ (List.mem_append_right _ (List.mem_append_right _ (List.mem_append_left _ h))))))) zg_j151_X12_copies)) rfl rfl rfl (by decide +kernel) ⟨Nat.le_of_ble_eq_true rfl, Nat.le_of_ble_eq_true rfl⟩ 0 rfl rfl rfl rfl (Nat.le_of_ble_eq_true rfl) ⟨Nat.le_of_ble_eq_true rfl, Nat.le_of_ble_eq_true rfl⟩ dX12_alike_35 (fun v ty' w' hp hk' => ?_)
        obtain ⟨I22354, A22354, L22354, hI22354, hA22354, hV22354, r22355, r22356, rfl, rfl⟩ := hp
        have f22357 := IvM_s17_0 hIv
        have f22358 := IvM_s17_164 hIv
        show GW κ 3 0 0 (wM r g I22354 A22354 L22354) 38 [(0, .ref (r 0)), (1, .int z1), (2, .int z2)] []
        refine g_aload_n hk dX12_alike_38 rfl ?_
        refine g_aload_n hk dX12_alike_39 rfl ?_
        refine g_iload_n hk dX12_alike_40 rfl ?_
        refine g_callV (n := 1) hk (j148_X12_wideOf l D zt r g I22354 A22354 L22354 z1 hV22354 (by omega) (by omega)) (SP.same _) (fun _ h => h) (gi_V (List.mem_cons_of_mem _ (List.mem_append_left _ (List.mem_of_getElem? (i := 4) rfl))) (List.mem_cons_of_mem _ (List.mem_append_left _ (List.mem_of_getElem? (i := 5) rfl))) (List.mem_cons_of_mem _ (List.mem_append_left _ (List.mem_of_getElem? (i := 6) rfl))) (List.mem_cons_of_mem _ (List.mem_append_left _ (List.mem_of_getElem? (i := 3) rfl))) (gi_sub (fun w h => (List.mem_cons_of_mem _ (List.mem_append_right _ (List.mem_append_right _ (List.mem_append_right _ (List.mem_append_left _ h)))))) zg_j148_X12_wideOf)) rfl rfl rfl (by decide +kernel) ⟨Nat.le_of_ble_eq_true rfl, Nat.le_of_ble_eq_true rfl⟩ 0 rfl rfl rfl rfl (Nat.le_of_ble_eq_true rfl) ⟨Nat.le_of_ble_eq_true rfl, Nat.le_of_ble_eq_true rfl⟩ dX12_alike_41 (fun v ty' w' hp hk' => ?_)
        obtain ⟨rfl, rfl⟩ := hp
        show GW κ 3 0 0 (wM r g I22354 A22354 L22354) 44 [(0, .ref (r 0)), (1, .int z1), (2, .int z2)] [.int (A22354 11 (5 * (I22354 15) + z1).toNatClampNeg), .ref (r 0)]
        refine g_norm (v := (A 11 (5 * (I 15) + z1).toNatClampNeg)) (by rw [show I22354 15 = (I 15) from (hI22354 15 rfl)]; exact (congrFun (hA22354 11 rfl) _)) ?_
        refine pM_i18 hk hin12 (List.mem_cons_of_mem _ (List.mem_append_left _ (List.mem_of_getElem? (i := 10) rfl))) dX12_alike_44 ?_
        refine g_aload_n hk dX12_alike_47 rfl ?_
        refine g_iload_n hk dX12_alike_48 rfl ?_
        refine g_callV (n := 1) hk (j172_X12_laysQuery l D zt r g (upd I22354 18 (A 11 (5 * (I 15) + z1).toNatClampNeg)) A22354 L22354 z2 ⟨(IvM_f1 (I := I22354) (A := A22354) hV22354), (IvM_f2 (I := I22354) (A := A22354) hV22354), (IvM_f3 (I := I22354) (A := A22354) hV22354), (IvM_f4 (I := I22354) (A := A22354) hV22354), (IvM_f6 (I := I22354) (A := A22354) hV22354), (IvM_f8 (I := I22354) (A := A22354) hV22354), (IvM_f15 (I := I22354) (A := A22354) hV22354), (IvM_f16 (I := I22354) (A := A22354) hV22354), (IvM_f17 (I := I22354) (A := A22354) hV22354), (show 0 ≤ (A 11 (5 * (I 15) + z1).toNatClampNeg).toInt ∧ (A 11 (5 * (I 15) + z1).toNatClampNeg).toInt ≤ 16 from ⟨by omega, by omega⟩), (IvM_f22 (I := I22354) (A := A22354) hV22354), (IvM_f23 (I := I22354) (A := A22354) hV22354), (IvM_f24 (I := I22354) (A := A22354) hV22354), (IvM_a11 (I := I22354) (A := A22354) hV22354), (IvM_a26 (I := I22354) (A := A22354) hV22354), (IvM_s8_0 (I := I22354) (A := A22354) hV22354), (IvM_s8_1 (I := I22354) (A := A22354) hV22354), (IvM_s10_0 (I := I22354) (A := A22354) hV22354), (IvM_s10_1 (I := I22354) (A := A22354) hV22354), (IvM_s17_0 (I := I22354) (A := A22354) hV22354), (IvM_s17_164 (I := I22354) (A := A22354) hV22354), (IvM_lv (I := I22354) (A := A22354) hV22354), (IvM_sd (I := I22354) (A := A22354) hV22354), (IvM_nq (I := I22354) (A := A22354) hV22354), (IvM_hr (I := I22354) (A := A22354) hV22354), (IvM_hh (I := I22354) (A := A22354) hV22354), trivial⟩ (by omega) (by omega) (by first | (rw [show (A22354 11 (5 * ((upd I22354 18 (A 11 (5 * (I 15) + z1).toNatClampNeg)) 15) + z2).toNatClampNeg) = (A 11 (5 * (I 15) + z2).toNatClampNeg) from (by rw [show (upd I22354 18 (A 11 (5 * (I 15) + z1).toNatClampNeg)) 15 = (I 15) from (hI22354 15 rfl)]; exact (congrFun (hA22354 11 rfl) _))] <;> omega) | omega)) (SP.same _) (fun _ h => h) (gi_V (List.mem_cons_of_mem _ (List.mem_append_left _ (List.mem_of_getElem? (i := 11) rfl))) (List.mem_cons_of_mem _ (List.mem_append_left _ (List.mem_of_getElem? (i := 12) rfl))) (List.mem_cons_of_mem _ (List.mem_append_left _ (List.mem_of_getElem? (i := 13) rfl))) (List.mem_cons_of_mem _ (List.mem_append_left _ (List.mem_of_getElem? (i := 3) rfl))) (gi_sub (fun w h => (List.mem_cons_of_mem _ (List.mem_append_right _ (List.mem_append_right _ (List.mem_append_right _ (List.mem_append_right _ (List.mem_append_right _ (List.mem_append_left _ h)))))))) zg_j172_X12_laysQuery)) rfl rfl rfl (by decide +kernel) ⟨Nat.le_of_ble_eq_true rfl, Nat.le_of_ble_eq_true rfl⟩ 0 rfl rfl rfl rfl (Nat.le_of_ble_eq_true rfl) ⟨Nat.le_of_ble_eq_true rfl, Nat.le_of_ble_eq_true rfl⟩ dX12_alike_49 (fun v ty' w' hp hk' => ?_)
        obtain ⟨I22360, A22360, L22360, hI22360, hA22360, hV22360, rfl, rfl⟩ := hp
        show GW κ 3 0 0 (wM r g I22360 A22360 L22360) 52 [(0, .ref (r 0)), (1, .int z1), (2, .int z2)] []
        refine g_aload_n hk dX12_alike_52 rfl ?_
        refine g_aload_n hk dX12_alike_53 rfl ?_
        refine gM_i18 (v := (A 11 (5 * (I 15) + z1).toNatClampNeg)) hk hin12 (List.mem_cons_of_mem _ (List.mem_append_left _ (List.mem_of_getElem? (i := 10) rfl))) dX12_alike_54 (hI22360 18 rfl) ?_
        refine g_callV (n := 1) hk (j171_X12_changesBoth l D zt r g I22360 A22360 L22360 (A 11 (5 * (I 15) + z1).toNatClampNeg) hV22360 (by omega) (by omega)) (SP.same _) (fun _ h => h) (gi_V (List.mem_cons_of_mem _ (List.mem_append_left _ (List.mem_of_getElem? (i := 14) rfl))) (List.mem_cons_of_mem _ (List.mem_append_left _ (List.mem_of_getElem? (i := 15) rfl))) (List.mem_cons_of_mem _ (List.mem_append_left _ (List.mem_of_getElem? (i := 16) rfl))) (List.mem_cons_of_mem _ (List.mem_append_left _ (List.mem_of_getElem? (i := 3) rfl))) (gi_sub (fun w h => (List.mem_cons_of_mem _ (List.mem_append_right _ (List.mem_append_right _ (List.mem_append_right _ (List.mem_append_right _ (List.mem_append_right _ (List.mem_append_right _ (List.mem_append_left _ h))))))))) zg_j171_X12_changesBoth)) rfl rfl rfl (by decide +kernel) ⟨Nat.le_of_ble_eq_true rfl, Nat.le_of_ble_eq_true rfl⟩ 0 rfl rfl rfl rfl (Nat.le_of_ble_eq_true rfl) ⟨Nat.le_of_ble_eq_true rfl, Nat.le_of_ble_eq_true rfl⟩ dX12_alike_57 (fun v ty' w' hp hk' => ?_)
        obtain ⟨I22362, A22362, L22362, hI22362, hA22362, hV22362, rfl, rfl⟩ := hp
        show GW κ 3 0 0 (wM r g I22362 A22362 L22362) 60 [(0, .ref (r 0)), (1, .int z1), (2, .int z2)] []
        refine g_aload_n hk dX12_alike_60 rfl ?_
        refine g_iload_n hk dX12_alike_61 rfl ?_
        refine g_callV (n := 1) hk (j172_X12_laysQuery l D zt r g I22362 A22362 L22362 z1 hV22362 (by omega) (by omega) (by first | (rw [show (A22362 11 (5 * (I22362 15) + z1).toNatClampNeg) = (A 11 (5 * (I 15) + z1).toNatClampNeg) from (by rw [show I22362 15 = (I 15) from ((hI22362 15 rfl).trans ((hI22360 15 rfl).trans (hI22354 15 rfl)))]; exact ((congrFun (hA22362 11 rfl) _).trans ((congrFun (hA22360 11 rfl) _).trans (congrFun (hA22354 11 rfl) _))))] <;> omega) | omega)) (SP.same _) (fun _ h => h) (gi_V (List.mem_cons_of_mem _ (List.mem_append_left _ (List.mem_of_getElem? (i := 11) rfl))) (List.mem_cons_of_mem _ (List.mem_append_left _ (List.mem_of_getElem? (i := 12) rfl))) (List.mem_cons_of_mem _ (List.mem_append_left _ (List.mem_of_getElem? (i := 13) rfl))) (List.mem_cons_of_mem _ (List.mem_append_left _ (List.mem_of_getElem? (i := 3) rfl))) (gi_sub (fun w h => (List.mem_cons_of_mem _ (List.mem_append_right _ (List.mem_append_right _ (List.mem_append_right _ (List.mem_append_right _ (List.mem_append_right _ (List.mem_append_left _ h)))))))) zg_j172_X12_laysQuery)) rfl rfl rfl (by decide +kernel) ⟨Nat.le_of_ble_eq_true rfl, Nat.le_of_ble_eq_true rfl⟩ 0 rfl rfl rfl rfl (Nat.le_of_ble_eq_true rfl) ⟨Nat.le_of_ble_eq_true rfl, Nat.le_of_ble_eq_true rfl⟩ dX12_alike_62 (fun v ty' w' hp hk' => ?_)
        obtain ⟨I22364, A22364, L22364, hI22364, hA22364, hV22364, rfl, rfl⟩ := hp
        show GW κ 3 0 0 (wM r g I22364 A22364 L22364) 65 [(0, .ref (r 0)), (1, .int z1), (2, .int z2)] []
        refine g_aload_n hk dX12_alike_65 rfl ?_
        refine g_ldcw (v := 2000000000) hk (List.mem_cons_of_mem _ (List.mem_append_left _ (List.mem_of_getElem? (i := 17) rfl))) dX12_alike_66 ?_
        have k22365 : (2000000000 : Int32).toInt = 2000000000 := rfl
        refine g_callV (n := 1) hk (j173_X12_laysTable l D zt r g I22364 A22364 L22364 2000000000 hV22364) (SP.same _) (fun _ h => h) (gi_V (List.mem_cons_of_mem _ (List.mem_append_left _ (List.mem_of_getElem? (i := 18) rfl))) (List.mem_cons_of_mem _ (List.mem_append_left _ (List.mem_of_getElem? (i := 19) rfl))) (List.mem_cons_of_mem _ (List.mem_append_left _ (List.mem_of_getElem? (i := 20) rfl))) (List.mem_cons_of_mem _ (List.mem_append_left _ (List.mem_of_getElem? (i := 3) rfl))) (gi_sub (fun w h => (List.mem_cons_of_mem _ (List.mem_append_right _ (List.mem_append_right _ (List.mem_append_right _ (List.mem_append_right _ (List.mem_append_right _ (List.mem_append_right _ (List.mem_append_right _ (List.mem_append_left _ h)))))))))) zg_j173_X12_laysTable)) rfl rfl rfl (by decide +kernel) ⟨Nat.le_of_ble_eq_true rfl, Nat.le_of_ble_eq_true rfl⟩ 0 rfl rfl rfl rfl (Nat.le_of_ble_eq_true rfl) ⟨Nat.le_of_ble_eq_true rfl, Nat.le_of_ble_eq_true rfl⟩ dX12_alike_69 (fun v ty' w' hp hk' => ?_)
        obtain ⟨I22367, A22367, L22367, hI22367, hA22367, hV22367, y22366, rfl, rfl⟩ := hp
        show GW κ 3 0 0 (wM r g I22367 A22367 L22367) 72 [(0, .ref (r 0)), (1, .int z1), (2, .int z2)] [.int y22366]
        have b22368l := Int32.le_toInt y22366
        have b22368h := Int32.toInt_lt y22366
        exact g_iret hk hR rfl ⟨I22367, A22367, L22367, (show Md [18, 19, 20] I I22367 from (Md.tr (Md.tr (Md.tr (Md.tr (Md.up (Md.tr Md.rf hI22354 rfl) rfl) hI22360 rfl) hI22362 rfl) hI22364 rfl) hI22367 rfl)), (show Md [18, 19, 20, 21] A A22367 from (Md.tr (Md.tr (Md.tr (Md.tr (Md.tr Md.rf hA22354 rfl) hA22360 rfl) hA22362 rfl) hA22364 rfl) hA22367 rfl)), hV22367, y22366, rfl, rfl⟩ dX12_alike_72
      · skip
        refine g_bipush (v := (-2)) hk dX12_alike_31 (by decide) ?_
        exact g_iret hk hR rfl ⟨I, A, L, (show Md [18, 19, 20] I I from Md.rf), (show Md [18, 19, 20, 21] A A from Md.rf), hIv, (-2), rfl, rfl⟩ dX12_alike_33
def wo_j200_X12_laysWindows : List Cond := [Cond.fieldLink RX12 267 "WarpDeskModel" "wide" "I", Cond.methodLink RX12 270 yX12_laysWindow, Cond.instanceMethod yX12_laysWindow, Cond.selects RX12 yX12_laysWindow yX12_laysWindow, Cond.initialized RX12, Cond.methodLink RX12 273 yX12_changesBoth, Cond.instanceMethod yX12_changesBoth, Cond.selects RX12 yX12_changesBoth yX12_changesBoth]
def wz_j200_X12_laysWindows : List Cond := .code yX12_laysWindows cX12_laysWindows 4 none :: (wo_j200_X12_laysWindows ++ (wsX120 ++ (wz_j165_X12_laysWindow ++ (wz_j171_X12_changesBoth ++ ([] : List Cond)))))
theorem zg_j200_X12_laysWindows : ∀ w ∈ wz_j200_X12_laysWindows, goodWord w = true := zg_cons rfl (zg_app (by decide +kernel) (zg_app zgU_wsX120 (zg_app zg_j165_X12_laysWindow (zg_app zg_j171_X12_changesBoth zg_nil))))
theorem zi_j200_X12_laysWindows : ∀ w ∈ wz_j200_X12_laysWindows, w ∈ lw_tbl := zi_cons zw_1926 (zi_app (zi_cons zw_1415 (zi_cons zw_1735 (zi_cons zw_1737 (zi_cons zw_76 (zi_cons zw_115 (zi_cons zw_1767 (zi_cons zw_1769 (zi_cons zw_81 zi_nil)))))))) (zi_app inX12 (zi_app zi_j165_X12_laysWindow (zi_app zi_j171_X12_changesBoth zi_nil))))
set_option maxHeartbeats 4000000 in
set_option maxRecDepth 100000 in
theorem j200_X12_laysWindows (l : Launch) (D : va_G) (zt : Nat × Nat × Nat × (Nat → Nat) × (Nat → Nat)) (r : Nat → Nat) (g : Nat → ClassId) (I : Nat → Int32) (A : Nat → Nat → Int32) (L : Nat → Nat → Int64) (z1 : Int32) (z2 : Int32) (z3 : Int32) (hIv : IvM I A) (hp0 : 0 ≤ z1.toInt) (hp1 : z1.toInt ≤ 159) (hp2 : 0 ≤ z2.toInt) (hp3 : z2.toInt ≤ 159) (hp4 : 1 ≤ z3.toInt) (hp5 : z3.toInt ≤ 16) (hp6 : z1.toInt + z3.toInt ≤ 160) (hp7 : z2.toInt + z3.toInt ≤ 160) : GM l D zt (tyM g) yX12_laysWindows wz_j200_X12_laysWindows ({ frames := 3, cells := 0, slots := 0, locals := 72 } : Room) [.ref (r 0), .int z1, .int z2, .int z3] (wM r g I A L) (fun v _ w' => ∃ (I' : Nat → Int32) (A' : Nat → Nat → Int32) (L' : Nat → Nat → Int64), Md [18] I I' ∧ Md [19, 20] A A' ∧ IvM I' A' ∧ (1 ≤ (I' 18).toInt) ∧ v = none ∧ w' = wM r g I' A' L') 0 0 := by
  refine GM.of (cc := cX12_laysWindows) (maxL := 4) (ret := none) (own := RX12) (lv := [(0, .ref (r 0)), (1, .int z1), (2, .int z2), (3, .int z3)]) (by decide) rfl rfl (Nat.le_of_ble_eq_true rfl) rfl (fun κ sz hk hR hN => ?_)
  have hin12 : ∀ w ∈ u_ws RX12 TX12 55, w ∈ wz_j200_X12_laysWindows := fun w h => (List.mem_cons_of_mem _ (List.mem_append_right _ (List.mem_append_left _ h)))
  refine g_aload_n hk dX12_laysWindows_0 rfl ?_
  refine g_iload_n hk dX12_laysWindows_1 rfl ?_
  refine pM_i18 hk hin12 (List.mem_cons_of_mem _ (List.mem_append_left _ (List.mem_of_getElem? (i := 0) rfl))) dX12_laysWindows_2 ?_
  refine g_aload_n hk dX12_laysWindows_5 rfl ?_
  refine g_iload_n hk dX12_laysWindows_6 rfl ?_
  refine g_iload_n hk dX12_laysWindows_7 rfl ?_
  refine g_callV (n := 2) hk (j165_X12_laysWindow l D zt r g (upd I 18 z3) A L z2 z3 ⟨(IvM_f1 (I := I) (A := A) hIv), (IvM_f2 (I := I) (A := A) hIv), (IvM_f3 (I := I) (A := A) hIv), (IvM_f4 (I := I) (A := A) hIv), (IvM_f6 (I := I) (A := A) hIv), (IvM_f8 (I := I) (A := A) hIv), (IvM_f15 (I := I) (A := A) hIv), (IvM_f16 (I := I) (A := A) hIv), (IvM_f17 (I := I) (A := A) hIv), (show 0 ≤ z3.toInt ∧ z3.toInt ≤ 16 from ⟨by omega, by omega⟩), (IvM_f22 (I := I) (A := A) hIv), (IvM_f23 (I := I) (A := A) hIv), (IvM_f24 (I := I) (A := A) hIv), (IvM_a11 (I := I) (A := A) hIv), (IvM_a26 (I := I) (A := A) hIv), (IvM_s8_0 (I := I) (A := A) hIv), (IvM_s8_1 (I := I) (A := A) hIv), (IvM_s10_0 (I := I) (A := A) hIv), (IvM_s10_1 (I := I) (A := A) hIv), (IvM_s17_0 (I := I) (A := A) hIv), (IvM_s17_164 (I := I) (A := A) hIv), (IvM_lv (I := I) (A := A) hIv), (IvM_sd (I := I) (A := A) hIv), (IvM_nq (I := I) (A := A) hIv), (IvM_hr (I := I) (A := A) hIv), (IvM_hh (I := I) (A := A) hIv), trivial⟩ (by omega) (by omega) (by omega) (by omega) (by omega)) (SP.same _) (fun _ h => h) (gi_V (List.mem_cons_of_mem _ (List.mem_append_left _ (List.mem_of_getElem? (i := 1) rfl))) (List.mem_cons_of_mem _ (List.mem_append_left _ (List.mem_of_getElem? (i := 2) rfl))) (List.mem_cons_of_mem _ (List.mem_append_left _ (List.mem_of_getElem? (i := 3) rfl))) (List.mem_cons_of_mem _ (List.mem_append_left _ (List.mem_of_getElem? (i := 4) rfl))) (gi_sub (fun w h => (List.mem_cons_of_mem _ (List.mem_append_right _ (List.mem_append_right _ (List.mem_append_left _ h))))) zg_j165_X12_laysWindow)) rfl rfl rfl (by decide +kernel) ⟨Nat.le_of_ble_eq_true rfl, Nat.le_of_ble_eq_true rfl⟩ 0 rfl rfl rfl rfl (Nat.le_of_ble_eq_true rfl) ⟨Nat.le_of_ble_eq_true rfl, Nat.le_of_ble_eq_true rfl⟩ dX12_laysWindows_8 (fun v ty' w' hp hk' => ?_)
  obtain ⟨I22427, A22427, L22427, hI22427, hA22427, hV22427, rfl, rfl⟩ := hp
  show GW κ 4 0 0 (wM r g I22427 A22427 L22427) 11 [(0, .ref (r 0)), (1, .int z1), (2, .int z2), (3, .int z3)] []
  refine g_aload_n hk dX12_laysWindows_11 rfl ?_
  refine g_iload_n hk dX12_laysWindows_12 rfl ?_
  refine g_callV (n := 1) hk (j171_X12_changesBoth l D zt r g I22427 A22427 L22427 z3 hV22427 (by omega) (by omega)) (SP.same _) (fun _ h => h) (gi_V (List.mem_cons_of_mem _ (List.mem_append_left _ (List.mem_of_getElem? (i := 5) rfl))) (List.mem_cons_of_mem _ (List.mem_append_left _ (List.mem_of_getElem? (i := 6) rfl))) (List.mem_cons_of_mem _ (List.mem_append_left _ (List.mem_of_getElem? (i := 7) rfl))) (List.mem_cons_of_mem _ (List.mem_append_left _ (List.mem_of_getElem? (i := 4) rfl))) (gi_sub (fun w h => (List.mem_cons_of_mem _ (List.mem_append_right _ (List.mem_append_right _ (List.mem_append_right _ (List.mem_append_left _ h)))))) zg_j171_X12_changesBoth)) rfl rfl rfl (by decide +kernel) ⟨Nat.le_of_ble_eq_true rfl, Nat.le_of_ble_eq_true rfl⟩ 0 rfl rfl rfl rfl (Nat.le_of_ble_eq_true rfl) ⟨Nat.le_of_ble_eq_true rfl, Nat.le_of_ble_eq_true rfl⟩ dX12_laysWindows_13 (fun v ty' w' hp hk' => ?_)
  obtain ⟨I22429, A22429, L22429, hI22429, hA22429, hV22429, rfl, rfl⟩ := hp
  show GW κ 4 0 0 (wM r g I22429 A22429 L22429) 16 [(0, .ref (r 0)), (1, .int z1), (2, .int z2), (3, .int z3)] []
  refine g_aload_n hk dX12_laysWindows_16 rfl ?_
  refine g_iload_n hk dX12_laysWindows_17 rfl ?_
  refine g_iload_n hk dX12_laysWindows_18 rfl ?_
  refine g_callV (n := 2) hk (j165_X12_laysWindow l D zt r g I22429 A22429 L22429 z1 z3 hV22429 (by omega) (by omega) (by omega) (by omega) (by omega)) (SP.same _) (fun _ h => h) (gi_V (List.mem_cons_of_mem _ (List.mem_append_left _ (List.mem_of_getElem? (i := 1) rfl))) (List.mem_cons_of_mem _ (List.mem_append_left _ (List.mem_of_getElem? (i := 2) rfl))) (List.mem_cons_of_mem _ (List.mem_append_left _ (List.mem_of_getElem? (i := 3) rfl))) (List.mem_cons_of_mem _ (List.mem_append_left _ (List.mem_of_getElem? (i := 4) rfl))) (gi_sub (fun w h => (List.mem_cons_of_mem _ (List.mem_append_right _ (List.mem_append_right _ (List.mem_append_left _ h))))) zg_j165_X12_laysWindow)) rfl rfl rfl (by decide +kernel) ⟨Nat.le_of_ble_eq_true rfl, Nat.le_of_ble_eq_true rfl⟩ 0 rfl rfl rfl rfl (Nat.le_of_ble_eq_true rfl) ⟨Nat.le_of_ble_eq_true rfl, Nat.le_of_ble_eq_true rfl⟩ dX12_laysWindows_19 (fun v ty' w' hp hk' => ?_)
  obtain ⟨I22431, A22431, L22431, hI22431, hA22431, hV22431, rfl, rfl⟩ := hp
  show GW κ 4 0 0 (wM r g I22431 A22431 L22431) 22 [(0, .ref (r 0)), (1, .int z1), (2, .int z2), (3, .int z3)] []
  exact g_vret hk hR ⟨I22431, A22431, L22431, (show Md [18] I I22431 from (Md.tr (Md.tr (Md.tr (Md.up Md.rf rfl) hI22427 rfl) hI22429 rfl) hI22431 rfl)), (show Md [19, 20] A A22431 from (Md.tr (Md.tr (Md.tr Md.rf hA22427 rfl) hA22429 rfl) hA22431 rfl)), hV22431, (by rw [show (I22431 18) = z3 from ((hI22431 18 rfl).trans ((hI22429 18 rfl).trans (hI22427 18 rfl)))] <;> omega), rfl, rfl⟩ dX12_laysWindows_22
def wo_j199_X12_nearOf : List Cond := [Cond.fieldLink RX12 381 "WarpDeskModel" "nearFar" "I", Cond.fieldLink RX12 70 "WarpDeskModel" "now" "[I", Cond.methodLink RX12 244 yX12_in, Cond.static yX12_in, Cond.initialized RX12, Cond.methodLink RX12 257 yX12_isWindow, Cond.instanceMethod yX12_isWindow, Cond.selects RX12 yX12_isWindow yX12_isWindow, Cond.methodLink RX12 384 yX12_laysWindows, Cond.instanceMethod yX12_laysWindows, Cond.selects RX12 yX12_laysWindows yX12_laysWindows, Cond.constant RX12 282 (2000000000), Cond.methodLink RX12 304 yX12_laysTable, Cond.instanceMethod yX12_laysTable, Cond.selects RX12 yX12_laysTable yX12_laysTable]
def wz_j199_X12_nearOf : List Cond := .code yX12_nearOf cX12_nearOf 6 (some .int) :: (wo_j199_X12_nearOf ++ (wsX120 ++ (wz_j145_X12_in ++ (wz_j160_X12_isWindow ++ (wz_j200_X12_laysWindows ++ (wz_j173_X12_laysTable ++ ([] : List Cond)))))))
theorem zg_j199_X12_nearOf : ∀ w ∈ wz_j199_X12_nearOf, goodWord w = true := zg_cons rfl (zg_app (by decide +kernel) (zg_app zgU_wsX120 (zg_app zg_j145_X12_in (zg_app zg_j160_X12_isWindow (zg_app zg_j200_X12_laysWindows (zg_app zg_j173_X12_laysTable zg_nil))))))
theorem zi_j199_X12_nearOf : ∀ w ∈ wz_j199_X12_nearOf, w ∈ lw_tbl := zi_cons zw_1922 (zi_app (zi_cons zw_1430 (zi_cons zw_1413 (zi_cons zw_1656 (zi_cons zw_1657 (zi_cons zw_115 (zi_cons zw_1714 (zi_cons zw_1716 (zi_cons zw_72 (zi_cons zw_1923 (zi_cons zw_1925 (zi_cons zw_100 (zi_cons zw_1775 (zi_cons zw_1776 (zi_cons zw_1778 (zi_cons zw_83 zi_nil))))))))))))))) (zi_app inX12 (zi_app zi_j145_X12_in (zi_app zi_j160_X12_isWindow (zi_app zi_j200_X12_laysWindows (zi_app zi_j173_X12_laysTable zi_nil))))))
set_option maxHeartbeats 4000000 in
set_option maxRecDepth 100000 in
theorem j199_X12_nearOf (l : Launch) (D : va_G) (zt : Nat × Nat × Nat × (Nat → Nat) × (Nat → Nat)) (r : Nat → Nat) (g : Nat → ClassId) (I : Nat → Int32) (A : Nat → Nat → Int32) (L : Nat → Nat → Int64) (z1 : Int32) (z2 : Int32) (hIv : IvM I A) (hp0 : 0 ≤ z1.toInt) (hp1 : z1.toInt ≤ 159) (hp2 : 2 ≤ z2.toInt) (hp3 : z2.toInt ≤ 16) (hp4 : z1.toInt + z2.toInt ≤ 160) : GM l D zt (tyM g) yX12_nearOf wz_j199_X12_nearOf ({ frames := 5, cells := 0, slots := 0, locals := 112 } : Room) [.ref (r 0), .int z1, .int z2] (wM r g I A L) (fun v _ w' => ∃ (I' : Nat → Int32) (A' : Nat → Nat → Int32) (L' : Nat → Nat → Int64), Md [18, 19, 20, 25] I I' ∧ Md [19, 20, 21] A A' ∧ IvM I' A' ∧ ∃ y0 : Int32, ((-2) ≤ y0.toInt) ∧ (y0.toInt ≤ 159) ∧ v = some (.int y0) ∧ w' = wM r g I' A' L') 0 0 := by
  refine GM.of (cc := cX12_nearOf) (maxL := 6) (ret := (some .int)) (own := RX12) (lv := [(0, .ref (r 0)), (1, .int z1), (2, .int z2)]) (by decide) rfl rfl (Nat.le_of_ble_eq_true rfl) rfl (fun κ sz hk hR hN => ?_)
  have hin12 : ∀ w ∈ u_ws RX12 TX12 55, w ∈ wz_j199_X12_nearOf := fun w h => (List.mem_cons_of_mem _ (List.mem_append_right _ (List.mem_append_left _ h)))
  refine g_bipush (v := (-2)) hk dX12_nearOf_0 (by decide) ?_
  refine g_istore_n (lv' := [(3, .int (-2)), (0, .ref (r 0)), (1, .int z1), (2, .int z2)]) hk dX12_nearOf_2 (by decide) rfl ?_
  refine g_aload_n hk dX12_nearOf_3 rfl ?_
  refine g_bipush (v := (-2)) hk dX12_nearOf_4 (by decide) ?_
  refine pM_i25 hk hin12 (List.mem_cons_of_mem _ (List.mem_append_left _ (List.mem_of_getElem? (i := 0) rfl))) dX12_nearOf_6 ?_
  refine g_iconst (v := 0) hk dX12_nearOf_9 (by decide) ?_
  refine g_istore (lv' := [(4, .int 0), (3, .int (-2)), (0, .ref (r 0)), (1, .int z1), (2, .int z2)]) hk dX12_nearOf_10 (by decide) rfl ?_
  have lp22585 : ∀ (n22586 : Nat) (x22400 : Int32) (x22401 : Int32) (I22405 : Nat → Int32) (A22405 : Nat → Nat → Int32) (L22405 : Nat → Nat → Int64), (Md [18, 19, 20, 25] (upd I 25 (-2)) I22405) → (Md [19, 20, 21] A A22405) → (IvM I22405 A22405) → (0 ≤ x22400.toInt) → (x22400.toInt ≤ 160) → ((-2) ≤ x22401.toInt) → (x22401.toInt ≤ 159) → (161 - x22400.toInt < (n22586 : Int)) → (0 < n22586) → GW κ 6 0 0 (wM r g I22405 A22405 L22405) 12 [(4, .int x22400), (3, .int x22401), (0, .ref (r 0)), (1, .int z1), (2, .int z2)] [] := by
    intro n22586
    induction n22586 with
    | zero =>
      intro x22400 x22401 I22405 A22405 L22405 hI22405 hA22405 hV22405 h22581 h22582 h22583 h22584 m22587 m22587z
      exact absurd m22587z (Nat.lt_irrefl 0)
    | succ n22586 ih22588 =>
      intro x22400 x22401 I22405 A22405 L22405 hI22405 hA22405 hV22405 h22581 h22582 h22583 h22584 m22587 m22587z
      refine g_iload hk dX12_nearOf_12 rfl ?_
      refine g_aload_n hk dX12_nearOf_14 rfl ?_
      refine gM_r0_35 hk hin12 (List.mem_cons_of_mem _ (List.mem_append_left _ (List.mem_of_getElem? (i := 1) rfl))) dX12_nearOf_15 ?_
      refine g_iconst (v := 0) hk dX12_nearOf_18 (by decide) ?_
      refine lM_17 (v := (A 17 0)) hk (vp_in_iff.mpr ⟨by decide, by decide⟩) (congrFun (hA22405 17 rfl) _) dX12_nearOf_19 ?_
      have f22589 := IvM_s17_0 hIv
      refine g_icmp_ge (tgt := 100) (a := x22400.toInt) (b := (A 17 0).toInt) hk dX12_nearOf_20 (by decide) rfl rfl (fun c22590 => ?_) (fun c22590 => ?_)
      · skip
        refine g_iload_n hk dX12_nearOf_100 rfl ?_
        exact g_iret hk hR rfl ⟨I22405, A22405, L22405, (show Md [18, 19, 20, 25] I I22405 from (Md.tr (Md.up Md.rf rfl) hI22405 rfl)), (show Md [19, 20, 21] A A22405 from (Md.tr Md.rf hA22405 rfl)), hV22405, x22401, (by omega), (by omega), rfl, rfl⟩ dX12_nearOf_101
      · skip
        refine g_iload hk dX12_nearOf_23 rfl ?_
        refine g_iload_n hk dX12_nearOf_25 rfl ?_
        refine g_isub hk dX12_nearOf_26 ?_
        refine g_topi (fun y22591 ey22591 => ?_)
        have hy22591 : y22591.toInt = x22400.toInt - z1.toInt := i32_sub ey22591 rfl rfl (by omega) (by omega)
        refine g_iconst (v := 1) hk dX12_nearOf_27 (by decide) ?_
        refine g_iload_n hk dX12_nearOf_28 rfl ?_
        refine g_isub hk dX12_nearOf_29 ?_
        refine g_topi (fun y22592 ey22592 => ?_)
        have hy22592 : y22592.toInt = 1 - z2.toInt := i32_sub ey22592 rfl rfl (by omega) (by omega)
        refine g_iload_n hk dX12_nearOf_30 rfl ?_
        refine g_iconst (v := 1) hk dX12_nearOf_31 (by decide) ?_
        refine g_isub hk dX12_nearOf_32 ?_
        refine g_topi (fun y22593 ey22593 => ?_)
        have hy22593 : y22593.toInt = z2.toInt - 1 := i32_sub ey22593 rfl rfl (by omega) (by omega)
        refine g_callS (n := 3) hk (j145_X12_in l D zt r g I22405 A22405 L22405 y22591 y22592 y22593 hV22405) (SP.same _) (fun _ h => h) (gi_S (List.mem_cons_of_mem _ (List.mem_append_left _ (List.mem_of_getElem? (i := 2) rfl))) (List.mem_cons_of_mem _ (List.mem_append_left _ (List.mem_of_getElem? (i := 3) rfl))) (List.mem_cons_of_mem _ (List.mem_append_left _ (List.mem_of_getElem? (i := 4) rfl))) (gi_sub (fun w h => (List.mem_cons_of_mem _ (List.mem_append_right _ (List.mem_append_right _ (List.mem_append_left _ h))))) zg_j145_X12_in)) rfl rfl rfl (by decide +kernel) ⟨Nat.le_of_ble_eq_true rfl, Nat.le_of_ble_eq_true rfl⟩ rfl rfl (Nat.le_of_ble_eq_true rfl) ⟨Nat.le_of_ble_eq_true rfl, Nat.le_of_ble_eq_true rfl⟩ dX12_nearOf_33 (fun v ty' w' hp hk' => ?_)
        rcases hp with ⟨c22594, rfl, rfl⟩ | ⟨c22596, c22597, rfl, rfl⟩
        · skip
          show GW κ 6 0 0 (wM r g I22405 A22405 L22405) 36 [(4, .int x22400), (3, .int x22401), (0, .ref (r 0)), (1, .int z1), (2, .int z2)] [.int 0]
          refine g_if_ne (tgt := 94) (a := 0) hk dX12_nearOf_36 (by decide) rfl (fun z9 => absurd z9 (show ¬ ((0 : Int) ≠ (0 : Int)) from by decide)) (fun _ => ?_)
          refine g_aload_n hk dX12_nearOf_39 rfl ?_
          refine g_iload hk dX12_nearOf_40 rfl ?_
          refine g_iload_n hk dX12_nearOf_42 rfl ?_
          refine g_callV (n := 2) hk (j160_X12_isWindow l D zt r g I22405 A22405 L22405 x22400 z2 hV22405) (SP.same _) (fun _ h => h) (gi_V (List.mem_cons_of_mem _ (List.mem_append_left _ (List.mem_of_getElem? (i := 5) rfl))) (List.mem_cons_of_mem _ (List.mem_append_left _ (List.mem_of_getElem? (i := 6) rfl))) (List.mem_cons_of_mem _ (List.mem_append_left _ (List.mem_of_getElem? (i := 7) rfl))) (List.mem_cons_of_mem _ (List.mem_append_left _ (List.mem_of_getElem? (i := 4) rfl))) (gi_sub (fun w h => (List.mem_cons_of_mem _ (List.mem_append_right _ (List.mem_append_right _ (List.mem_append_right _ (List.mem_append_left _ h)))))) zg_j160_X12_isWindow)) rfl rfl rfl (by decide +kernel) ⟨Nat.le_of_ble_eq_true rfl, Nat.le_of_ble_eq_true rfl⟩ 0 rfl rfl rfl rfl (Nat.le_of_ble_eq_true rfl) ⟨Nat.le_of_ble_eq_true rfl, Nat.le_of_ble_eq_true rfl⟩ dX12_nearOf_43 (fun v ty' w' hp hk' => ?_)
          rcases hp with ⟨rfl, rfl⟩ | ⟨c22600, c22601, c22602, c22603, c22604, c22605, c22606, rfl, rfl⟩
          · skip
            show GW κ 6 0 0 (wM r g I22405 A22405 L22405) 46 [(4, .int x22400), (3, .int x22401), (0, .ref (r 0)), (1, .int z1), (2, .int z2)] [.int 0]
            refine g_if_ne (tgt := 52) (a := 0) hk dX12_nearOf_46 (by decide) rfl (fun z9 => absurd z9 (show ¬ ((0 : Int) ≠ (0 : Int)) from by decide)) (fun _ => ?_)
            refine g_goto (tgt := 94) hk dX12_nearOf_49 (by decide) ?_
            obtain ⟨y22608, ey22608⟩ : ∃ y : Int32, y = x22400 + Int32.ofInt 1 := ⟨_, rfl⟩
            have hy22608 : y22608.toInt = x22400.toInt + 1 := i32_add ey22608 rfl (by decide) (by omega) (by omega)
            refine g_iinc (v := y22608) (lv' := [(4, .int y22608), (3, .int x22401), (0, .ref (r 0)), (1, .int z1), (2, .int z2)]) hk 0 dX12_nearOf_94 rfl ey22608.symm (by decide) rfl ?_
            refine g_goto (tgt := 12) hk dX12_nearOf_97 (by decide) ?_
            exact g_lv (List.forall_mem_cons.mpr ⟨List.mem_of_getElem? (i := 0) rfl, (List.forall_mem_cons.mpr ⟨List.mem_of_getElem? (i := 1) rfl, (List.forall_mem_cons.mpr ⟨List.mem_of_getElem? (i := 2) rfl, (List.forall_mem_cons.mpr ⟨List.mem_of_getElem? (i := 3) rfl, (List.forall_mem_cons.mpr ⟨List.mem_of_getElem? (i := 4) rfl, (fun _ h => absurd h List.not_mem_nil)⟩)⟩)⟩)⟩)⟩) (ih22588 y22608 x22401 I22405 A22405 L22405 (show Md [18, 19, 20, 25] (upd I 25 (-2)) I22405 from Md.tr hI22405 (show Md [18, 19, 20, 25] I22405 I22405 from Md.rf) rfl) (show Md [19, 20, 21] A A22405 from Md.tr hA22405 (show Md [19, 20, 21] A22405 A22405 from Md.rf) rfl) hV22405 (by omega) (by omega) (by omega) (by omega) (by omega) (by omega))
          · skip
            show GW κ 6 0 0 (wM r g I22405 A22405 L22405) 46 [(4, .int x22400), (3, .int x22401), (0, .ref (r 0)), (1, .int z1), (2, .int z2)] [.int 1]
            refine g_if_ne (tgt := 52) (a := 1) hk dX12_nearOf_46 (by decide) rfl (fun _ => ?_) (fun z9 => absurd (show (1 : Int) ≠ (0 : Int) from by decide) z9)
            refine g_aload_n hk dX12_nearOf_52 rfl ?_
            refine g_iload_n hk dX12_nearOf_53 rfl ?_
            refine g_iload hk dX12_nearOf_54 rfl ?_
            refine g_iload_n hk dX12_nearOf_56 rfl ?_
            refine g_callV (n := 3) hk (j200_X12_laysWindows l D zt r g I22405 A22405 L22405 z1 x22400 z2 hV22405 (by omega) (by omega) (by omega) (by omega) (by omega) (by omega) (by omega) (by omega)) (SP.same _) (fun _ h => h) (gi_V (List.mem_cons_of_mem _ (List.mem_append_left _ (List.mem_of_getElem? (i := 8) rfl))) (List.mem_cons_of_mem _ (List.mem_append_left _ (List.mem_of_getElem? (i := 9) rfl))) (List.mem_cons_of_mem _ (List.mem_append_left _ (List.mem_of_getElem? (i := 10) rfl))) (List.mem_cons_of_mem _ (List.mem_append_left _ (List.mem_of_getElem? (i := 4) rfl))) (gi_sub (fun w h => (List.mem_cons_of_mem _ (List.mem_append_right _ (List.mem_append_right _ (List.mem_append_right _ (List.mem_append_right _ (List.mem_append_left _ h))))))) zg_j200_X12_laysWindows)) rfl rfl rfl (by decide +kernel) ⟨Nat.le_of_ble_eq_true rfl, Nat.le_of_ble_eq_true rfl⟩ 0 rfl rfl rfl rfl (Nat.le_of_ble_eq_true rfl) ⟨Nat.le_of_ble_eq_true rfl, Nat.le_of_ble_eq_true rfl⟩ dX12_nearOf_57 (fun v ty' w' hp hk' => ?_)
            obtain ⟨I22610, A22610, L22610, hI22610, hA22610, hV22610, r22611, rfl, rfl⟩ := hp
            have f22612 := IvM_f18 hV22610
            show GW κ 6 0 0 (wM r g I22610 A22610 L22610) 60 [(4, .int x22400), (3, .int x22401), (0, .ref (r 0)), (1, .int z1), (2, .int z2)] []
            refine g_aload_n hk dX12_nearOf_60 rfl ?_
            refine g_ldcw (v := 2000000000) hk (List.mem_cons_of_mem _ (List.mem_append_left _ (List.mem_of_getElem? (i := 11) rfl))) dX12_nearOf_61 ?_
            have k22613 : (2000000000 : Int32).toInt = 2000000000 := rfl
            refine g_callV (n := 1) hk (j173_X12_laysTable l D zt r g I22610 A22610 L22610 2000000000 hV22610) (SP.same _) (fun _ h => h) (gi_V (List.mem_cons_of_mem _ (List.mem_append_left _ (List.mem_of_getElem? (i := 12) rfl))) (List.mem_cons_of_mem _ (List.mem_append_left _ (List.mem_of_getElem? (i := 13) rfl))) (List.mem_cons_of_mem _ (List.mem_append_left _ (List.mem_of_getElem? (i := 14) rfl))) (List.mem_cons_of_mem _ (List.mem_append_left _ (List.mem_of_getElem? (i := 4) rfl))) (gi_sub (fun w h => (List.mem_cons_of_mem _ (List.mem_append_right _ (List.mem_append_right _ (List.mem_append_right _ (List.mem_append_right _ (List.mem_append_right _ (List.mem_append_left _ h)))))))) zg_j173_X12_laysTable)) rfl rfl rfl (by decide +kernel) ⟨Nat.le_of_ble_eq_true rfl, Nat.le_of_ble_eq_true rfl⟩ 0 rfl rfl rfl rfl (Nat.le_of_ble_eq_true rfl) ⟨Nat.le_of_ble_eq_true rfl, Nat.le_of_ble_eq_true rfl⟩ dX12_nearOf_64 (fun v ty' w' hp hk' => ?_)
            obtain ⟨I22615, A22615, L22615, hI22615, hA22615, hV22615, y22614, rfl, rfl⟩ := hp
            show GW κ 6 0 0 (wM r g I22615 A22615 L22615) 67 [(4, .int x22400), (3, .int x22401), (0, .ref (r 0)), (1, .int z1), (2, .int z2)] [.int y22614]
            refine g_istore (lv' := [(5, .int y22614), (4, .int x22400), (3, .int x22401), (0, .ref (r 0)), (1, .int z1), (2, .int z2)]) hk dX12_nearOf_67 (by decide) rfl ?_
            refine g_iload_n hk dX12_nearOf_69 rfl ?_
            refine g_if_lt (tgt := 85) (a := x22401.toInt) hk dX12_nearOf_70 (by decide) rfl (fun c22616 => ?_) (fun c22616 => ?_)
            · skip
              refine g_iload hk dX12_nearOf_85 rfl ?_
              refine g_istore_n (lv' := [(3, .int x22400), (5, .int y22614), (4, .int x22400), (0, .ref (r 0)), (1, .int z1), (2, .int z2)]) hk dX12_nearOf_87 (by decide) rfl ?_
              refine g_aload_n hk dX12_nearOf_88 rfl ?_
              refine g_iload hk dX12_nearOf_89 rfl ?_
              refine pM_i25 hk hin12 (List.mem_cons_of_mem _ (List.mem_append_left _ (List.mem_of_getElem? (i := 0) rfl))) dX12_nearOf_91 ?_
              obtain ⟨y22617, ey22617⟩ : ∃ y : Int32, y = x22400 + Int32.ofInt 1 := ⟨_, rfl⟩
              have hy22617 : y22617.toInt = x22400.toInt + 1 := i32_add ey22617 rfl (by decide) (by omega) (by omega)
              refine g_iinc (v := y22617) (lv' := [(4, .int y22617), (3, .int x22400), (5, .int y22614), (0, .ref (r 0)), (1, .int z1), (2, .int z2)]) hk 2 dX12_nearOf_94 rfl ey22617.symm (by decide) rfl ?_
              refine g_goto (tgt := 12) hk dX12_nearOf_97 (by decide) ?_
              exact g_lv (List.forall_mem_cons.mpr ⟨List.mem_of_getElem? (i := 0) rfl, (List.forall_mem_cons.mpr ⟨List.mem_of_getElem? (i := 1) rfl, (List.forall_mem_cons.mpr ⟨List.mem_of_getElem? (i := 3) rfl, (List.forall_mem_cons.mpr ⟨List.mem_of_getElem? (i := 4) rfl, (List.forall_mem_cons.mpr ⟨List.mem_of_getElem? (i := 5) rfl, (fun _ h => absurd h List.not_mem_nil)⟩)⟩)⟩)⟩)⟩) (ih22588 y22617 x22400 (upd I22615 25 y22614) A22615 L22615 (show Md [18, 19, 20, 25] (upd I 25 (-2)) (upd I22615 25 y22614) from Md.tr hI22405 (show Md [18, 19, 20, 25] I22405 (upd I22615 25 y22614) from (Md.up (Md.tr (Md.tr Md.rf hI22610 rfl) hI22615 rfl) rfl)) rfl) (show Md [19, 20, 21] A A22615 from Md.tr hA22405 (show Md [19, 20, 21] A22405 A22615 from (Md.tr (Md.tr Md.rf hA22610 rfl) hA22615 rfl)) rfl) ⟨(IvM_f1 (I := I22615) (A := A22615) hV22615), (IvM_f2 (I := I22615) (A := A22615) hV22615), (IvM_f3 (I := I22615) (A := A22615) hV22615), (IvM_f4 (I := I22615) (A := A22615) hV22615), (IvM_f6 (I := I22615) (A := A22615) hV22615), (IvM_f8 (I := I22615) (A := A22615) hV22615), (IvM_f15 (I := I22615) (A := A22615) hV22615), (IvM_f16 (I := I22615) (A := A22615) hV22615), (IvM_f17 (I := I22615) (A := A22615) hV22615), (IvM_f18 (I := I22615) (A := A22615) hV22615), (IvM_f22 (I := I22615) (A := A22615) hV22615), (IvM_f23 (I := I22615) (A := A22615) hV22615), (IvM_f24 (I := I22615) (A := A22615) hV22615), (IvM_a11 (I := I22615) (A := A22615) hV22615), (IvM_a26 (I := I22615) (A := A22615) hV22615), (IvM_s8_0 (I := I22615) (A := A22615) hV22615), (IvM_s8_1 (I := I22615) (A := A22615) hV22615), (IvM_s10_0 (I := I22615) (A := A22615) hV22615), (IvM_s10_1 (I := I22615) (A := A22615) hV22615), (IvM_s17_0 (I := I22615) (A := A22615) hV22615), (IvM_s17_164 (I := I22615) (A := A22615) hV22615), (IvM_lv (I := I22615) (A := A22615) hV22615), (IvM_sd (I := I22615) (A := A22615) hV22615), (IvM_nq (I := I22615) (A := A22615) hV22615), (IvM_hr (I := I22615) (A := A22615) hV22615), (IvM_hh (I := I22615) (A := A22615) hV22615), trivial⟩ (by omega) (by omega) (by omega) (by omega) (by omega) (by omega))
            · skip
              refine g_iload hk dX12_nearOf_73 rfl ?_
              refine g_aload_n hk dX12_nearOf_75 rfl ?_
              refine gM_i25 (v := (I22405 25)) hk hin12 (List.mem_cons_of_mem _ (List.mem_append_left _ (List.mem_of_getElem? (i := 0) rfl))) dX12_nearOf_76 ((hI22615 25 rfl).trans (hI22610 25 rfl)) ?_
              have b22618l := Int32.le_toInt y22614
              have b22618h := Int32.toInt_lt y22614
              have b22619l := Int32.le_toInt (I22405 25)
              have b22619h := Int32.toInt_lt (I22405 25)
              refine g_icmp_lt (tgt := 85) (a := y22614.toInt) (b := (I22405 25).toInt) hk dX12_nearOf_79 (by decide) rfl rfl (fun c22620 => ?_) (fun c22620 => ?_)
              · skip
                refine g_iload hk dX12_nearOf_85 rfl ?_
                refine g_istore_n (lv' := [(3, .int x22400), (5, .int y22614), (4, .int x22400), (0, .ref (r 0)), (1, .int z1), (2, .int z2)]) hk dX12_nearOf_87 (by decide) rfl ?_
                refine g_aload_n hk dX12_nearOf_88 rfl ?_
                refine g_iload hk dX12_nearOf_89 rfl ?_
                refine pM_i25 hk hin12 (List.mem_cons_of_mem _ (List.mem_append_left _ (List.mem_of_getElem? (i := 0) rfl))) dX12_nearOf_91 ?_
                obtain ⟨y22621, ey22621⟩ : ∃ y : Int32, y = x22400 + Int32.ofInt 1 := ⟨_, rfl⟩
                have hy22621 : y22621.toInt = x22400.toInt + 1 := i32_add ey22621 rfl (by decide) (by omega) (by omega)
                refine g_iinc (v := y22621) (lv' := [(4, .int y22621), (3, .int x22400), (5, .int y22614), (0, .ref (r 0)), (1, .int z1), (2, .int z2)]) hk 2 dX12_nearOf_94 rfl ey22621.symm (by decide) rfl ?_
                refine g_goto (tgt := 12) hk dX12_nearOf_97 (by decide) ?_
                exact g_lv (List.forall_mem_cons.mpr ⟨List.mem_of_getElem? (i := 0) rfl, (List.forall_mem_cons.mpr ⟨List.mem_of_getElem? (i := 1) rfl, (List.forall_mem_cons.mpr ⟨List.mem_of_getElem? (i := 3) rfl, (List.forall_mem_cons.mpr ⟨List.mem_of_getElem? (i := 4) rfl, (List.forall_mem_cons.mpr ⟨List.mem_of_getElem? (i := 5) rfl, (fun _ h => absurd h List.not_mem_nil)⟩)⟩)⟩)⟩)⟩) (ih22588 y22621 x22400 (upd I22615 25 y22614) A22615 L22615 (show Md [18, 19, 20, 25] (upd I 25 (-2)) (upd I22615 25 y22614) from Md.tr hI22405 (show Md [18, 19, 20, 25] I22405 (upd I22615 25 y22614) from (Md.up (Md.tr (Md.tr Md.rf hI22610 rfl) hI22615 rfl) rfl)) rfl) (show Md [19, 20, 21] A A22615 from Md.tr hA22405 (show Md [19, 20, 21] A22405 A22615 from (Md.tr (Md.tr Md.rf hA22610 rfl) hA22615 rfl)) rfl) ⟨(IvM_f1 (I := I22615) (A := A22615) hV22615), (IvM_f2 (I := I22615) (A := A22615) hV22615), (IvM_f3 (I := I22615) (A := A22615) hV22615), (IvM_f4 (I := I22615) (A := A22615) hV22615), (IvM_f6 (I := I22615) (A := A22615) hV22615), (IvM_f8 (I := I22615) (A := A22615) hV22615), (IvM_f15 (I := I22615) (A := A22615) hV22615), (IvM_f16 (I := I22615) (A := A22615) hV22615), (IvM_f17 (I := I22615) (A := A22615) hV22615), (IvM_f18 (I := I22615) (A := A22615) hV22615), (IvM_f22 (I := I22615) (A := A22615) hV22615), (IvM_f23 (I := I22615) (A := A22615) hV22615), (IvM_f24 (I := I22615) (A := A22615) hV22615), (IvM_a11 (I := I22615) (A := A22615) hV22615), (IvM_a26 (I := I22615) (A := A22615) hV22615), (IvM_s8_0 (I := I22615) (A := A22615) hV22615), (IvM_s8_1 (I := I22615) (A := A22615) hV22615), (IvM_s10_0 (I := I22615) (A := A22615) hV22615), (IvM_s10_1 (I := I22615) (A := A22615) hV22615), (IvM_s17_0 (I := I22615) (A := A22615) hV22615), (IvM_s17_164 (I := I22615) (A := A22615) hV22615), (IvM_lv (I := I22615) (A := A22615) hV22615), (IvM_sd (I := I22615) (A := A22615) hV22615), (IvM_nq (I := I22615) (A := A22615) hV22615), (IvM_hr (I := I22615) (A := A22615) hV22615), (IvM_hh (I := I22615) (A := A22615) hV22615), trivial⟩ (by omega) (by omega) (by omega) (by omega) (by omega) (by omega))
              · skip
                refine g_goto (tgt := 94) hk dX12_nearOf_82 (by decide) ?_
                obtain ⟨y22622, ey22622⟩ : ∃ y : Int32, y = x22400 + Int32.ofInt 1 := ⟨_, rfl⟩
                have hy22622 : y22622.toInt = x22400.toInt + 1 := i32_add ey22622 rfl (by decide) (by omega) (by omega)
                refine g_iinc (v := y22622) (lv' := [(4, .int y22622), (5, .int y22614), (3, .int x22401), (0, .ref (r 0)), (1, .int z1), (2, .int z2)]) hk 1 dX12_nearOf_94 rfl ey22622.symm (by decide) rfl ?_
                refine g_goto (tgt := 12) hk dX12_nearOf_97 (by decide) ?_
                exact g_lv (List.forall_mem_cons.mpr ⟨List.mem_of_getElem? (i := 0) rfl, (List.forall_mem_cons.mpr ⟨List.mem_of_getElem? (i := 2) rfl, (List.forall_mem_cons.mpr ⟨List.mem_of_getElem? (i := 3) rfl, (List.forall_mem_cons.mpr ⟨List.mem_of_getElem? (i := 4) rfl, (List.forall_mem_cons.mpr ⟨List.mem_of_getElem? (i := 5) rfl, (fun _ h => absurd h List.not_mem_nil)⟩)⟩)⟩)⟩)⟩) (ih22588 y22622 x22401 I22615 A22615 L22615 (show Md [18, 19, 20, 25] (upd I 25 (-2)) I22615 from Md.tr hI22405 (show Md [18, 19, 20, 25] I22405 I22615 from (Md.tr (Md.tr Md.rf hI22610 rfl) hI22615 rfl)) rfl) (show Md [19, 20, 21] A A22615 from Md.tr hA22405 (show Md [19, 20, 21] A22405 A22615 from (Md.tr (Md.tr Md.rf hA22610 rfl) hA22615 rfl)) rfl) hV22615 (by omega) (by omega) (by omega) (by omega) (by omega) (by omega))
        · skip
          show GW κ 6 0 0 (wM r g I22405 A22405 L22405) 36 [(4, .int x22400), (3, .int x22401), (0, .ref (r 0)), (1, .int z1), (2, .int z2)] [.int 1]
          refine g_if_ne (tgt := 94) (a := 1) hk dX12_nearOf_36 (by decide) rfl (fun _ => ?_) (fun z9 => absurd (show (1 : Int) ≠ (0 : Int) from by decide) z9)
          obtain ⟨y22623, ey22623⟩ : ∃ y : Int32, y = x22400 + Int32.ofInt 1 := ⟨_, rfl⟩
          have hy22623 : y22623.toInt = x22400.toInt + 1 := i32_add ey22623 rfl (by decide) (by omega) (by omega)
          refine g_iinc (v := y22623) (lv' := [(4, .int y22623), (3, .int x22401), (0, .ref (r 0)), (1, .int z1), (2, .int z2)]) hk 0 dX12_nearOf_94 rfl ey22623.symm (by decide) rfl ?_
          refine g_goto (tgt := 12) hk dX12_nearOf_97 (by decide) ?_
          exact g_lv (List.forall_mem_cons.mpr ⟨List.mem_of_getElem? (i := 0) rfl, (List.forall_mem_cons.mpr ⟨List.mem_of_getElem? (i := 1) rfl, (List.forall_mem_cons.mpr ⟨List.mem_of_getElem? (i := 2) rfl, (List.forall_mem_cons.mpr ⟨List.mem_of_getElem? (i := 3) rfl, (List.forall_mem_cons.mpr ⟨List.mem_of_getElem? (i := 4) rfl, (fun _ h => absurd h List.not_mem_nil)⟩)⟩)⟩)⟩)⟩) (ih22588 y22623 x22401 I22405 A22405 L22405 (show Md [18, 19, 20, 25] (upd I 25 (-2)) I22405 from Md.tr hI22405 (show Md [18, 19, 20, 25] I22405 I22405 from Md.rf) rfl) (show Md [19, 20, 21] A A22405 from Md.tr hA22405 (show Md [19, 20, 21] A22405 A22405 from Md.rf) rfl) hV22405 (by omega) (by omega) (by omega) (by omega) (by omega) (by omega))
  have k22624 : (0 : Int32).toInt = 0 := rfl
  have k22625 : ((-2) : Int32).toInt = (-2) := rfl
  obtain ⟨n22626, n22626a, n22626b⟩ : ∃ n : Nat, 161 - (0 : Int32).toInt < (n : Int) ∧ 0 < n := ⟨((161 - (0 : Int32).toInt : Int)).toNat + 1, by omega, by omega⟩
  exact lp22585 n22626 0 (-2) (upd I 25 (-2)) A L Md.rf Md.rf ⟨(IvM_f1 (I := I) (A := A) hIv), (IvM_f2 (I := I) (A := A) hIv), (IvM_f3 (I := I) (A := A) hIv), (IvM_f4 (I := I) (A := A) hIv), (IvM_f6 (I := I) (A := A) hIv), (IvM_f8 (I := I) (A := A) hIv), (IvM_f15 (I := I) (A := A) hIv), (IvM_f16 (I := I) (A := A) hIv), (IvM_f17 (I := I) (A := A) hIv), (IvM_f18 (I := I) (A := A) hIv), (IvM_f22 (I := I) (A := A) hIv), (IvM_f23 (I := I) (A := A) hIv), (IvM_f24 (I := I) (A := A) hIv), (IvM_a11 (I := I) (A := A) hIv), (IvM_a26 (I := I) (A := A) hIv), (IvM_s8_0 (I := I) (A := A) hIv), (IvM_s8_1 (I := I) (A := A) hIv), (IvM_s10_0 (I := I) (A := A) hIv), (IvM_s10_1 (I := I) (A := A) hIv), (IvM_s17_0 (I := I) (A := A) hIv), (IvM_s17_164 (I := I) (A := A) hIv), (IvM_lv (I := I) (A := A) hIv), (IvM_sd (I := I) (A := A) hIv), (IvM_nq (I := I) (A := A) hIv), (IvM_hr (I := I) (A := A) hIv), (IvM_hh (I := I) (A := A) hIv), trivial⟩ (by omega) (by omega) (by omega) (by omega) n22626a n22626b
def wo_j198_X12_near : List Cond := [Cond.methodLink RX12 244 yX12_in, Cond.static yX12_in, Cond.initialized RX12, Cond.methodLink RX12 257 yX12_isWindow, Cond.instanceMethod yX12_isWindow, Cond.selects RX12 yX12_isWindow yX12_isWindow, Cond.methodLink RX12 323 yX12_copies, Cond.instanceMethod yX12_copies, Cond.selects RX12 yX12_copies yX12_copies, Cond.methodLink RX12 388 yX12_nearOf, Cond.instanceMethod yX12_nearOf, Cond.selects RX12 yX12_nearOf yX12_nearOf, Cond.fieldLink RX12 381 "WarpDeskModel" "nearFar" "I"]
def wz_j198_X12_near : List Cond := .code yX12_near cX12_near 5 (some .int) :: (wo_j198_X12_near ++ (wsX120 ++ (wz_j145_X12_in ++ (wz_j160_X12_isWindow ++ (wz_j151_X12_copies ++ (wz_j199_X12_nearOf ++ ([] : List Cond)))))))
theorem zg_j198_X12_near : ∀ w ∈ wz_j198_X12_near, goodWord w = true := zg_cons rfl (zg_app (by decide +kernel) (zg_app zgU_wsX120 (zg_app zg_j145_X12_in (zg_app zg_j160_X12_isWindow (zg_app zg_j151_X12_copies (zg_app zg_j199_X12_nearOf zg_nil))))))
theorem zi_j198_X12_near : ∀ w ∈ wz_j198_X12_near, w ∈ lw_tbl := zi_cons zw_1918 (zi_app (zi_cons zw_1656 (zi_cons zw_1657 (zi_cons zw_115 (zi_cons zw_1714 (zi_cons zw_1716 (zi_cons zw_72 (zi_cons zw_1679 (zi_cons zw_1681 (zi_cons zw_70 (zi_cons zw_1919 (zi_cons zw_1921 (zi_cons zw_99 (zi_cons zw_1430 zi_nil))))))))))))) (zi_app inX12 (zi_app zi_j145_X12_in (zi_app zi_j160_X12_isWindow (zi_app zi_j151_X12_copies (zi_app zi_j199_X12_nearOf zi_nil))))))
set_option maxHeartbeats 4000000 in
set_option maxRecDepth 100000 in
theorem j198_X12_near (l : Launch) (D : va_G) (zt : Nat × Nat × Nat × (Nat → Nat) × (Nat → Nat)) (r : Nat → Nat) (g : Nat → ClassId) (I : Nat → Int32) (A : Nat → Nat → Int32) (L : Nat → Nat → Int64) (z1 : Int32) (z2 : Int32) (z3 : Int32) (hIv : IvM I A) : GM l D zt (tyM g) yX12_near wz_j198_X12_near ({ frames := 6, cells := 0, slots := 0, locals := 137 } : Room) [.ref (r 0), .int z1, .int z2, .int z3] (wM r g I A L) (fun v _ w' => ∃ (I' : Nat → Int32) (A' : Nat → Nat → Int32) (L' : Nat → Nat → Int64), Md [18, 19, 20, 25] I I' ∧ Md [18, 19, 20, 21] A A' ∧ IvM I' A' ∧ ∃ y0 : Int32, v = some (.int y0) ∧ w' = wM r g I' A' L') 0 0 := by
  refine GM.of (cc := cX12_near) (maxL := 5) (ret := (some .int)) (own := RX12) (lv := [(0, .ref (r 0)), (1, .int z1), (2, .int z2), (3, .int z3)]) (by decide) rfl rfl (Nat.le_of_ble_eq_true rfl) rfl (fun κ sz hk hR hN => ?_)
  have hin12 : ∀ w ∈ u_ws RX12 TX12 55, w ∈ wz_j198_X12_near := fun w h => (List.mem_cons_of_mem _ (List.mem_append_right _ (List.mem_append_left _ h)))
  refine g_iload_n hk dX12_near_0 rfl ?_
  refine g_iconst (v := 2) hk dX12_near_1 (by decide) ?_
  refine g_bipush (v := 16) hk dX12_near_2 (by decide) ?_
  have k22369 : (2 : Int32).toInt = 2 := rfl
  have k22370 : (16 : Int32).toInt = 16 := rfl
  refine g_callS (n := 3) hk (j145_X12_in l D zt r g I A L z2 2 16 hIv) (SP.same _) (fun _ h => h) (gi_S (List.mem_cons_of_mem _ (List.mem_append_left _ (List.mem_of_getElem? (i := 0) rfl))) (List.mem_cons_of_mem _ (List.mem_append_left _ (List.mem_of_getElem? (i := 1) rfl))) (List.mem_cons_of_mem _ (List.mem_append_left _ (List.mem_of_getElem? (i := 2) rfl))) (gi_sub (fun w h => (List.mem_cons_of_mem _ (List.mem_append_right _ (List.mem_append_right _ (List.mem_append_left _ h))))) zg_j145_X12_in)) rfl rfl rfl (by decide +kernel) ⟨Nat.le_of_ble_eq_true rfl, Nat.le_of_ble_eq_true rfl⟩ rfl rfl (Nat.le_of_ble_eq_true rfl) ⟨Nat.le_of_ble_eq_true rfl, Nat.le_of_ble_eq_true rfl⟩ dX12_near_4 (fun v ty' w' hp hk' => ?_)
  rcases hp with ⟨c22371, rfl, rfl⟩ | ⟨c22373, c22374, rfl, rfl⟩
  · skip
    have b22376l := Int32.le_toInt z2
    have b22376h := Int32.toInt_lt z2
    show GW κ 5 0 0 (wM r g I A L) 7 [(0, .ref (r 0)), (1, .int z1), (2, .int z2), (3, .int z3)] [.int 0]
    refine g_if_eq (tgt := 28) (a := 0) hk dX12_near_7 (by decide) rfl (fun _ => ?_) (fun z9 => absurd (show (0 : Int) = (0 : Int) from by decide) z9)
    refine g_iconst (v := (-1)) hk dX12_near_28 (by decide) ?_
    exact g_iret hk hR rfl ⟨I, A, L, (show Md [18, 19, 20, 25] I I from Md.rf), (show Md [18, 19, 20, 21] A A from Md.rf), hIv, (-1), rfl, rfl⟩ dX12_near_29
  · skip
    show GW κ 5 0 0 (wM r g I A L) 7 [(0, .ref (r 0)), (1, .int z1), (2, .int z2), (3, .int z3)] [.int 1]
    refine g_if_eq (tgt := 28) (a := 1) hk dX12_near_7 (by decide) rfl (fun z9 => absurd z9 (show ¬ ((1 : Int) = (0 : Int)) from by decide)) (fun _ => ?_)
    refine g_aload_n hk dX12_near_10 rfl ?_
    refine g_iload_n hk dX12_near_11 rfl ?_
    refine g_iload_n hk dX12_near_12 rfl ?_
    refine g_callV (n := 2) hk (j160_X12_isWindow l D zt r g I A L z1 z2 hIv) (SP.same _) (fun _ h => h) (gi_V (List.mem_cons_of_mem _ (List.mem_append_left _ (List.mem_of_getElem? (i := 3) rfl))) (List.mem_cons_of_mem _ (List.mem_append_left _ (List.mem_of_getElem? (i := 4) rfl))) (List.mem_cons_of_mem _ (List.mem_append_left _ (List.mem_of_getElem? (i := 5) rfl))) (List.mem_cons_of_mem _ (List.mem_append_left _ (List.mem_of_getElem? (i := 2) rfl))) (gi_sub (fun w h => (List.mem_cons_of_mem _ (List.mem_append_right _ (List.mem_append_right _ (List.mem_append_right _ (List.mem_append_left _ h)))))) zg_j160_X12_isWindow)) rfl rfl rfl (by decide +kernel) ⟨Nat.le_of_ble_eq_true rfl, Nat.le_of_ble_eq_true rfl⟩ 0 rfl rfl rfl rfl (Nat.le_of_ble_eq_true rfl) ⟨Nat.le_of_ble_eq_true rfl, Nat.le_of_ble_eq_true rfl⟩ dX12_near_13 (fun v ty' w' hp hk' => ?_)
    rcases hp with ⟨rfl, rfl⟩ | ⟨c22378, c22379, c22380, c22381, c22382, c22383, c22384, rfl, rfl⟩
    · skip
      show GW κ 5 0 0 (wM r g I A L) 16 [(0, .ref (r 0)), (1, .int z1), (2, .int z2), (3, .int z3)] [.int 0]
      refine g_if_eq (tgt := 28) (a := 0) hk dX12_near_16 (by decide) rfl (fun _ => ?_) (fun z9 => absurd (show (0 : Int) = (0 : Int) from by decide) z9)
      refine g_iconst (v := (-1)) hk dX12_near_28 (by decide) ?_
      exact g_iret hk hR rfl ⟨I, A, L, (show Md [18, 19, 20, 25] I I from Md.rf), (show Md [18, 19, 20, 21] A A from Md.rf), hIv, (-1), rfl, rfl⟩ dX12_near_29
    · skip
      show GW κ 5 0 0 (wM r g I A L) 16 [(0, .ref (r 0)), (1, .int z1), (2, .int z2), (3, .int z3)] [.int 1]
      refine g_if_eq (tgt := 28) (a := 1) hk dX12_near_16 (by decide) rfl (fun z9 => absurd z9 (show ¬ ((1 : Int) = (0 : Int)) from by decide)) (fun _ => ?_)
      refine g_iload_n hk dX12_near_19 rfl ?_
      refine g_iconst (v := 0) hk dX12_near_20 (by decide) ?_
      refine g_iconst (v := 1) hk dX12_near_21 (by decide) ?_
      have k22386 : (0 : Int32).toInt = 0 := rfl
      have k22387 : (1 : Int32).toInt = 1 := rfl
      refine g_callS (n := 3) hk (j145_X12_in l D zt r g I A L z3 0 1 hIv) (SP.same _) (fun _ h => h) (gi_S (List.mem_cons_of_mem _ (List.mem_append_left _ (List.mem_of_getElem? (i := 0) rfl))) (List.mem_cons_of_mem _ (List.mem_append_left _ (List.mem_of_getElem? (i := 1) rfl))) (List.mem_cons_of_mem _ (List.mem_append_left _ (List.mem_of_getElem? (i := 2) rfl))) (gi_sub (fun w h => (List.mem_cons_of_mem _ (List.mem_append_right _ (List.mem_append_right _ (List.mem_append_left _ h))))) zg_j145_X12_in)) rfl rfl rfl (by decide +kernel) ⟨Nat.le_of_ble_eq_true rfl, Nat.le_of_ble_eq_true rfl⟩ rfl rfl (Nat.le_of_ble_eq_true rfl) ⟨Nat.le_of_ble_eq_true rfl, Nat.le_of_ble_eq_true rfl⟩ dX12_near_22 (fun v ty' w' hp hk' => ?_)
      rcases hp with ⟨c22388, rfl, rfl⟩ | ⟨c22390, c22391, rfl, rfl⟩
      · skip
        have b22393l := Int32.le_toInt z3
        have b22393h := Int32.toInt_lt z3
        show GW κ 5 0 0 (wM r g I A L) 25 [(0, .ref (r 0)), (1, .int z1), (2, .int z2), (3, .int z3)] [.int 0]
        refine g_if_ne (tgt := 30) (a := 0) hk dX12_near_25 (by decide) rfl (fun z9 => absurd z9 (show ¬ ((0 : Int) ≠ (0 : Int)) from by decide)) (fun _ => ?_)
        refine g_iconst (v := (-1)) hk dX12_near_28 (by decide) ?_
        exact g_iret hk hR rfl ⟨I, A, L, (show Md [18, 19, 20, 25] I I from Md.rf), (show Md [18, 19, 20, 21] A A from Md.rf), hIv, (-1), rfl, rfl⟩ dX12_near_29
      · skip
        show GW κ 5 0 0 (wM r g I A L) 25 [(0, .ref (r 0)), (1, .int z1), (2, .int z2), (3, .int z3)] [.int 1]
        refine g_if_ne (tgt := 30) (a := 1) hk dX12_near_25 (by decide) rfl (fun _ => ?_) (fun z9 => absurd (show (1 : Int) ≠ (0 : Int) from by decide) z9)
        refine g_aload_n hk dX12_near_30 rfl ?_
        refine g_callV (n := 0) hk (j151_X12_copies l D zt r g I A L  hIv) (SP.same _) (fun _ h => h) (gi_V (List.mem_cons_of_mem _ (List.mem_append_left _ (List.mem_of_getElem? (i := 6) rfl))) (List.mem_cons_of_mem _ (List.mem_append_left _ (List.mem_of_getElem? (i := 7) rfl))) (List.mem_cons_of_mem _ (List.mem_append_left _ (List.mem_of_getElem? (i := 8) rfl))) (List.mem_cons_of_mem _ (List.mem_append_left _ (List.mem_of_getElem? (i := 2) rfl))) (gi_sub (fun w h => (List.mem_cons_of_mem _ (List.mem_append_right _ (List.mem_append_right _ (List.mem_append_right _ (List.mem_append_right _ (List.mem_append_left _ h))))))) zg_j151_X12_copies)) rfl rfl rfl (by decide +kernel) ⟨Nat.le_of_ble_eq_true rfl, Nat.le_of_ble_eq_true rfl⟩ 0 rfl rfl rfl rfl (Nat.le_of_ble_eq_true rfl) ⟨Nat.le_of_ble_eq_true rfl, Nat.le_of_ble_eq_true rfl⟩ dX12_near_31 (fun v ty' w' hp hk' => ?_)
        obtain ⟨I22395, A22395, L22395, hI22395, hA22395, hV22395, r22396, r22397, rfl, rfl⟩ := hp
        have f22398 := IvM_s17_0 hIv
        have f22399 := IvM_s17_164 hIv
        show GW κ 5 0 0 (wM r g I22395 A22395 L22395) 34 [(0, .ref (r 0)), (1, .int z1), (2, .int z2), (3, .int z3)] []
        refine g_aload_n hk dX12_near_34 rfl ?_
        refine g_iload_n hk dX12_near_35 rfl ?_
        refine g_iload_n hk dX12_near_36 rfl ?_
        refine g_callV (n := 2) hk (j199_X12_nearOf l D zt r g I22395 A22395 L22395 z1 z2 hV22395 (by omega) (by omega) (by omega) (by omega) (by omega)) (SP.same _) (fun _ h => h) (gi_V (List.mem_cons_of_mem _ (List.mem_append_left _ (List.mem_of_getElem? (i := 9) rfl))) (List.mem_cons_of_mem _ (List.mem_append_left _ (List.mem_of_getElem? (i := 10) rfl))) (List.mem_cons_of_mem _ (List.mem_append_left _ (List.mem_of_getElem? (i := 11) rfl))) (List.mem_cons_of_mem _ (List.mem_append_left _ (List.mem_of_getElem? (i := 2) rfl))) (gi_sub (fun w h => (List.mem_cons_of_mem _ (List.mem_append_right _ (List.mem_append_right _ (List.mem_append_right _ (List.mem_append_right _ (List.mem_append_right _ (List.mem_append_left _ h)))))))) zg_j199_X12_nearOf)) rfl rfl rfl (by decide +kernel) ⟨Nat.le_of_ble_eq_true rfl, Nat.le_of_ble_eq_true rfl⟩ 0 rfl rfl rfl rfl (Nat.le_of_ble_eq_true rfl) ⟨Nat.le_of_ble_eq_true rfl, Nat.le_of_ble_eq_true rfl⟩ dX12_near_37 (fun v ty' w' hp hk' => ?_)
        obtain ⟨I22630, A22630, L22630, hI22630, hA22630, hV22630, y22627, c22628, c22629, rfl, rfl⟩ := hp
        show GW κ 5 0 0 (wM r g I22630 A22630 L22630) 40 [(0, .ref (r 0)), (1, .int z1), (2, .int z2), (3, .int z3)] [.int y22627]
        refine g_istore (lv' := [(4, .int y22627), (0, .ref (r 0)), (1, .int z1), (2, .int z2), (3, .int z3)]) hk dX12_near_40 (by decide) rfl ?_
        refine g_iload_n hk dX12_near_42 rfl ?_
        refine g_if_ne (tgt := 51) (a := z3.toInt) hk dX12_near_43 (by decide) rfl (fun c22631 => ?_) (fun c22631 => ?_)
        · skip
          refine g_aload_n hk dX12_near_51 rfl ?_
          refine gM_i25 (v := (I22630 25)) hk hin12 (List.mem_cons_of_mem _ (List.mem_append_left _ (List.mem_of_getElem? (i := 12) rfl))) dX12_near_52 rfl ?_
          have b22632l := Int32.le_toInt (I22630 25)
          have b22632h := Int32.toInt_lt (I22630 25)
          exact g_iret hk hR rfl ⟨I22630, A22630, L22630, (show Md [18, 19, 20, 25] I I22630 from (Md.tr (Md.tr Md.rf hI22395 rfl) hI22630 rfl)), (show Md [18, 19, 20, 21] A A22630 from (Md.tr (Md.tr Md.rf hA22395 rfl) hA22630 rfl)), hV22630, (I22630 25), rfl, rfl⟩ dX12_near_55
        · skip
          refine g_iload hk dX12_near_46 rfl ?_
          refine g_goto (tgt := 55) hk dX12_near_48 (by decide) ?_
          exact g_iret hk hR rfl ⟨I22630, A22630, L22630, (show Md [18, 19, 20, 25] I I22630 from (Md.tr (Md.tr Md.rf hI22395 rfl) hI22630 rfl)), (show Md [18, 19, 20, 21] A A22630 from (Md.tr (Md.tr Md.rf hA22395 rfl) hA22630 rfl)), hV22630, y22627, rfl, rfl⟩ dX12_near_55
