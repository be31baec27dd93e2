def wo_j213_X12_whole : List Cond := [Cond.methodLink RX12 244 yX12_in, Cond.static yX12_in, Cond.initialized RX12, Cond.fieldLink RX12 70 "WarpDeskModel" "now" "[I", Cond.methodLink RX12 320 yX12_isThere, Cond.instanceMethod yX12_isThere, Cond.selects RX12 yX12_isThere yX12_isThere]
def wz_j213_X12_whole : List Cond := .code yX12_whole cX12_whole 6 (some .int) :: (wo_j213_X12_whole ++ (wsX120 ++ (wz_j145_X12_in ++ (wz_j143_X12_isThere ++ ([] : List Cond)))))
theorem zg_j213_X12_whole : ∀ w ∈ wz_j213_X12_whole, goodWord w = true := zg_cons rfl (zg_app (by decide +kernel) (zg_app zgU_wsX120 (zg_app zg_j145_X12_in (zg_app zg_j143_X12_isThere zg_nil))))
theorem zi_j213_X12_whole : ∀ w ∈ wz_j213_X12_whole, w ∈ lw_tbl := zi_cons zw_1750 (zi_app (zi_cons zw_1656 (zi_cons zw_1657 (zi_cons zw_115 (zi_cons zw_1413 (zi_cons zw_1648 (zi_cons zw_1650 (zi_cons zw_65 zi_nil))))))) (zi_app inX12 (zi_app zi_j145_X12_in (zi_app zi_j143_X12_isThere zi_nil))))
set_option maxHeartbeats 4000000 in
set_option maxRecDepth 100000 in
theorem j213_X12_whole (l : Launch) (D : va_G) (zt : Nat × Nat × Nat × (Nat → Nat) × (Nat → Nat)) (r : Nat → Nat) (g : Nat → ClassId) (I : Nat → Int32) (A : Nat → Nat → Int32) (L : Nat → Nat → Int64) (z1 : Int32) (hIv : IvM I A) : GM l D zt (tyM g) yX12_whole wz_j213_X12_whole ({ frames := 3, cells := 0, slots := 0, locals := 64 } : Room) [.ref (r 0), .int z1] (wM r g I A L) (fun v _ w' => ∃ y0 : Int32, ((-2) ≤ y0.toInt) ∧ (y0.toInt ≤ 160) ∧ v = some (.int y0) ∧ w' = wM r g I A L) 0 0 := by
  refine GM.of (cc := cX12_whole) (maxL := 6) (ret := (some .int)) (own := RX12) (lv := [(0, .ref (r 0)), (1, .int z1)]) (by decide) rfl rfl (Nat.le_of_ble_eq_true rfl) rfl (fun κ sz hk hR hN => ?_)
  have hin12 : ∀ w ∈ u_ws RX12 TX12 55, w ∈ wz_j213_X12_whole := fun w h => (List.mem_cons_of_mem _ (List.mem_append_right _ (List.mem_append_left _ h)))
  refine g_iload_n hk dX12_whole_0 rfl ?_
  refine g_iconst (v := 0) hk dX12_whole_1 (by decide) ?_
  refine g_iconst (v := 1) hk dX12_whole_2 (by decide) ?_
  have k25800 : (0 : Int32).toInt = 0 := rfl
  have k25801 : (1 : Int32).toInt = 1 := rfl
  refine g_callS (n := 3) hk (j145_X12_in l D zt r g I A L z1 0 1 hIv) (SP.same _) (fun _ h => h) (gi_S (List.mem_cons_of_mem _ (List.mem_append_left _ (List.mem_of_getElem? (i := 0) rfl))) (List.mem_cons_of_mem _ (List.mem_append_left _ (List.mem_of_getElem? (i := 1) rfl))) (List.mem_cons_of_mem _ (List.mem_append_left _ (List.mem_of_getElem? (i := 2) rfl))) (gi_sub (fun w h => (List.mem_cons_of_mem _ (List.mem_append_right _ (List.mem_append_right _ (List.mem_append_left _ h))))) zg_j145_X12_in)) rfl rfl rfl (by decide +kernel) ⟨Nat.le_of_ble_eq_true rfl, Nat.le_of_ble_eq_true rfl⟩ rfl rfl (Nat.le_of_ble_eq_true rfl) ⟨Nat.le_of_ble_eq_true rfl, Nat.le_of_ble_eq_true rfl⟩ dX12_whole_3 (fun v ty' w' hp hk' => ?_)
  rcases hp with ⟨c25802, rfl, rfl⟩ | ⟨c25804, c25805, rfl, rfl⟩
  · skip
    have b25807l := Int32.le_toInt z1
    have b25807h := Int32.toInt_lt z1
    show GW κ 6 0 0 (wM r g I A L) 6 [(0, .ref (r 0)), (1, .int z1)] [.int 0]
    refine g_if_ne (tgt := 11) (a := 0) hk dX12_whole_6 (by decide) rfl (fun z9 => absurd z9 (show ¬ ((0 : Int) ≠ (0 : Int)) from by decide)) (fun _ => ?_)
    refine g_iconst (v := (-1)) hk dX12_whole_9 (by decide) ?_
    exact g_iret hk hR rfl ⟨(-1), (by decide), (by decide), rfl, rfl⟩ dX12_whole_10
  · skip
    show GW κ 6 0 0 (wM r g I A L) 6 [(0, .ref (r 0)), (1, .int z1)] [.int 1]
    refine g_if_ne (tgt := 11) (a := 1) hk dX12_whole_6 (by decide) rfl (fun _ => ?_) (fun z9 => absurd (show (1 : Int) ≠ (0 : Int) from by decide) z9)
    refine g_bipush (v := (-2)) hk dX12_whole_11 (by decide) ?_
    refine g_istore_n (lv' := [(2, .int (-2)), (0, .ref (r 0)), (1, .int z1)]) hk dX12_whole_13 (by decide) rfl ?_
    refine g_bipush (v := (-2)) hk dX12_whole_14 (by decide) ?_
    refine g_istore_n (lv' := [(3, .int (-2)), (2, .int (-2)), (0, .ref (r 0)), (1, .int z1)]) hk dX12_whole_16 (by decide) rfl ?_
    refine g_iconst (v := 0) hk dX12_whole_17 (by decide) ?_
    refine g_istore (lv' := [(4, .int 0), (3, .int (-2)), (2, .int (-2)), (0, .ref (r 0)), (1, .int z1)]) hk dX12_whole_18 (by decide) rfl ?_
    have lp26044 : ∀ (n26045 : Nat) (x25808 : Int32) (x25809 : Int32) (x25810 : Int32), (0 ≤ x25808.toInt) → (x25808.toInt ≤ 160) → ((-2) ≤ x25809.toInt) → (x25809.toInt ≤ 160) → ((-2) ≤ x25810.toInt) → (x25810.toInt ≤ 159) → (161 - x25808.toInt < (n26045 : Int)) → (0 < n26045) → GW κ 6 0 0 (wM r g I A L) 20 [(4, .int x25808), (3, .int x25809), (2, .int x25810), (0, .ref (r 0)), (1, .int z1)] [] := by
      intro n26045
      induction n26045 with
      | zero =>
        intro x25808 x25809 x25810 h26038 h26039 h26040 h26041 h26042 h26043 m26046 m26046z
        exact absurd m26046z (Nat.lt_irrefl 0)
      | succ n26045 ih26047 =>
        intro x25808 x25809 x25810 h26038 h26039 h26040 h26041 h26042 h26043 m26046 m26046z
        refine g_iload hk dX12_whole_20 rfl ?_
        refine g_aload_n hk dX12_whole_22 rfl ?_
        refine gM_r0_35 hk hin12 (List.mem_cons_of_mem _ (List.mem_append_left _ (List.mem_of_getElem? (i := 3) rfl))) dX12_whole_23 ?_
        refine g_iconst (v := 0) hk dX12_whole_26 (by decide) ?_
        refine lM_17 (v := (A 17 0)) hk (vp_in_iff.mpr ⟨by decide, by decide⟩) rfl dX12_whole_27 ?_
        have f26048 := IvM_s17_0 hIv
        refine g_icmp_ge (tgt := 78) (a := x25808.toInt) (b := (A 17 0).toInt) hk dX12_whole_28 (by decide) rfl rfl (fun c26049 => ?_) (fun c26049 => ?_)
        · skip
          refine g_iload_n hk dX12_whole_78 rfl ?_
          refine g_if_ne (tgt := 86) (a := z1.toInt) hk dX12_whole_79 (by decide) rfl (fun c26050 => ?_) (fun c26050 => ?_)
          · skip
            refine g_iload_n hk dX12_whole_86 rfl ?_
            exact g_iret hk hR rfl ⟨x25809, (by omega), (by omega), rfl, rfl⟩ dX12_whole_87
          · skip
            refine g_iload_n hk dX12_whole_82 rfl ?_
            refine g_goto (tgt := 87) hk dX12_whole_83 (by decide) ?_
            exact g_iret hk hR rfl ⟨x25810, (by omega), (by omega), rfl, rfl⟩ dX12_whole_87
        · skip
          refine g_iconst (v := 0) hk dX12_whole_31 (by decide) ?_
          refine g_istore (lv' := [(5, .int 0), (4, .int x25808), (3, .int x25809), (2, .int x25810), (0, .ref (r 0)), (1, .int z1)]) hk dX12_whole_32 (by decide) rfl ?_
          have lp26075 : ∀ (n26076 : Nat) (x26051 : Int32), (0 ≤ x26051.toInt) → (x26051.toInt ≤ 160) → (x25808.toInt + x26051.toInt ≤ 160) → (161 - x26051.toInt < (n26076 : Int)) → (0 < n26076) → GW κ 6 0 0 (wM r g I A L) 34 [(5, .int x26051), (4, .int x25808), (3, .int x25809), (2, .int x25810), (0, .ref (r 0)), (1, .int z1)] [] := by
            intro n26076
            induction n26076 with
            | zero =>
              intro x26051 h26072 h26073 h26074 m26077 m26077z
              exact absurd m26077z (Nat.lt_irrefl 0)
            | succ n26076 ih26078 =>
              intro x26051 h26072 h26073 h26074 m26077 m26077z
              refine g_aload_n hk dX12_whole_34 rfl ?_
              refine g_iload hk dX12_whole_35 rfl ?_
              refine g_iload hk dX12_whole_37 rfl ?_
              refine g_iadd hk dX12_whole_39 ?_
              refine g_topi (fun y26079 ey26079 => ?_)
              have hy26079 : y26079.toInt = x25808.toInt + x26051.toInt := i32_add ey26079 rfl rfl (by omega) (by omega)
              refine g_callV (n := 1) hk (j143_X12_isThere l D zt r g I A L y26079 hIv) (SP.same _) (fun _ h => h) (gi_V (List.mem_cons_of_mem _ (List.mem_append_left _ (List.mem_of_getElem? (i := 4) rfl))) (List.mem_cons_of_mem _ (List.mem_append_left _ (List.mem_of_getElem? (i := 5) rfl))) (List.mem_cons_of_mem _ (List.mem_append_left _ (List.mem_of_getElem? (i := 6) rfl))) (List.mem_cons_of_mem _ (List.mem_append_left _ (List.mem_of_getElem? (i := 2) rfl))) (gi_sub (fun w h => (List.mem_cons_of_mem _ (List.mem_append_right _ (List.mem_append_right _ (List.mem_append_right _ (List.mem_append_left _ h)))))) zg_j143_X12_isThere)) rfl rfl rfl (by decide +kernel) ⟨Nat.le_of_ble_eq_true rfl, Nat.le_of_ble_eq_true rfl⟩ 0 rfl rfl rfl rfl (Nat.le_of_ble_eq_true rfl) ⟨Nat.le_of_ble_eq_true rfl, Nat.le_of_ble_eq_true rfl⟩ dX12_whole_40 (fun v ty' w' hp hk' => ?_)
              rcases hp with ⟨rfl, rfl⟩ | ⟨c26081, c26082, c26083, c26084, c26085, rfl, rfl⟩
              · skip
                show GW κ 6 0 0 (wM r g I A L) 43 [(5, .int x26051), (4, .int x25808), (3, .int x25809), (2, .int x25810), (0, .ref (r 0)), (1, .int z1)] [.int 0]
                refine g_if_eq (tgt := 52) (a := 0) hk dX12_whole_43 (by decide) rfl (fun _ => ?_) (fun z9 => absurd (show (0 : Int) = (0 : Int) from by decide) z9)
                refine g_iload hk dX12_whole_52 rfl ?_
                refine g_if_eq (tgt := 72) (a := x26051.toInt) hk dX12_whole_54 (by decide) rfl (fun c26087 => ?_) (fun c26087 => ?_)
                · skip
                  obtain ⟨y26088, ey26088⟩ : ∃ y : Int32, y = x25808 + Int32.ofInt 1 := ⟨_, rfl⟩
                  have hy26088 : y26088.toInt = x25808.toInt + 1 := i32_add ey26088 rfl (by decide) (by omega) (by omega)
                  refine g_iinc (v := y26088) (lv' := [(4, .int y26088), (5, .int x26051), (3, .int x25809), (2, .int x25810), (0, .ref (r 0)), (1, .int z1)]) hk 1 dX12_whole_72 rfl ey26088.symm (by decide) rfl ?_
                  refine g_goto (tgt := 20) hk dX12_whole_75 (by decide) ?_
                  exact g_lv (List.forall_mem_cons.mpr ⟨List.mem_of_getElem? (i := 0) rfl, (List.forall_mem_cons.mpr ⟨List.mem_of_getElem? (i := 2) rfl, (List.forall_mem_cons.mpr ⟨List.mem_of_getElem? (i := 3) rfl, (List.forall_mem_cons.mpr ⟨List.mem_of_getElem? (i := 4) rfl, (List.forall_mem_cons.mpr ⟨List.mem_of_getElem? (i := 5) rfl, (fun _ h => absurd h List.not_mem_nil)⟩)⟩)⟩)⟩)⟩) (ih26047 y26088 x25809 x25810 (by omega) (by omega) (by omega) (by omega) (by omega) (by omega) (by omega) (by omega))
                · skip
                  refine g_iload hk dX12_whole_57 rfl ?_
                  refine g_iload_n hk dX12_whole_59 rfl ?_
                  refine g_icmp_gt (tgt := 66) (a := x26051.toInt) (b := x25809.toInt) hk dX12_whole_60 (by decide) rfl rfl (fun c26089 => ?_) (fun c26089 => ?_)
                  · skip
                    refine g_iload hk dX12_whole_66 rfl ?_
                    refine g_istore_n (lv' := [(2, .int x25808), (5, .int x26051), (4, .int x25808), (3, .int x25809), (0, .ref (r 0)), (1, .int z1)]) hk dX12_whole_68 (by decide) rfl ?_
                    refine g_iload hk dX12_whole_69 rfl ?_
                    refine g_istore_n (lv' := [(3, .int x26051), (2, .int x25808), (5, .int x26051), (4, .int x25808), (0, .ref (r 0)), (1, .int z1)]) hk dX12_whole_71 (by decide) rfl ?_
                    obtain ⟨y26090, ey26090⟩ : ∃ y : Int32, y = x25808 + Int32.ofInt 1 := ⟨_, rfl⟩
                    have hy26090 : y26090.toInt = x25808.toInt + 1 := i32_add ey26090 rfl (by decide) (by omega) (by omega)
                    refine g_iinc (v := y26090) (lv' := [(4, .int y26090), (3, .int x26051), (2, .int x25808), (5, .int x26051), (0, .ref (r 0)), (1, .int z1)]) hk 3 dX12_whole_72 rfl ey26090.symm (by decide) rfl ?_
                    refine g_goto (tgt := 20) hk dX12_whole_75 (by decide) ?_
                    exact g_lv (List.forall_mem_cons.mpr ⟨List.mem_of_getElem? (i := 0) rfl, (List.forall_mem_cons.mpr ⟨List.mem_of_getElem? (i := 1) rfl, (List.forall_mem_cons.mpr ⟨List.mem_of_getElem? (i := 2) rfl, (List.forall_mem_cons.mpr ⟨List.mem_of_getElem? (i := 4) rfl, (List.forall_mem_cons.mpr ⟨List.mem_of_getElem? (i := 5) rfl, (fun _ h => absurd h List.not_mem_nil)⟩)⟩)⟩)⟩)⟩) (ih26047 y26090 x26051 x25808 (by omega) (by omega) (by omega) (by omega) (by omega) (by omega) (by omega) (by omega))
                  · skip
                    refine g_goto (tgt := 72) hk dX12_whole_63 (by decide) ?_
                    obtain ⟨y26091, ey26091⟩ : ∃ y : Int32, y = x25808 + Int32.ofInt 1 := ⟨_, rfl⟩
                    have hy26091 : y26091.toInt = x25808.toInt + 1 := i32_add ey26091 rfl (by decide) (by omega) (by omega)
                    refine g_iinc (v := y26091) (lv' := [(4, .int y26091), (5, .int x26051), (3, .int x25809), (2, .int x25810), (0, .ref (r 0)), (1, .int z1)]) hk 1 dX12_whole_72 rfl ey26091.symm (by decide) rfl ?_
                    refine g_goto (tgt := 20) hk dX12_whole_75 (by decide) ?_
                    exact g_lv (List.forall_mem_cons.mpr ⟨List.mem_of_getElem? (i := 0) rfl, (List.forall_mem_cons.mpr ⟨List.mem_of_getElem? (i := 2) rfl, (List.forall_mem_cons.mpr ⟨List.mem_of_getElem? (i := 3) rfl, (List.forall_mem_cons.mpr ⟨List.mem_of_getElem? (i := 4) rfl, (List.forall_mem_cons.mpr ⟨List.mem_of_getElem? (i := 5) rfl, (fun _ h => absurd h List.not_mem_nil)⟩)⟩)⟩)⟩)⟩) (ih26047 y26091 x25809 x25810 (by omega) (by omega) (by omega) (by omega) (by omega) (by omega) (by omega) (by omega))
              · skip
                show GW κ 6 0 0 (wM r g I A L) 43 [(5, .int x26051), (4, .int x25808), (3, .int x25809), (2, .int x25810), (0, .ref (r 0)), (1, .int z1)] [.int 1]
                refine g_if_eq (tgt := 52) (a := 1) hk dX12_whole_43 (by decide) rfl (fun z9 => absurd z9 (show ¬ ((1 : Int) = (0 : Int)) from by decide)) (fun _ => ?_)
                obtain ⟨y26092, ey26092⟩ : ∃ y : Int32, y = x26051 + Int32.ofInt 1 := ⟨_, rfl⟩
                have hy26092 : y26092.toInt = x26051.toInt + 1 := i32_add ey26092 rfl (by decide) (by omega) (by omega)
                refine g_iinc (v := y26092) (lv' := [(5, .int y26092), (4, .int x25808), (3, .int x25809), (2, .int x25810), (0, .ref (r 0)), (1, .int z1)]) hk 0 dX12_whole_46 rfl ey26092.symm (by decide) rfl ?_
                refine g_goto (tgt := 34) hk dX12_whole_49 (by decide) ?_
                exact g_lv (List.forall_mem_cons.mpr ⟨List.mem_of_getElem? (i := 0) rfl, (List.forall_mem_cons.mpr ⟨List.mem_of_getElem? (i := 1) rfl, (List.forall_mem_cons.mpr ⟨List.mem_of_getElem? (i := 2) rfl, (List.forall_mem_cons.mpr ⟨List.mem_of_getElem? (i := 3) rfl, (List.forall_mem_cons.mpr ⟨List.mem_of_getElem? (i := 4) rfl, (List.forall_mem_cons.mpr ⟨List.mem_of_getElem? (i := 5) rfl, (fun _ h => absurd h List.not_mem_nil)⟩)⟩)⟩)⟩)⟩)⟩) (ih26078 y26092 (by omega) (by omega) (by omega) (by omega) (by omega))
          obtain ⟨n26093, n26093a, n26093b⟩ : ∃ n : Nat, 161 - (0 : Int32).toInt < (n : Int) ∧ 0 < n := ⟨((161 - (0 : Int32).toInt : Int)).toNat + 1, by omega, by omega⟩
          exact lp26075 n26093 0 (by omega) (by omega) (by omega) n26093a n26093b
    have k26094 : ((-2) : Int32).toInt = (-2) := rfl
    obtain ⟨n26095, n26095a, n26095b⟩ : ∃ n : Nat, 161 - (0 : Int32).toInt < (n : Int) ∧ 0 < n := ⟨((161 - (0 : Int32).toInt : Int)).toNat + 1, by omega, by omega⟩
    exact lp26044 n26095 0 (-2) (-2) (by omega) (by omega) (by omega) (by omega) (by omega) (by omega) n26095a n26095b
def wo_j214_X12_fired : List Cond := [Cond.methodLink RX12 323 yX12_copies, Cond.instanceMethod yX12_copies, Cond.selects RX12 yX12_copies yX12_copies, Cond.initialized RX12, Cond.fieldLink RX12 49 "WarpDeskModel" "queries" "[I", Cond.fieldLink RX12 197 "WarpDeskModel" "live" "I", Cond.fieldLink RX12 70 "WarpDeskModel" "now" "[I", Cond.methodLink RX12 254 yX12_wideOf, Cond.instanceMethod yX12_wideOf, Cond.selects RX12 yX12_wideOf yX12_wideOf, Cond.methodLink RX12 342 yX12_isOf, Cond.instanceMethod yX12_isOf, Cond.selects RX12 yX12_isOf yX12_isOf, Cond.methodLink RX12 345 yX12_distanceOf, Cond.instanceMethod yX12_distanceOf, Cond.selects RX12 yX12_distanceOf yX12_distanceOf]
def wz_j214_X12_fired : List Cond := .code yX12_fired cX12_fired 5 (some .int) :: (wo_j214_X12_fired ++ (wsX120 ++ (wz_j151_X12_copies ++ (wz_j148_X12_wideOf ++ (wz_j168_X12_isOf ++ (wz_j169_X12_distanceOf ++ ([] : List Cond)))))))
theorem zg_j214_X12_fired : ∀ w ∈ wz_j214_X12_fired, goodWord w = true := zg_cons rfl (zg_app (by decide +kernel) (zg_app zgU_wsX120 (zg_app zg_j151_X12_copies (zg_app zg_j148_X12_wideOf (zg_app zg_j168_X12_isOf (zg_app zg_j169_X12_distanceOf zg_nil))))))
theorem zi_j214_X12_fired : ∀ w ∈ wz_j214_X12_fired, w ∈ lw_tbl := zi_cons zw_1910 (zi_app (zi_cons zw_1679 (zi_cons zw_1681 (zi_cons zw_70 (zi_cons zw_115 (zi_cons zw_1406 (zi_cons zw_1400 (zi_cons zw_1413 (zi_cons zw_1667 (zi_cons zw_1669 (zi_cons zw_68 (zi_cons zw_1755 (zi_cons zw_1757 (zi_cons zw_78 (zi_cons zw_1759 (zi_cons zw_1761 (zi_cons zw_79 zi_nil)))))))))))))))) (zi_app inX12 (zi_app zi_j151_X12_copies (zi_app zi_j148_X12_wideOf (zi_app zi_j168_X12_isOf (zi_app zi_j169_X12_distanceOf zi_nil))))))
set_option maxHeartbeats 4000000 in
set_option maxRecDepth 100000 in
theorem j214_X12_fired (l : Launch) (D : va_G) (zt : Nat × Nat × Nat × (Nat → Nat) × (Nat → Nat)) (r : Nat → Nat) (g : Nat → ClassId) (I : Nat → Int32) (A : Nat → Nat → Int32) (L : Nat → Nat → Int64) (z1 : Int32) (hIv : IvM I A) : GM l D zt (tyM g) yX12_fired wz_j214_X12_fired ({ frames := 6, cells := 0, slots := 0, locals := 134 } : Room) [.ref (r 0), .int z1] (wM r g I A L) (fun v _ w' => ∃ (I' : Nat → Int32) (A' : Nat → Nat → Int32) (L' : Nat → Nat → Int64), Md [18, 19, 20] I I' ∧ Md [18, 19, 20, 21] A A' ∧ IvM I' A' ∧ ∃ y0 : Int32, v = some (.int y0) ∧ w' = wM r g I' A' L') 0 0 := by
  refine GM.of (cc := cX12_fired) (maxL := 5) (ret := (some .int)) (own := RX12) (lv := [(0, .ref (r 0)), (1, .int z1)]) (by decide) rfl rfl (Nat.le_of_ble_eq_true rfl) rfl (fun κ sz hk hR hN => ?_)
  have hin12 : ∀ w ∈ u_ws RX12 TX12 55, w ∈ wz_j214_X12_fired := fun w h => (List.mem_cons_of_mem _ (List.mem_append_right _ (List.mem_append_left _ h)))
  refine g_iload_n hk dX12_fired_0 rfl ?_
  have b26096l := Int32.le_toInt z1
  have b26096h := Int32.toInt_lt z1
  refine g_if_ge (tgt := 6) (a := z1.toInt) hk dX12_fired_1 (by decide) rfl (fun c26097 => ?_) (fun c26097 => ?_)
  · skip
    refine g_aload_n hk dX12_fired_6 rfl ?_
    refine g_callV (n := 0) hk (j151_X12_copies l D zt r g I A L  hIv) (SP.same _) (fun _ h => h) (gi_V (List.mem_cons_of_mem _ (List.mem_append_left _ (List.mem_of_getElem? (i := 0) rfl))) (List.mem_cons_of_mem _ (List.mem_append_left _ (List.mem_of_getElem? (i := 1) rfl))) (List.mem_cons_of_mem _ (List.mem_append_left _ (List.mem_of_getElem? (i := 2) rfl))) (List.mem_cons_of_mem _ (List.mem_append_left _ (List.mem_of_getElem? (i := 3) rfl))) (gi_sub (fun w h => (List.mem_cons_of_mem _ (List.mem_append_right _ (List.mem_append_right _ (List.mem_append_left _ h))))) zg_j151_X12_copies)) rfl rfl rfl (by decide +kernel) ⟨Nat.le_of_ble_eq_true rfl, Nat.le_of_ble_eq_true rfl⟩ 0 rfl rfl rfl rfl (Nat.le_of_ble_eq_true rfl) ⟨Nat.le_of_ble_eq_true rfl, Nat.le_of_ble_eq_true rfl⟩ dX12_fired_7 (fun v ty' w' hp hk' => ?_)
    obtain ⟨I26099, A26099, L26099, hI26099, hA26099, hV26099, r26100, r26101, rfl, rfl⟩ := hp
    have f26102 := IvM_s17_0 hIv
    have f26103 := IvM_s17_164 hIv
    show GW κ 5 0 0 (wM r g I26099 A26099 L26099) 10 [(0, .ref (r 0)), (1, .int z1)] []
    refine g_iconst (v := 0) hk dX12_fired_10 (by decide) ?_
    refine g_istore_n (lv' := [(2, .int 0), (0, .ref (r 0)), (1, .int z1)]) hk dX12_fired_11 (by decide) rfl ?_
    refine g_iconst (v := 0) hk dX12_fired_12 (by decide) ?_
    refine g_istore_n (lv' := [(3, .int 0), (2, .int 0), (0, .ref (r 0)), (1, .int z1)]) hk dX12_fired_13 (by decide) rfl ?_
    have lp26353 : ∀ (n26354 : Nat) (x26104 : Int32) (x26105 : Int32) (I26108 : Nat → Int32) (A26108 : Nat → Nat → Int32) (L26108 : Nat → Nat → Int64), (Md [18, 19, 20] I26099 I26108) → (Md [19, 20, 21] A26099 A26108) → (IvM I26108 A26108) → (0 ≤ x26104.toInt) → (x26104.toInt ≤ 5) → (6 - x26104.toInt < (n26354 : Int)) → (0 < n26354) → GW κ 5 0 0 (wM r g I26108 A26108 L26108) 14 [(3, .int x26104), (2, .int x26105), (0, .ref (r 0)), (1, .int z1)] [] := by
      intro n26354
      induction n26354 with
      | zero =>
        intro x26104 x26105 I26108 A26108 L26108 hI26108 hA26108 hV26108 h26351 h26352 m26355 m26355z
        exact absurd m26355z (Nat.lt_irrefl 0)
      | succ n26354 ih26356 =>
        intro x26104 x26105 I26108 A26108 L26108 hI26108 hA26108 hV26108 h26351 h26352 m26355 m26355z
        refine g_iload_n hk dX12_fired_14 rfl ?_
        refine g_aload_n hk dX12_fired_15 rfl ?_
        refine gM_r0_28 hk hin12 (List.mem_cons_of_mem _ (List.mem_append_left _ (List.mem_of_getElem? (i := 4) rfl))) dX12_fired_16 ?_
        refine g_aload_n hk dX12_fired_19 rfl ?_
        refine gM_i15 (v := (I 15)) hk hin12 (List.mem_cons_of_mem _ (List.mem_append_left _ (List.mem_of_getElem? (i := 5) rfl))) dX12_fired_20 ((hI26108 15 rfl).trans (hI26099 15 rfl)) ?_
        have f26357 := IvM_f15 hIv
        by_cases c26358 : (I 15).toInt = 0
        · have ec26358 : (I 15) = 0 := Int32.toInt_inj.mp c26358
          rw [ec26358]
          show GW κ 5 0 0 (wM r g I26108 A26108 L26108) 23 [(3, .int x26104), (2, .int x26105), (0, .ref (r 0)), (1, .int z1)] [.int 0, .ref (r 11), .int x26104]
          refine lM_10 (v := (A 10 0)) hk (vp_in_iff.mpr ⟨by decide, by decide⟩) ((congrFun (hA26108 10 rfl) _).trans (congrFun (hA26099 10 rfl) _)) dX12_fired_23 ?_
          have f26359 := IvM_s10_0 hIv
          refine g_icmp_ge (tgt := 74) (a := x26104.toInt) (b := (A 10 0).toInt) hk dX12_fired_24 (by decide) rfl rfl (fun c26360 => ?_) (fun c26360 => ?_)
          · skip
            refine g_iload_n hk dX12_fired_74 rfl ?_
            have b26361l := Int32.le_toInt x26105
            have b26361h := Int32.toInt_lt x26105
            exact g_iret hk hR rfl ⟨I26108, A26108, L26108, (show Md [18, 19, 20] I I26108 from (Md.tr (Md.tr Md.rf hI26099 rfl) hI26108 rfl)), (show Md [18, 19, 20, 21] A A26108 from (Md.tr (Md.tr Md.rf hA26099 rfl) hA26108 rfl)), hV26108, x26105, rfl, rfl⟩ dX12_fired_75
          · skip
            refine g_aload_n hk dX12_fired_27 rfl ?_
            refine gM_r0_35 hk hin12 (List.mem_cons_of_mem _ (List.mem_append_left _ (List.mem_of_getElem? (i := 6) rfl))) dX12_fired_28 ?_
            refine g_iconst (v := 0) hk dX12_fired_31 (by decide) ?_
            refine lM_17 (v := (A 17 0)) hk (vp_in_iff.mpr ⟨by decide, by decide⟩) ((congrFun (hA26108 17 rfl) _).trans (congrFun (hA26099 17 rfl) _)) dX12_fired_32 ?_
            refine g_aload_n hk dX12_fired_33 rfl ?_
            refine g_iload_n hk dX12_fired_34 rfl ?_
            refine g_callV (n := 1) hk (j148_X12_wideOf l D zt r g I26108 A26108 L26108 x26104 hV26108 (by omega) (by omega)) (SP.same _) (fun _ h => h) (gi_V (List.mem_cons_of_mem _ (List.mem_append_left _ (List.mem_of_getElem? (i := 7) rfl))) (List.mem_cons_of_mem _ (List.mem_append_left _ (List.mem_of_getElem? (i := 8) rfl))) (List.mem_cons_of_mem _ (List.mem_append_left _ (List.mem_of_getElem? (i := 9) rfl))) (List.mem_cons_of_mem _ (List.mem_append_left _ (List.mem_of_getElem? (i := 3) rfl))) (gi_sub (fun w h => (List.mem_cons_of_mem _ (List.mem_append_right _ (List.mem_append_right _ (List.mem_append_right _ (List.mem_append_left _ h)))))) zg_j148_X12_wideOf)) rfl rfl rfl (by decide +kernel) ⟨Nat.le_of_ble_eq_true rfl, Nat.le_of_ble_eq_true rfl⟩ 0 rfl rfl rfl rfl (Nat.le_of_ble_eq_true rfl) ⟨Nat.le_of_ble_eq_true rfl, Nat.le_of_ble_eq_true rfl⟩ dX12_fired_35 (fun v ty' w' hp hk' => ?_)
            obtain ⟨rfl, rfl⟩ := hp
            show GW κ 5 0 0 (wM r g I26108 A26108 L26108) 38 [(3, .int x26104), (2, .int x26105), (0, .ref (r 0)), (1, .int z1)] [.int (A26108 11 (5 * (I26108 15) + x26104).toNatClampNeg), .int (A 17 0)]
            refine g_norm (v := (A 11 (5 * (I 15) + x26104).toNatClampNeg)) (by rw [show I26108 15 = (I 15) from ((hI26108 15 rfl).trans (hI26099 15 rfl))]; exact ((congrFun (hA26108 11 rfl) _).trans (congrFun (hA26099 11 rfl) _))) ?_
            have f26362 : 0 ≤ (A 11 (5 * (I 15) + x26104).toNatClampNeg).toInt ∧ (A 11 (5 * (I 15) + x26104).toNatClampNeg).toInt ≤ 16 := IvM_a11 hIv _
            refine g_isub hk dX12_fired_38 ?_
            refine g_topi (fun y26363 ey26363 => ?_)
            have hy26363 : y26363.toInt = (A 17 0).toInt - (A 11 (5 * (I 15) + x26104).toNatClampNeg).toInt := i32_sub ey26363 rfl rfl (by omega) (by omega)
            refine g_istore (lv' := [(4, .int y26363), (3, .int x26104), (2, .int x26105), (0, .ref (r 0)), (1, .int z1)]) hk dX12_fired_39 (by decide) rfl ?_
            refine g_aload_n hk dX12_fired_41 rfl ?_
            refine g_iload_n hk dX12_fired_42 rfl ?_
            refine g_iload hk dX12_fired_43 rfl ?_
            refine g_callV (n := 2) hk (j168_X12_isOf l D zt r g I26108 A26108 L26108 x26104 y26363 hV26108) (SP.same _) (fun _ h => h) (gi_V (List.mem_cons_of_mem _ (List.mem_append_left _ (List.mem_of_getElem? (i := 10) rfl))) (List.mem_cons_of_mem _ (List.mem_append_left _ (List.mem_of_getElem? (i := 11) rfl))) (List.mem_cons_of_mem _ (List.mem_append_left _ (List.mem_of_getElem? (i := 12) rfl))) (List.mem_cons_of_mem _ (List.mem_append_left _ (List.mem_of_getElem? (i := 3) rfl))) (gi_sub (fun w h => (List.mem_cons_of_mem _ (List.mem_append_right _ (List.mem_append_right _ (List.mem_append_right _ (List.mem_append_right _ (List.mem_append_left _ h))))))) zg_j168_X12_isOf)) rfl rfl rfl (by decide +kernel) ⟨Nat.le_of_ble_eq_true rfl, Nat.le_of_ble_eq_true rfl⟩ 0 rfl rfl rfl rfl (Nat.le_of_ble_eq_true rfl) ⟨Nat.le_of_ble_eq_true rfl, Nat.le_of_ble_eq_true rfl⟩ dX12_fired_45 (fun v ty' w' hp hk' => ?_)
            rcases hp with ⟨rfl, rfl⟩ | ⟨c26365, c26366, c26367, c26368, c26369, c26370, c26371, c26372, c26373, c26374, c26375, c26376, rfl, rfl⟩
            · skip
              show GW κ 5 0 0 (wM r g I26108 A26108 L26108) 48 [(4, .int y26363), (3, .int x26104), (2, .int x26105), (0, .ref (r 0)), (1, .int z1)] [.int 0]
              refine g_if_eq (tgt := 68) (a := 0) hk dX12_fired_48 (by decide) rfl (fun _ => ?_) (fun z9 => absurd (show (0 : Int) = (0 : Int) from by decide) z9)
              obtain ⟨y26378, ey26378⟩ : ∃ y : Int32, y = x26104 + Int32.ofInt 1 := ⟨_, rfl⟩
              have hy26378 : y26378.toInt = x26104.toInt + 1 := i32_add ey26378 rfl (by decide) (by omega) (by omega)
              refine g_iinc (v := y26378) (lv' := [(3, .int y26378), (4, .int y26363), (2, .int x26105), (0, .ref (r 0)), (1, .int z1)]) hk 1 dX12_fired_68 rfl ey26378.symm (by decide) rfl ?_
              refine g_goto (tgt := 14) hk dX12_fired_71 (by decide) ?_
              have b26379l := Int32.le_toInt x26105
              have b26379h := Int32.toInt_lt x26105
              exact g_lv (List.forall_mem_cons.mpr ⟨List.mem_of_getElem? (i := 0) rfl, (List.forall_mem_cons.mpr ⟨List.mem_of_getElem? (i := 2) rfl, (List.forall_mem_cons.mpr ⟨List.mem_of_getElem? (i := 3) rfl, (List.forall_mem_cons.mpr ⟨List.mem_of_getElem? (i := 4) rfl, (fun _ h => absurd h List.not_mem_nil)⟩)⟩)⟩)⟩) (ih26356 y26378 x26105 I26108 A26108 L26108 (show Md [18, 19, 20] I26099 I26108 from Md.tr hI26108 (show Md [18, 19, 20] I26108 I26108 from Md.rf) rfl) (show Md [19, 20, 21] A26099 A26108 from Md.tr hA26108 (show Md [19, 20, 21] A26108 A26108 from Md.rf) rfl) hV26108 (by omega) (by omega) (by omega) (by omega))
            · skip
              rw [show (A26108 11 (5 * (I26108 15) + x26104).toNatClampNeg) = (A 11 (5 * (I 15) + x26104).toNatClampNeg) from (by rw [show I26108 15 = (I 15) from ((hI26108 15 rfl).trans (hI26099 15 rfl))]; exact ((congrFun (hA26108 11 rfl) _).trans (congrFun (hA26099 11 rfl) _)))] at c26375
              rw [show (A26108 11 (5 * (I26108 15) + x26104).toNatClampNeg) = (A 11 (5 * (I 15) + x26104).toNatClampNeg) from (by rw [show I26108 15 = (I 15) from ((hI26108 15 rfl).trans (hI26099 15 rfl))]; exact ((congrFun (hA26108 11 rfl) _).trans (congrFun (hA26099 11 rfl) _)))] at c26376
              show GW κ 5 0 0 (wM r g I26108 A26108 L26108) 48 [(4, .int y26363), (3, .int x26104), (2, .int x26105), (0, .ref (r 0)), (1, .int z1)] [.int 1]
              refine g_if_eq (tgt := 68) (a := 1) hk dX12_fired_48 (by decide) rfl (fun z9 => absurd z9 (show ¬ ((1 : Int) = (0 : Int)) from by decide)) (fun _ => ?_)
              refine g_aload_n hk dX12_fired_51 rfl ?_
              refine g_iload_n hk dX12_fired_52 rfl ?_
              refine g_iload hk dX12_fired_53 rfl ?_
              refine g_callV (n := 2) hk (j169_X12_distanceOf l D zt r g I26108 A26108 L26108 x26104 y26363 hV26108 (by omega) (by omega) (by omega) (by omega) (by first | (rw [show (A26108 11 (5 * (I26108 15) + x26104).toNatClampNeg) = (A 11 (5 * (I 15) + x26104).toNatClampNeg) from (by rw [show I26108 15 = (I 15) from ((hI26108 15 rfl).trans (hI26099 15 rfl))]; exact ((congrFun (hA26108 11 rfl) _).trans (congrFun (hA26099 11 rfl) _)))] <;> omega) | omega) (by first | (rw [show (A26108 11 (5 * (I26108 15) + x26104).toNatClampNeg) = (A 11 (5 * (I 15) + x26104).toNatClampNeg) from (by rw [show I26108 15 = (I 15) from ((hI26108 15 rfl).trans (hI26099 15 rfl))]; exact ((congrFun (hA26108 11 rfl) _).trans (congrFun (hA26099 11 rfl) _)))] <;> omega) | omega)) (SP.same _) (fun _ h => h) (gi_V (List.mem_cons_of_mem _ (List.mem_append_left _ (List.mem_of_getElem? (i := 13) rfl))) (List.mem_cons_of_mem _ (List.mem_append_left _ (List.mem_of_getElem? (i := 14) rfl))) (List.mem_cons_of_mem _ (List.mem_append_left _ (List.mem_of_getElem? (i := 15) rfl))) (List.mem_cons_of_mem _ (List.mem_append_left _ (List.mem_of_getElem? (i := 3) rfl))) (gi_sub (fun w h => (List.mem_cons_of_mem _ (List.mem_append_right _ (List.mem_append_right _ (List.mem_append_right _ (List.mem_append_right _ (List.mem_append_right _ (List.mem_append_left _ h)))))))) zg_j169_X12_distanceOf)) rfl rfl rfl (by decide +kernel) ⟨Nat.le_of_ble_eq_true rfl, Nat.le_of_ble_eq_true rfl⟩ 0 rfl rfl rfl rfl (Nat.le_of_ble_eq_true rfl) ⟨Nat.le_of_ble_eq_true rfl, Nat.le_of_ble_eq_true rfl⟩ dX12_fired_55 (fun v ty' w' hp hk' => ?_)
              obtain ⟨I26381, A26381, L26381, hI26381, hA26381, hV26381, y26380, r26382, rfl, rfl⟩ := hp
              have f26383 := IvM_f18 hV26381
              show GW κ 5 0 0 (wM r g I26381 A26381 L26381) 58 [(4, .int y26363), (3, .int x26104), (2, .int x26105), (0, .ref (r 0)), (1, .int z1)] [.int y26380]
              refine g_iload_n hk dX12_fired_58 rfl ?_
              have b26384l := Int32.le_toInt y26380
              have b26384h := Int32.toInt_lt y26380
              refine g_icmp_gt (tgt := 68) (a := y26380.toInt) (b := z1.toInt) hk dX12_fired_59 (by decide) rfl rfl (fun c26385 => ?_) (fun c26385 => ?_)
              · skip
                obtain ⟨y26386, ey26386⟩ : ∃ y : Int32, y = x26104 + Int32.ofInt 1 := ⟨_, rfl⟩
                have hy26386 : y26386.toInt = x26104.toInt + 1 := i32_add ey26386 rfl (by decide) (by omega) (by omega)
                refine g_iinc (v := y26386) (lv' := [(3, .int y26386), (4, .int y26363), (2, .int x26105), (0, .ref (r 0)), (1, .int z1)]) hk 1 dX12_fired_68 rfl ey26386.symm (by decide) rfl ?_
                refine g_goto (tgt := 14) hk dX12_fired_71 (by decide) ?_
                have b26387l := Int32.le_toInt x26105
                have b26387h := Int32.toInt_lt x26105
                exact g_lv (List.forall_mem_cons.mpr ⟨List.mem_of_getElem? (i := 0) rfl, (List.forall_mem_cons.mpr ⟨List.mem_of_getElem? (i := 2) rfl, (List.forall_mem_cons.mpr ⟨List.mem_of_getElem? (i := 3) rfl, (List.forall_mem_cons.mpr ⟨List.mem_of_getElem? (i := 4) rfl, (fun _ h => absurd h List.not_mem_nil)⟩)⟩)⟩)⟩) (ih26356 y26386 x26105 I26381 A26381 L26381 (show Md [18, 19, 20] I26099 I26381 from Md.tr hI26108 (show Md [18, 19, 20] I26108 I26381 from (Md.tr Md.rf hI26381 rfl)) rfl) (show Md [19, 20, 21] A26099 A26381 from Md.tr hA26108 (show Md [19, 20, 21] A26108 A26381 from (Md.tr Md.rf hA26381 rfl)) rfl) hV26381 (by omega) (by omega) (by omega) (by omega))
              · skip
                refine g_iload_n hk dX12_fired_62 rfl ?_
                refine g_iconst (v := 1) hk dX12_fired_63 (by decide) ?_
                refine g_iload_n hk dX12_fired_64 rfl ?_
                refine g_ishl hk dX12_fired_65 ?_
                refine g_topi (fun y26388 ey26388 => ?_)
                refine g_ior hk dX12_fired_66 ?_
                refine g_topi (fun y26389 ey26389 => ?_)
                refine g_istore_n (lv' := [(2, .int y26389), (4, .int y26363), (3, .int x26104), (0, .ref (r 0)), (1, .int z1)]) hk dX12_fired_67 (by decide) rfl ?_
                obtain ⟨y26390, ey26390⟩ : ∃ y : Int32, y = x26104 + Int32.ofInt 1 := ⟨_, rfl⟩
                have hy26390 : y26390.toInt = x26104.toInt + 1 := i32_add ey26390 rfl (by decide) (by omega) (by omega)
                refine g_iinc (v := y26390) (lv' := [(3, .int y26390), (2, .int y26389), (4, .int y26363), (0, .ref (r 0)), (1, .int z1)]) hk 2 dX12_fired_68 rfl ey26390.symm (by decide) rfl ?_
                refine g_goto (tgt := 14) hk dX12_fired_71 (by decide) ?_
                have b26391l := Int32.le_toInt y26389
                have b26391h := Int32.toInt_lt y26389
                exact g_lv (List.forall_mem_cons.mpr ⟨List.mem_of_getElem? (i := 0) rfl, (List.forall_mem_cons.mpr ⟨List.mem_of_getElem? (i := 1) rfl, (List.forall_mem_cons.mpr ⟨List.mem_of_getElem? (i := 3) rfl, (List.forall_mem_cons.mpr ⟨List.mem_of_getElem? (i := 4) rfl, (fun _ h => absurd h List.not_mem_nil)⟩)⟩)⟩)⟩) (ih26356 y26390 y26389 I26381 A26381 L26381 (show Md [18, 19, 20] I26099 I26381 from Md.tr hI26108 (show Md [18, 19, 20] I26108 I26381 from (Md.tr Md.rf hI26381 rfl)) rfl) (show Md [19, 20, 21] A26099 A26381 from Md.tr hA26108 (show Md [19, 20, 21] A26108 A26381 from (Md.tr Md.rf hA26381 rfl)) rfl) hV26381 (by omega) (by omega) (by omega) (by omega))
        by_cases c26392 : (I 15).toInt = 1
        · have ec26392 : (I 15) = 1 := Int32.toInt_inj.mp c26392
          rw [ec26392]
          show GW κ 5 0 0 (wM r g I26108 A26108 L26108) 23 [(3, .int x26104), (2, .int x26105), (0, .ref (r 0)), (1, .int z1)] [.int 1, .ref (r 11), .int x26104]
          refine lM_10 (v := (A 10 1)) hk (vp_in_iff.mpr ⟨by decide, by decide⟩) ((congrFun (hA26108 10 rfl) _).trans (congrFun (hA26099 10 rfl) _)) dX12_fired_23 ?_
          have f26393 := IvM_s10_1 hIv
          refine g_icmp_ge (tgt := 74) (a := x26104.toInt) (b := (A 10 1).toInt) hk dX12_fired_24 (by decide) rfl rfl (fun c26394 => ?_) (fun c26394 => ?_)
          · skip
            refine g_iload_n hk dX12_fired_74 rfl ?_
            have b26395l := Int32.le_toInt x26105
            have b26395h := Int32.toInt_lt x26105
            exact g_iret hk hR rfl ⟨I26108, A26108, L26108, (show Md [18, 19, 20] I I26108 from (Md.tr (Md.tr Md.rf hI26099 rfl) hI26108 rfl)), (show Md [18, 19, 20, 21] A A26108 from (Md.tr (Md.tr Md.rf hA26099 rfl) hA26108 rfl)), hV26108, x26105, rfl, rfl⟩ dX12_fired_75
          · skip
            refine g_aload_n hk dX12_fired_27 rfl ?_
            refine gM_r0_35 hk hin12 (List.mem_cons_of_mem _ (List.mem_append_left _ (List.mem_of_getElem? (i := 6) rfl))) dX12_fired_28 ?_
            refine g_iconst (v := 0) hk dX12_fired_31 (by decide) ?_
            refine lM_17 (v := (A 17 0)) hk (vp_in_iff.mpr ⟨by decide, by decide⟩) ((congrFun (hA26108 17 rfl) _).trans (congrFun (hA26099 17 rfl) _)) dX12_fired_32 ?_
            refine g_aload_n hk dX12_fired_33 rfl ?_
            refine g_iload_n hk dX12_fired_34 rfl ?_
            refine g_callV (n := 1) hk (j148_X12_wideOf l D zt r g I26108 A26108 L26108 x26104 hV26108 (by omega) (by omega)) (SP.same _) (fun _ h => h) (gi_V (List.mem_cons_of_mem _ (List.mem_append_left _ (List.mem_of_getElem? (i := 7) rfl))) (List.mem_cons_of_mem _ (List.mem_append_left _ (List.mem_of_getElem? (i := 8) rfl))) (List.mem_cons_of_mem _ (List.mem_append_left _ (List.mem_of_getElem? (i := 9) rfl))) (List.mem_cons_of_mem _ (List.mem_append_left _ (List.mem_of_getElem? (i := 3) rfl))) (gi_sub (fun w h => (List.mem_cons_of_mem _ (List.mem_append_right _ (List.mem_append_right _ (List.mem_append_right _ (List.mem_append_left _ h)))))) zg_j148_X12_wideOf)) rfl rfl rfl (by decide +kernel) ⟨Nat.le_of_ble_eq_true rfl, Nat.le_of_ble_eq_true rfl⟩ 0 rfl rfl rfl rfl (Nat.le_of_ble_eq_true rfl) ⟨Nat.le_of_ble_eq_true rfl, Nat.le_of_ble_eq_true rfl⟩ dX12_fired_35 (fun v ty' w' hp hk' => ?_)
            obtain ⟨rfl, rfl⟩ := hp
            show GW κ 5 0 0 (wM r g I26108 A26108 L26108) 38 [(3, .int x26104), (2, .int x26105), (0, .ref (r 0)), (1, .int z1)] [.int (A26108 11 (5 * (I26108 15) + x26104).toNatClampNeg), .int (A 17 0)]
            refine g_norm (v := (A 11 (5 * (I 15) + x26104).toNatClampNeg)) (by rw [show I26108 15 = (I 15) from ((hI26108 15 rfl).trans (hI26099 15 rfl))]; exact ((congrFun (hA26108 11 rfl) _).trans (congrFun (hA26099 11 rfl) _))) ?_
            have f26396 : 0 ≤ (A 11 (5 * (I 15) + x26104).toNatClampNeg).toInt ∧ (A 11 (5 * (I 15) + x26104).toNatClampNeg).toInt ≤ 16 := IvM_a11 hIv _
            refine g_isub hk dX12_fired_38 ?_
            refine g_topi (fun y26397 ey26397 => ?_)
            have hy26397 : y26397.toInt = (A 17 0).toInt - (A 11 (5 * (I 15) + x26104).toNatClampNeg).toInt := i32_sub ey26397 rfl rfl (by omega) (by omega)
            refine g_istore (lv' := [(4, .int y26397), (3, .int x26104), (2, .int x26105), (0, .ref (r 0)), (1, .int z1)]) hk dX12_fired_39 (by decide) rfl ?_
            refine g_aload_n hk dX12_fired_41 rfl ?_
            refine g_iload_n hk dX12_fired_42 rfl ?_
            refine g_iload hk dX12_fired_43 rfl ?_
            refine g_callV (n := 2) hk (j168_X12_isOf l D zt r g I26108 A26108 L26108 x26104 y26397 hV26108) (SP.same _) (fun _ h => h) (gi_V (List.mem_cons_of_mem _ (List.mem_append_left _ (List.mem_of_getElem? (i := 10) rfl))) (List.mem_cons_of_mem _ (List.mem_append_left _ (List.mem_of_getElem? (i := 11) rfl))) (List.mem_cons_of_mem _ (List.mem_append_left _ (List.mem_of_getElem? (i := 12) rfl))) (List.mem_cons_of_mem _ (List.mem_append_left _ (List.mem_of_getElem? (i := 3) rfl))) (gi_sub (fun w h => (List.mem_cons_of_mem _ (List.mem_append_right _ (List.mem_append_right _ (List.mem_append_right _ (List.mem_append_right _ (List.mem_append_left _ h))))))) zg_j168_X12_isOf)) rfl rfl rfl (by decide +kernel) ⟨Nat.le_of_ble_eq_true rfl, Nat.le_of_ble_eq_true rfl⟩ 0 rfl rfl rfl rfl (Nat.le_of_ble_eq_true rfl) ⟨Nat.le_of_ble_eq_true rfl, Nat.le_of_ble_eq_true rfl⟩ dX12_fired_45 (fun v ty' w' hp hk' => ?_)
            rcases hp with ⟨rfl, rfl⟩ | ⟨c26399, c26400, c26401, c26402, c26403, c26404, c26405, c26406, c26407, c26408, c26409, c26410, rfl, rfl⟩
            · skip
              show GW κ 5 0 0 (wM r g I26108 A26108 L26108) 48 [(4, .int y26397), (3, .int x26104), (2, .int x26105), (0, .ref (r 0)), (1, .int z1)] [.int 0]
              refine g_if_eq (tgt := 68) (a := 0) hk dX12_fired_48 (by decide) rfl (fun _ => ?_) (fun z9 => absurd (show (0 : Int) = (0 : Int) from by decide) z9)
              obtain ⟨y26412, ey26412⟩ : ∃ y : Int32, y = x26104 + Int32.ofInt 1 := ⟨_, rfl⟩
              have hy26412 : y26412.toInt = x26104.toInt + 1 := i32_add ey26412 rfl (by decide) (by omega) (by omega)
              refine g_iinc (v := y26412) (lv' := [(3, .int y26412), (4, .int y26397), (2, .int x26105), (0, .ref (r 0)), (1, .int z1)]) hk 1 dX12_fired_68 rfl ey26412.symm (by decide) rfl ?_
              refine g_goto (tgt := 14) hk dX12_fired_71 (by decide) ?_
              have b26413l := Int32.le_toInt x26105
              have b26413h := Int32.toInt_lt x26105
              exact g_lv (List.forall_mem_cons.mpr ⟨List.mem_of_getElem? (i := 0) rfl, (List.forall_mem_cons.mpr ⟨List.mem_of_getElem? (i := 2) rfl, (List.forall_mem_cons.mpr ⟨List.mem_of_getElem? (i := 3) rfl, (List.forall_mem_cons.mpr ⟨List.mem_of_getElem? (i := 4) rfl, (fun _ h => absurd h List.not_mem_nil)⟩)⟩)⟩)⟩) (ih26356 y26412 x26105 I26108 A26108 L26108 (show Md [18, 19, 20] I26099 I26108 from Md.tr hI26108 (show Md [18, 19, 20] I26108 I26108 from Md.rf) rfl) (show Md [19, 20, 21] A26099 A26108 from Md.tr hA26108 (show Md [19, 20, 21] A26108 A26108 from Md.rf) rfl) hV26108 (by omega) (by omega) (by omega) (by omega))
            · skip
              rw [show (A26108 11 (5 * (I26108 15) + x26104).toNatClampNeg) = (A 11 (5 * (I 15) + x26104).toNatClampNeg) from (by rw [show I26108 15 = (I 15) from ((hI26108 15 rfl).trans (hI26099 15 rfl))]; exact ((congrFun (hA26108 11 rfl) _).trans (congrFun (hA26099 11 rfl) _)))] at c26409
              rw [show (A26108 11 (5 * (I26108 15) + x26104).toNatClampNeg) = (A 11 (5 * (I 15) + x26104).toNatClampNeg) from (by rw [show I26108 15 = (I 15) from ((hI26108 15 rfl).trans (hI26099 15 rfl))]; exact ((congrFun (hA26108 11 rfl) _).trans (congrFun (hA26099 11 rfl) _)))] at c26410
              show GW κ 5 0 0 (wM r g I26108 A26108 L26108) 48 [(4, .int y26397), (3, .int x26104), (2, .int x26105), (0, .ref (r 0)), (1, .int z1)] [.int 1]
              refine g_if_eq (tgt := 68) (a := 1) hk dX12_fired_48 (by decide) rfl (fun z9 => absurd z9 (show ¬ ((1 : Int) = (0 : Int)) from by decide)) (fun _ => ?_)
              refine g_aload_n hk dX12_fired_51 rfl ?_
              refine g_iload_n hk dX12_fired_52 rfl ?_
              refine g_iload hk dX12_fired_53 rfl ?_
              refine g_callV (n := 2) hk (j169_X12_distanceOf l D zt r g I26108 A26108 L26108 x26104 y26397 hV26108 (by omega) (by omega) (by omega) (by omega) (by first | (rw [show (A26108 11 (5 * (I26108 15) + x26104).toNatClampNeg) = (A 11 (5 * (I 15) + x26104).toNatClampNeg) from (by rw [show I26108 15 = (I 15) from ((hI26108 15 rfl).trans (hI26099 15 rfl))]; exact ((congrFun (hA26108 11 rfl) _).trans (congrFun (hA26099 11 rfl) _)))] <;> omega) | omega) (by first | (rw [show (A26108 11 (5 * (I26108 15) + x26104).toNatClampNeg) = (A 11 (5 * (I 15) + x26104).toNatClampNeg) from (by rw [show I26108 15 = (I 15) from ((hI26108 15 rfl).trans (hI26099 15 rfl))]; exact ((congrFun (hA26108 11 rfl) _).trans (congrFun (hA26099 11 rfl) _)))] <;> omega) | omega)) (SP.same _) (fun _ h => h) (gi_V (List.mem_cons_of_mem _ (List.mem_append_left _ (List.mem_of_getElem? (i := 13) rfl))) (List.mem_cons_of_mem _ (List.mem_append_left _ (List.mem_of_getElem? (i := 14) rfl))) (List.mem_cons_of_mem _ (List.mem_append_left _ (List.mem_of_getElem? (i := 15) rfl))) (List.mem_cons_of_mem _ (List.mem_append_left _ (List.mem_of_getElem? (i := 3) rfl))) (gi_sub (fun w h => (List.mem_cons_of_mem _ (List.mem_append_right _ (List.mem_append_right _ (List.mem_append_right _ (List.mem_append_right _ (List.mem_append_right _ (List.mem_append_left _ h)))))))) zg_j169_X12_distanceOf)) rfl rfl rfl (by decide +kernel) ⟨Nat.le_of_ble_eq_true rfl, Nat.le_of_ble_eq_true rfl⟩ 0 rfl rfl rfl rfl (Nat.le_of_ble_eq_true rfl) ⟨Nat.le_of_ble_eq_true rfl, Nat.le_of_ble_eq_true rfl⟩ dX12_fired_55 (fun v ty' w' hp hk' => ?_)
              obtain ⟨I26415, A26415, L26415, hI26415, hA26415, hV26415, y26414, r26416, rfl, rfl⟩ := hp
              have f26417 := IvM_f18 hV26415
              show GW κ 5 0 0 (wM r g I26415 A26415 L26415) 58 [(4, .int y26397), (3, .int x26104), (2, .int x26105), (0, .ref (r 0)), (1, .int z1)] [.int y26414]
              refine g_iload_n hk dX12_fired_58 rfl ?_
              have b26418l := Int32.le_toInt y26414
              have b26418h := Int32.toInt_lt y26414
              refine g_icmp_gt (tgt := 68) (a := y26414.toInt) (b := z1.toInt) hk dX12_fired_59 (by decide) rfl rfl (fun c26419 => ?_) (fun c26419 => ?_)
              · skip
                obtain ⟨y26420, ey26420⟩ : ∃ y : Int32, y = x26104 + Int32.ofInt 1 := ⟨_, rfl⟩
                have hy26420 : y26420.toInt = x26104.toInt + 1 := i32_add ey26420 rfl (by decide) (by omega) (by omega)
                refine g_iinc (v := y26420) (lv' := [(3, .int y26420), (4, .int y26397), (2, .int x26105), (0, .ref (r 0)), (1, .int z1)]) hk 1 dX12_fired_68 rfl ey26420.symm (by decide) rfl ?_
                refine g_goto (tgt := 14) hk dX12_fired_71 (by decide) ?_
                have b26421l := Int32.le_toInt x26105
                have b26421h := Int32.toInt_lt x26105
                exact g_lv (List.forall_mem_cons.mpr ⟨List.mem_of_getElem? (i := 0) rfl, (List.forall_mem_cons.mpr ⟨List.mem_of_getElem? (i := 2) rfl, (List.forall_mem_cons.mpr ⟨List.mem_of_getElem? (i := 3) rfl, (List.forall_mem_cons.mpr ⟨List.mem_of_getElem? (i := 4) rfl, (fun _ h => absurd h List.not_mem_nil)⟩)⟩)⟩)⟩) (ih26356 y26420 x26105 I26415 A26415 L26415 (show Md [18, 19, 20] I26099 I26415 from Md.tr hI26108 (show Md [18, 19, 20] I26108 I26415 from (Md.tr Md.rf hI26415 rfl)) rfl) (show Md [19, 20, 21] A26099 A26415 from Md.tr hA26108 (show Md [19, 20, 21] A26108 A26415 from (Md.tr Md.rf hA26415 rfl)) rfl) hV26415 (by omega) (by omega) (by omega) (by omega))
              · skip
                refine g_iload_n hk dX12_fired_62 rfl ?_
                refine g_iconst (v := 1) hk dX12_fired_63 (by decide) ?_
                refine g_iload_n hk dX12_fired_64 rfl ?_
                refine g_ishl hk dX12_fired_65 ?_
                refine g_topi (fun y26422 ey26422 => ?_)
                refine g_ior hk dX12_fired_66 ?_
                refine g_topi (fun y26423 ey26423 => ?_)
                refine g_istore_n (lv' := [(2, .int y26423), (4, .int y26397), (3, .int x26104), (0, .ref (r 0)), (1, .int z1)]) hk dX12_fired_67 (by decide) rfl ?_
                obtain ⟨y26424, ey26424⟩ : ∃ y : Int32, y = x26104 + Int32.ofInt 1 := ⟨_, rfl⟩
                have hy26424 : y26424.toInt = x26104.toInt + 1 := i32_add ey26424 rfl (by decide) (by omega) (by omega)
                refine g_iinc (v := y26424) (lv' := [(3, .int y26424), (2, .int y26423), (4, .int y26397), (0, .ref (r 0)), (1, .int z1)]) hk 2 dX12_fired_68 rfl ey26424.symm (by decide) rfl ?_
                refine g_goto (tgt := 14) hk dX12_fired_71 (by decide) ?_
                have b26425l := Int32.le_toInt y26423
                have b26425h := Int32.toInt_lt y26423
                exact g_lv (List.forall_mem_cons.mpr ⟨List.mem_of_getElem? (i := 0) rfl, (List.forall_mem_cons.mpr ⟨List.mem_of_getElem? (i := 1) rfl, (List.forall_mem_cons.mpr ⟨List.mem_of_getElem? (i := 3) rfl, (List.forall_mem_cons.mpr ⟨List.mem_of_getElem? (i := 4) rfl, (fun _ h => absurd h List.not_mem_nil)⟩)⟩)⟩)⟩) (ih26356 y26424 y26423 I26415 A26415 L26415 (show Md [18, 19, 20] I26099 I26415 from Md.tr hI26108 (show Md [18, 19, 20] I26108 I26415 from (Md.tr Md.rf hI26415 rfl)) rfl) (show Md [19, 20, 21] A26099 A26415 from Md.tr hA26108 (show Md [19, 20, 21] A26108 A26415 from (Md.tr Md.rf hA26415 rfl)) rfl) hV26415 (by omega) (by omega) (by omega) (by omega))
        exfalso; omega
    have k26426 : (0 : Int32).toInt = 0 := rfl
    obtain ⟨n26427, n26427a, n26427b⟩ : ∃ n : Nat, 6 - (0 : Int32).toInt < (n : Int) ∧ 0 < n := ⟨((6 - (0 : Int32).toInt : Int)).toNat + 1, by omega, by omega⟩
    exact lp26353 n26427 0 0 I26099 A26099 L26099 Md.rf Md.rf hV26099 (by omega) (by omega) n26427a n26427b
  · skip
    refine g_iconst (v := (-1)) hk dX12_fired_4 (by decide) ?_
    exact g_iret hk hR rfl ⟨I, A, L, (show Md [18, 19, 20] I I from Md.rf), (show Md [18, 19, 20, 21] A A from Md.rf), hIv, (-1), rfl, rfl⟩ dX12_fired_5
def wo_j215_X12_hold : List Cond := [Cond.methodLink RX12 244 yX12_in, Cond.static yX12_in, Cond.initialized RX12, Cond.fieldLink RX12 100 "WarpDeskModel" "isHeld" "[Z", Cond.fieldLink RX12 104 "WarpDeskModel" "heldRows" "[I", Cond.fieldLink RX12 70 "WarpDeskModel" "now" "[I"]
def wz_j215_X12_hold : List Cond := .code yX12_hold cX12_hold 3 (some .boolean) :: (wo_j215_X12_hold ++ (wsX120 ++ (wz_j145_X12_in ++ ([] : List Cond))))
theorem zg_j215_X12_hold : ∀ w ∈ wz_j215_X12_hold, goodWord w = true := zg_cons rfl (zg_app (by decide +kernel) (zg_app zgU_wsX120 (zg_app zg_j145_X12_in zg_nil)))
theorem zi_j215_X12_hold : ∀ w ∈ wz_j215_X12_hold, w ∈ lw_tbl := zi_cons zw_1938 (zi_app (zi_cons zw_1656 (zi_cons zw_1657 (zi_cons zw_115 (zi_cons zw_1431 (zi_cons zw_1432 (zi_cons zw_1413 zi_nil)))))) (zi_app inX12 (zi_app zi_j145_X12_in zi_nil)))
set_option maxHeartbeats 4000000 in
set_option maxRecDepth 100000 in
theorem j215_X12_hold (l : Launch) (D : va_G) (zt : Nat × Nat × Nat × (Nat → Nat) × (Nat → Nat)) (r : Nat → Nat) (g : Nat → ClassId) (I : Nat → Int32) (A : Nat → Nat → Int32) (L : Nat → Nat → Int64) (z1 : Int32) (hIv : IvM I A) : GM l D zt (tyM g) yX12_hold wz_j215_X12_hold ({ frames := 1, cells := 0, slots := 0, locals := 22 } : Room) [.ref (r 0), .int z1] (wM r g I A L) (fun v _ w' => ∃ (I' : Nat → Int32) (A' : Nat → Nat → Int32) (L' : Nat → Nat → Int64), Md [] I I' ∧ Md [27, 28] A A' ∧ IvM I' A' ∧ ∃ y0 : Int32, ((0 ≤ z1.toInt ∧ z1.toInt ≤ 2 ∧ y0.toInt = 1) ∨ ((z1.toInt < 0 ∨ 2 < z1.toInt) ∧ y0.toInt = 0)) ∧ (0 ≤ y0.toInt) ∧ (y0.toInt ≤ 1) ∧ v = some (.int y0) ∧ w' = wM r g I' A' L') 0 0 := by
  refine GM.of (cc := cX12_hold) (maxL := 3) (ret := (some .boolean)) (own := RX12) (lv := [(0, .ref (r 0)), (1, .int z1)]) (by decide) rfl rfl (Nat.le_of_ble_eq_true rfl) rfl (fun κ sz hk hR hN => ?_)
  have hin12 : ∀ w ∈ u_ws RX12 TX12 55, w ∈ wz_j215_X12_hold := fun w h => (List.mem_cons_of_mem _ (List.mem_append_right _ (List.mem_append_left _ h)))
  refine g_iload_n hk dX12_hold_0 rfl ?_
  refine g_iconst (v := 0) hk dX12_hold_1 (by decide) ?_
  refine g_iconst (v := 2) hk dX12_hold_2 (by decide) ?_
  have k26428 : (0 : Int32).toInt = 0 := rfl
  have k26429 : (2 : Int32).toInt = 2 := rfl
  refine g_callS (n := 3) hk (j145_X12_in l D zt r g I A L z1 0 2 hIv) (SP.same _) (fun _ h => h) (gi_S (List.mem_cons_of_mem _ (List.mem_append_left _ (List.mem_of_getElem? (i := 0) rfl))) (List.mem_cons_of_mem _ (List.mem_append_left _ (List.mem_of_getElem? (i := 1) rfl))) (List.mem_cons_of_mem _ (List.mem_append_left _ (List.mem_of_getElem? (i := 2) rfl))) (gi_sub (fun w h => (List.mem_cons_of_mem _ (List.mem_append_right _ (List.mem_append_right _ (List.mem_append_left _ h))))) zg_j145_X12_in)) rfl rfl rfl (by decide +kernel) ⟨Nat.le_of_ble_eq_true rfl, Nat.le_of_ble_eq_true rfl⟩ rfl rfl (Nat.le_of_ble_eq_true rfl) ⟨Nat.le_of_ble_eq_true rfl, Nat.le_of_ble_eq_true rfl⟩ dX12_hold_3 (fun v ty' w' hp hk' => ?_)
  rcases hp with ⟨c26430, rfl, rfl⟩ | ⟨c26432, c26433, rfl, rfl⟩
  · skip
    have b26435l := Int32.le_toInt z1
    have b26435h := Int32.toInt_lt z1
    show GW κ 3 0 0 (wM r g I A L) 6 [(0, .ref (r 0)), (1, .int z1)] [.int 0]
    refine g_if_ne (tgt := 11) (a := 0) hk dX12_hold_6 (by decide) rfl (fun z9 => absurd z9 (show ¬ ((0 : Int) ≠ (0 : Int)) from by decide)) (fun _ => ?_)
    refine g_iconst (v := 0) hk dX12_hold_9 (by decide) ?_
    exact g_iret hk hR rfl ⟨I, A, L, (show Md [] I I from Md.rf), (show Md [27, 28] A A from Md.rf), hIv, 0, (show (0 ≤ z1.toInt ∧ z1.toInt ≤ 2 ∧ (0 : Int32).toInt = 1) ∨ ((z1.toInt < 0 ∨ 2 < z1.toInt) ∧ (0 : Int32).toInt = 0) from by omega), (by decide), (by decide), rfl, rfl⟩ dX12_hold_10
  · skip
    show GW κ 3 0 0 (wM r g I A L) 6 [(0, .ref (r 0)), (1, .int z1)] [.int 1]
    refine g_if_ne (tgt := 11) (a := 1) hk dX12_hold_6 (by decide) rfl (fun _ => ?_) (fun z9 => absurd (show (1 : Int) ≠ (0 : Int) from by decide) z9)
    refine g_aload_n hk dX12_hold_11 rfl ?_
    refine gM_r0_53 hk hin12 (List.mem_cons_of_mem _ (List.mem_append_left _ (List.mem_of_getElem? (i := 3) rfl))) dX12_hold_12 ?_
    refine g_iload_n hk dX12_hold_15 rfl ?_
    refine g_iconst (v := 1) hk dX12_hold_16 (by decide) ?_
    by_cases c26436 : z1.toInt = 0
    · have ec26436 : z1 = 0 := Int32.toInt_inj.mp c26436
      rw [ec26436]
      show GW κ 3 0 0 (wM r g I A L) 17 [(0, .ref (r 0)), (1, .int 0)] [.int 1, .int 0, .ref (r 28)]
      have k26437 : (1 : Int32).toInt = 1 := rfl
      refine sM_27 (y := (vp_nar .boolean 1)) (j := 0) hk (vp_in_iff.mpr ⟨by decide, by decide⟩) (by decide) rfl dX12_hold_17 ?_
      refine g_iconst (v := 0) hk dX12_hold_18 (by decide) ?_
      refine g_istore_n (lv' := [(2, .int 0), (0, .ref (r 0)), (1, .int 0)]) hk dX12_hold_19 (by decide) rfl ?_
      have lp26438 : ∀ (n26440 k26439 : Nat), k26439 + n26440 = 165 → GW κ 3 0 0 (wM r g I (up2 (up3 A 27 0 (vp_nar .boolean 1)) 28 (cpo (A 17) ((up3 A 27 0 (vp_nar .boolean 1)) 28) (165 * 0) k26439)) L) 20 [(2, .int (nI k26439)), (0, .ref (r 0)), (1, .int 0)] [] := by
        intro n26440
        induction n26440 with
        | zero =>
          intro k26439 hk26439
          obtain rfl : k26439 = 165 := by omega
          show GW κ 3 0 0 (wM r g I (up2 (up3 A 27 0 (vp_nar .boolean 1)) 28 (cpo (A 17) ((up3 A 27 0 (vp_nar .boolean 1)) 28) (165 * 0) 165)) L) 20 [(2, .int 165), (0, .ref (r 0)), (1, .int 0)] []
          refine g_iload_n hk dX12_hold_20 rfl ?_
          refine g_sipush (v := 165) hk dX12_hold_21 (by decide) ?_
          refine g_icmp_ge (tgt := 51) (a := 165) (b := 165) hk dX12_hold_24 (by decide) rfl rfl (fun _ => ?_) (fun z9 => absurd (show (165 : Int) ≤ (165 : Int) from by decide) z9)
          refine g_iconst (v := 1) hk dX12_hold_51 (by decide) ?_
          exact g_iret hk hR rfl ⟨I, (up2 (up3 A 27 0 (vp_nar .boolean 1)) 28 (cpo (A 17) ((up3 A 27 0 (vp_nar .boolean 1)) 28) (165 * 0) 165)), L, (show Md [] I I from Md.rf), (show Md [27, 28] A (up2 (up3 A 27 0 (vp_nar .boolean 1)) 28 (cpo (A 17) ((up3 A 27 0 (vp_nar .boolean 1)) 28) (165 * 0) 165)) from (Md.up2 (Md.up3 Md.rf rfl) rfl)), ⟨(IvM_f1 (I := I) (A := A) hIv), (IvM_f2 (I := I) (A := A) hIv), (IvM_f3 (I := I) (A := A) hIv), (IvM_f4 (I := I) (A := A) hIv), (IvM_f6 (I := I) (A := A) hIv), (IvM_f8 (I := I) (A := A) hIv), (IvM_f15 (I := I) (A := A) hIv), (IvM_f16 (I := I) (A := A) hIv), (IvM_f17 (I := I) (A := A) hIv), (IvM_f18 (I := I) (A := A) hIv), (IvM_f22 (I := I) (A := A) hIv), (IvM_f23 (I := I) (A := A) hIv), (IvM_f24 (I := I) (A := A) hIv), (IvM_a11 (I := I) (A := A) hIv), (IvM_a26 (I := I) (A := A) hIv), (IvM_s8_0 (I := I) (A := A) hIv), (IvM_s8_1 (I := I) (A := A) hIv), (IvM_s10_0 (I := I) (A := A) hIv), (IvM_s10_1 (I := I) (A := A) hIv), (IvM_s17_0 (I := I) (A := A) hIv), (IvM_s17_164 (I := I) (A := A) hIv), (IvM_lv (I := I) (A := A) hIv), (IvM_sd (I := I) (A := A) hIv), (IvM_nq (I := I) (A := A) hIv), (IvM_hr (I := I) (A := A) hIv), (hh_cpo (IvM_hh (I := I) (A := A) hIv) ⟨(IvM_s17_0 (I := I) (A := A) hIv), (IvM_s17_164 (I := I) (A := A) hIv).1⟩), trivial⟩, 1, (show (0 ≤ z1.toInt ∧ z1.toInt ≤ 2 ∧ (1 : Int32).toInt = 1) ∨ ((z1.toInt < 0 ∨ 2 < z1.toInt) ∧ (1 : Int32).toInt = 0) from by omega), (by decide), (by decide), rfl, rfl⟩ dX12_hold_52
        | succ n26440 ih26442 =>
          intro k26439 hk26439
          obtain ⟨x26441, ex26441⟩ : ∃ x : Int32, x = nI k26439 := ⟨_, rfl⟩
          have hx26441 : x26441.toInt = (k26439 : Int) := by rw [ex26441]; exact nI_toInt (by omega)
          have cx26441 : x26441.toNatClampNeg = k26439 := cl_nat hx26441
          rw [← ex26441]
          refine g_iload_n hk dX12_hold_20 rfl ?_
          refine g_sipush (v := 165) hk dX12_hold_21 (by decide) ?_
          refine g_icmp_ge (tgt := 51) (a := x26441.toInt) (b := 165) hk dX12_hold_24 (by decide) rfl rfl (fun z9 => absurd z9 (show ¬ (165 ≤ x26441.toInt) from by omega)) (fun _ => ?_)
          refine g_aload_n hk dX12_hold_27 rfl ?_
          refine gM_r0_54 hk hin12 (List.mem_cons_of_mem _ (List.mem_append_left _ (List.mem_of_getElem? (i := 4) rfl))) dX12_hold_28 ?_
          refine g_sipush (v := 165) hk dX12_hold_31 (by decide) ?_
          refine g_iload_n hk dX12_hold_34 rfl ?_
          refine g_imul hk dX12_hold_35 ?_
          refine g_norm (v := 0) (by decide) ?_
          refine g_iload_n hk dX12_hold_36 rfl ?_
          refine g_iadd hk dX12_hold_37 ?_
          refine g_topi (fun y26443 ey26443 => ?_)
          have hy26443 : y26443.toInt = 0 + x26441.toInt := i32_add ey26443 rfl rfl (by omega) (by omega)
          refine g_aload_n hk dX12_hold_38 rfl ?_
          refine gM_r0_35 hk hin12 (List.mem_cons_of_mem _ (List.mem_append_left _ (List.mem_of_getElem? (i := 5) rfl))) dX12_hold_39 ?_
          refine g_iload_n hk dX12_hold_42 rfl ?_
          refine lM_17 (v := (A 17 x26441.toNatClampNeg)) hk (vp_in_iff.mpr ⟨by omega, by omega⟩) rfl dX12_hold_43 ?_
          refine sM_28 (j := y26443.toNatClampNeg) hk (vp_in_iff.mpr ⟨by omega, by omega⟩) rfl dX12_hold_44 ?_
          obtain ⟨y26444, ey26444⟩ : ∃ y : Int32, y = x26441 + Int32.ofInt 1 := ⟨_, rfl⟩
          have hy26444 : y26444.toInt = x26441.toInt + 1 := i32_add ey26444 rfl (by decide) (by omega) (by omega)
          refine g_iinc (v := y26444) (lv' := [(2, .int y26444), (0, .ref (r 0)), (1, .int 0)]) hk 0 dX12_hold_45 rfl ey26444.symm (by decide) rfl ?_
          refine g_goto (tgt := 20) hk dX12_hold_48 (by decide) ?_
          have q26445 := cl_int (y := x26441) (by omega)
          have q26446 := cl_int (y := y26443) (by omega)
          have eW : (up3 (up2 (up3 A 27 0 (vp_nar .boolean 1)) 28 (cpo (A 17) ((up3 A 27 0 (vp_nar .boolean 1)) 28) (165 * 0) k26439)) 28 (y26443.toNatClampNeg) (A 17 x26441.toNatClampNeg)) = (up2 (up3 A 27 0 (vp_nar .boolean 1)) 28 (cpo (A 17) ((up3 A 27 0 (vp_nar .boolean 1)) 28) (165 * 0) (k26439 + 1))) := cpo_st (by omega) (show (A 17 x26441.toNatClampNeg) = (A 17 k26439) from by rw [show x26441.toNatClampNeg = k26439 from by omega])
          have fy : y26444 = nI (k26439 + 1) := nI_of_toInt (by omega) (by omega)
          rw [eW, fy]
          exact g_lv (List.forall_mem_cons.mpr ⟨List.mem_of_getElem? (i := 0) rfl, (List.forall_mem_cons.mpr ⟨List.mem_of_getElem? (i := 1) rfl, (List.forall_mem_cons.mpr ⟨List.mem_of_getElem? (i := 2) rfl, (fun _ h => absurd h List.not_mem_nil)⟩)⟩)⟩) (ih26442 (k26439 + 1) (by omega))
      have lp26438e := lp26438 165 0 (by omega)
      rw [cpo_0] at lp26438e
      exact lp26438e
    by_cases c26447 : z1.toInt = 1
    · have ec26447 : z1 = 1 := Int32.toInt_inj.mp c26447
      rw [ec26447]
      show GW κ 3 0 0 (wM r g I A L) 17 [(0, .ref (r 0)), (1, .int 1)] [.int 1, .int 1, .ref (r 28)]
      have k26448 : (1 : Int32).toInt = 1 := rfl
      refine sM_27 (y := (vp_nar .boolean 1)) (j := 1) hk (vp_in_iff.mpr ⟨by decide, by decide⟩) (by decide) rfl dX12_hold_17 ?_
      refine g_iconst (v := 0) hk dX12_hold_18 (by decide) ?_
      refine g_istore_n (lv' := [(2, .int 0), (0, .ref (r 0)), (1, .int 1)]) hk dX12_hold_19 (by decide) rfl ?_
      have lp26449 : ∀ (n26451 k26450 : Nat), k26450 + n26451 = 165 → GW κ 3 0 0 (wM r g I (up2 (up3 A 27 1 (vp_nar .boolean 1)) 28 (cpo (A 17) ((up3 A 27 1 (vp_nar .boolean 1)) 28) (165 * 1) k26450)) L) 20 [(2, .int (nI k26450)), (0, .ref (r 0)), (1, .int 1)] [] := by
        intro n26451
        induction n26451 with
        | zero =>
          intro k26450 hk26450
          obtain rfl : k26450 = 165 := by omega
          show GW κ 3 0 0 (wM r g I (up2 (up3 A 27 1 (vp_nar .boolean 1)) 28 (cpo (A 17) ((up3 A 27 1 (vp_nar .boolean 1)) 28) (165 * 1) 165)) L) 20 [(2, .int 165), (0, .ref (r 0)), (1, .int 1)] []
          refine g_iload_n hk dX12_hold_20 rfl ?_
          refine g_sipush (v := 165) hk dX12_hold_21 (by decide) ?_
          refine g_icmp_ge (tgt := 51) (a := 165) (b := 165) hk dX12_hold_24 (by decide) rfl rfl (fun _ => ?_) (fun z9 => absurd (show (165 : Int) ≤ (165 : Int) from by decide) z9)
          refine g_iconst (v := 1) hk dX12_hold_51 (by decide) ?_
          exact g_iret hk hR rfl ⟨I, (up2 (up3 A 27 1 (vp_nar .boolean 1)) 28 (cpo (A 17) ((up3 A 27 1 (vp_nar .boolean 1)) 28) (165 * 1) 165)), L, (show Md [] I I from Md.rf), (show Md [27, 28] A (up2 (up3 A 27 1 (vp_nar .boolean 1)) 28 (cpo (A 17) ((up3 A 27 1 (vp_nar .boolean 1)) 28) (165 * 1) 165)) from (Md.up2 (Md.up3 Md.rf rfl) rfl)), ⟨(IvM_f1 (I := I) (A := A) hIv), (IvM_f2 (I := I) (A := A) hIv), (IvM_f3 (I := I) (A := A) hIv), (IvM_f4 (I := I) (A := A) hIv), (IvM_f6 (I := I) (A := A) hIv), (IvM_f8 (I := I) (A := A) hIv), (IvM_f15 (I := I) (A := A) hIv), (IvM_f16 (I := I) (A := A) hIv), (IvM_f17 (I := I) (A := A) hIv), (IvM_f18 (I := I) (A := A) hIv), (IvM_f22 (I := I) (A := A) hIv), (IvM_f23 (I := I) (A := A) hIv), (IvM_f24 (I := I) (A := A) hIv), (IvM_a11 (I := I) (A := A) hIv), (IvM_a26 (I := I) (A := A) hIv), (IvM_s8_0 (I := I) (A := A) hIv), (IvM_s8_1 (I := I) (A := A) hIv), (IvM_s10_0 (I := I) (A := A) hIv), (IvM_s10_1 (I := I) (A := A) hIv), (IvM_s17_0 (I := I) (A := A) hIv), (IvM_s17_164 (I := I) (A := A) hIv), (IvM_lv (I := I) (A := A) hIv), (IvM_sd (I := I) (A := A) hIv), (IvM_nq (I := I) (A := A) hIv), (IvM_hr (I := I) (A := A) hIv), (hh_cpo (IvM_hh (I := I) (A := A) hIv) ⟨(IvM_s17_0 (I := I) (A := A) hIv), (IvM_s17_164 (I := I) (A := A) hIv).1⟩), trivial⟩, 1, (show (0 ≤ z1.toInt ∧ z1.toInt ≤ 2 ∧ (1 : Int32).toInt = 1) ∨ ((z1.toInt < 0 ∨ 2 < z1.toInt) ∧ (1 : Int32).toInt = 0) from by omega), (by decide), (by decide), rfl, rfl⟩ dX12_hold_52
        | succ n26451 ih26453 =>
          intro k26450 hk26450
          obtain ⟨x26452, ex26452⟩ : ∃ x : Int32, x = nI k26450 := ⟨_, rfl⟩
          have hx26452 : x26452.toInt = (k26450 : Int) := by rw [ex26452]; exact nI_toInt (by omega)
          have cx26452 : x26452.toNatClampNeg = k26450 := cl_nat hx26452
          rw [← ex26452]
          refine g_iload_n hk dX12_hold_20 rfl ?_
          refine g_sipush (v := 165) hk dX12_hold_21 (by decide) ?_
          refine g_icmp_ge (tgt := 51) (a := x26452.toInt) (b := 165) hk dX12_hold_24 (by decide) rfl rfl (fun z9 => absurd z9 (show ¬ (165 ≤ x26452.toInt) from by omega)) (fun _ => ?_)
          refine g_aload_n hk dX12_hold_27 rfl ?_
          refine gM_r0_54 hk hin12 (List.mem_cons_of_mem _ (List.mem_append_left _ (List.mem_of_getElem? (i := 4) rfl))) dX12_hold_28 ?_
          refine g_sipush (v := 165) hk dX12_hold_31 (by decide) ?_
          refine g_iload_n hk dX12_hold_34 rfl ?_
          refine g_imul hk dX12_hold_35 ?_
          refine g_norm (v := 165) (by decide) ?_
          refine g_iload_n hk dX12_hold_36 rfl ?_
          refine g_iadd hk dX12_hold_37 ?_
          refine g_topi (fun y26454 ey26454 => ?_)
          have hy26454 : y26454.toInt = 165 + x26452.toInt := i32_add ey26454 rfl rfl (by omega) (by omega)
          refine g_aload_n hk dX12_hold_38 rfl ?_
          refine gM_r0_35 hk hin12 (List.mem_cons_of_mem _ (List.mem_append_left _ (List.mem_of_getElem? (i := 5) rfl))) dX12_hold_39 ?_
          refine g_iload_n hk dX12_hold_42 rfl ?_
          refine lM_17 (v := (A 17 x26452.toNatClampNeg)) hk (vp_in_iff.mpr ⟨by omega, by omega⟩) rfl dX12_hold_43 ?_
          refine sM_28 (j := y26454.toNatClampNeg) hk (vp_in_iff.mpr ⟨by omega, by omega⟩) rfl dX12_hold_44 ?_
          obtain ⟨y26455, ey26455⟩ : ∃ y : Int32, y = x26452 + Int32.ofInt 1 := ⟨_, rfl⟩
          have hy26455 : y26455.toInt = x26452.toInt + 1 := i32_add ey26455 rfl (by decide) (by omega) (by omega)
          refine g_iinc (v := y26455) (lv' := [(2, .int y26455), (0, .ref (r 0)), (1, .int 1)]) hk 0 dX12_hold_45 rfl ey26455.symm (by decide) rfl ?_
          refine g_goto (tgt := 20) hk dX12_hold_48 (by decide) ?_
          have q26456 := cl_int (y := x26452) (by omega)
          have q26457 := cl_int (y := y26454) (by omega)
          have eW : (up3 (up2 (up3 A 27 1 (vp_nar .boolean 1)) 28 (cpo (A 17) ((up3 A 27 1 (vp_nar .boolean 1)) 28) (165 * 1) k26450)) 28 (y26454.toNatClampNeg) (A 17 x26452.toNatClampNeg)) = (up2 (up3 A 27 1 (vp_nar .boolean 1)) 28 (cpo (A 17) ((up3 A 27 1 (vp_nar .boolean 1)) 28) (165 * 1) (k26450 + 1))) := cpo_st (by omega) (show (A 17 x26452.toNatClampNeg) = (A 17 k26450) from by rw [show x26452.toNatClampNeg = k26450 from by omega])
          have fy : y26455 = nI (k26450 + 1) := nI_of_toInt (by omega) (by omega)
          rw [eW, fy]
          exact g_lv (List.forall_mem_cons.mpr ⟨List.mem_of_getElem? (i := 0) rfl, (List.forall_mem_cons.mpr ⟨List.mem_of_getElem? (i := 1) rfl, (List.forall_mem_cons.mpr ⟨List.mem_of_getElem? (i := 2) rfl, (fun _ h => absurd h List.not_mem_nil)⟩)⟩)⟩) (ih26453 (k26450 + 1) (by omega))
      have lp26449e := lp26449 165 0 (by omega)
      rw [cpo_0] at lp26449e
      exact lp26449e
    by_cases c26458 : z1.toInt = 2
    · have ec26458 : z1 = 2 := Int32.toInt_inj.mp c26458
      rw [ec26458]
      show GW κ 3 0 0 (wM r g I A L) 17 [(0, .ref (r 0)), (1, .int 2)] [.int 1, .int 2, .ref (r 28)]
      have k26459 : (1 : Int32).toInt = 1 := rfl
      refine sM_27 (y := (vp_nar .boolean 1)) (j := 2) hk (vp_in_iff.mpr ⟨by decide, by decide⟩) (by decide) rfl dX12_hold_17 ?_
      refine g_iconst (v := 0) hk dX12_hold_18 (by decide) ?_
      refine g_istore_n (lv' := [(2, .int 0), (0, .ref (r 0)), (1, .int 2)]) hk dX12_hold_19 (by decide) rfl ?_
      have lp26460 : ∀ (n26462 k26461 : Nat), k26461 + n26462 = 165 → GW κ 3 0 0 (wM r g I (up2 (up3 A 27 2 (vp_nar .boolean 1)) 28 (cpo (A 17) ((up3 A 27 2 (vp_nar .boolean 1)) 28) (165 * 2) k26461)) L) 20 [(2, .int (nI k26461)), (0, .ref (r 0)), (1, .int 2)] [] := by
        intro n26462
        induction n26462 with
        | zero =>
          intro k26461 hk26461
          obtain rfl : k26461 = 165 := by omega
          show GW κ 3 0 0 (wM r g I (up2 (up3 A 27 2 (vp_nar .boolean 1)) 28 (cpo (A 17) ((up3 A 27 2 (vp_nar .boolean 1)) 28) (165 * 2) 165)) L) 20 [(2, .int 165), (0, .ref (r 0)), (1, .int 2)] []
          refine g_iload_n hk dX12_hold_20 rfl ?_
          refine g_sipush (v := 165) hk dX12_hold_21 (by decide) ?_
          refine g_icmp_ge (tgt := 51) (a := 165) (b := 165) hk dX12_hold_24 (by decide) rfl rfl (fun _ => ?_) (fun z9 => absurd (show (165 : Int) ≤ (165 : Int) from by decide) z9)
          refine g_iconst (v := 1) hk dX12_hold_51 (by decide) ?_
          exact g_iret hk hR rfl ⟨I, (up2 (up3 A 27 2 (vp_nar .boolean 1)) 28 (cpo (A 17) ((up3 A 27 2 (vp_nar .boolean 1)) 28) (165 * 2) 165)), L, (show Md [] I I from Md.rf), (show Md [27, 28] A (up2 (up3 A 27 2 (vp_nar .boolean 1)) 28 (cpo (A 17) ((up3 A 27 2 (vp_nar .boolean 1)) 28) (165 * 2) 165)) from (Md.up2 (Md.up3 Md.rf rfl) rfl)), ⟨(IvM_f1 (I := I) (A := A) hIv), (IvM_f2 (I := I) (A := A) hIv), (IvM_f3 (I := I) (A := A) hIv), (IvM_f4 (I := I) (A := A) hIv), (IvM_f6 (I := I) (A := A) hIv), (IvM_f8 (I := I) (A := A) hIv), (IvM_f15 (I := I) (A := A) hIv), (IvM_f16 (I := I) (A := A) hIv), (IvM_f17 (I := I) (A := A) hIv), (IvM_f18 (I := I) (A := A) hIv), (IvM_f22 (I := I) (A := A) hIv), (IvM_f23 (I := I) (A := A) hIv), (IvM_f24 (I := I) (A := A) hIv), (IvM_a11 (I := I) (A := A) hIv), (IvM_a26 (I := I) (A := A) hIv), (IvM_s8_0 (I := I) (A := A) hIv), (IvM_s8_1 (I := I) (A := A) hIv), (IvM_s10_0 (I := I) (A := A) hIv), (IvM_s10_1 (I := I) (A := A) hIv), (IvM_s17_0 (I := I) (A := A) hIv), (IvM_s17_164 (I := I) (A := A) hIv), (IvM_lv (I := I) (A := A) hIv), (IvM_sd (I := I) (A := A) hIv), (IvM_nq (I := I) (A := A) hIv), (IvM_hr (I := I) (A := A) hIv), (hh_cpo (IvM_hh (I := I) (A := A) hIv) ⟨(IvM_s17_0 (I := I) (A := A) hIv), (IvM_s17_164 (I := I) (A := A) hIv).1⟩), trivial⟩, 1, (show (0 ≤ z1.toInt ∧ z1.toInt ≤ 2 ∧ (1 : Int32).toInt = 1) ∨ ((z1.toInt < 0 ∨ 2 < z1.toInt) ∧ (1 : Int32).toInt = 0) from by omega), (by decide), (by decide), rfl, rfl⟩ dX12_hold_52
        | succ n26462 ih26464 =>
          intro k26461 hk26461
          obtain ⟨x26463, ex26463⟩ : ∃ x : Int32, x = nI k26461 := ⟨_, rfl⟩
          have hx26463 : x26463.toInt = (k26461 : Int) := by rw [ex26463]; exact nI_toInt (by omega)
          have cx26463 : x26463.toNatClampNeg = k26461 := cl_nat hx26463
          rw [← ex26463]
          refine g_iload_n hk dX12_hold_20 rfl ?_
          refine g_sipush (v := 165) hk dX12_hold_21 (by decide) ?_
          refine g_icmp_ge (tgt := 51) (a := x26463.toInt) (b := 165) hk dX12_hold_24 (by decide) rfl rfl (fun z9 => absurd z9 (show ¬ (165 ≤ x26463.toInt) from by omega)) (fun _ => ?_)
          refine g_aload_n hk dX12_hold_27 rfl ?_
          refine gM_r0_54 hk hin12 (List.mem_cons_of_mem _ (List.mem_append_left _ (List.mem_of_getElem? (i := 4) rfl))) dX12_hold_28 ?_
          refine g_sipush (v := 165) hk dX12_hold_31 (by decide) ?_
          refine g_iload_n hk dX12_hold_34 rfl ?_
          refine g_imul hk dX12_hold_35 ?_
          refine g_norm (v := 330) (by decide) ?_
          refine g_iload_n hk dX12_hold_36 rfl ?_
          refine g_iadd hk dX12_hold_37 ?_
          refine g_topi (fun y26465 ey26465 => ?_)
          have hy26465 : y26465.toInt = 330 + x26463.toInt := i32_add ey26465 rfl rfl (by omega) (by omega)
          refine g_aload_n hk dX12_hold_38 rfl ?_
          refine gM_r0_35 hk hin12 (List.mem_cons_of_mem _ (List.mem_append_left _ (List.mem_of_getElem? (i := 5) rfl))) dX12_hold_39 ?_
          refine g_iload_n hk dX12_hold_42 rfl ?_
          refine lM_17 (v := (A 17 x26463.toNatClampNeg)) hk (vp_in_iff.mpr ⟨by omega, by omega⟩) rfl dX12_hold_43 ?_
          refine sM_28 (j := y26465.toNatClampNeg) hk (vp_in_iff.mpr ⟨by omega, by omega⟩) rfl dX12_hold_44 ?_
          obtain ⟨y26466, ey26466⟩ : ∃ y : Int32, y = x26463 + Int32.ofInt 1 := ⟨_, rfl⟩
          have hy26466 : y26466.toInt = x26463.toInt + 1 := i32_add ey26466 rfl (by decide) (by omega) (by omega)
          refine g_iinc (v := y26466) (lv' := [(2, .int y26466), (0, .ref (r 0)), (1, .int 2)]) hk 0 dX12_hold_45 rfl ey26466.symm (by decide) rfl ?_
          refine g_goto (tgt := 20) hk dX12_hold_48 (by decide) ?_
          have q26467 := cl_int (y := x26463) (by omega)
          have q26468 := cl_int (y := y26465) (by omega)
          have eW : (up3 (up2 (up3 A 27 2 (vp_nar .boolean 1)) 28 (cpo (A 17) ((up3 A 27 2 (vp_nar .boolean 1)) 28) (165 * 2) k26461)) 28 (y26465.toNatClampNeg) (A 17 x26463.toNatClampNeg)) = (up2 (up3 A 27 2 (vp_nar .boolean 1)) 28 (cpo (A 17) ((up3 A 27 2 (vp_nar .boolean 1)) 28) (165 * 2) (k26461 + 1))) := cpo_st (by omega) (show (A 17 x26463.toNatClampNeg) = (A 17 k26461) from by rw [show x26463.toNatClampNeg = k26461 from by omega])
          have fy : y26466 = nI (k26461 + 1) := nI_of_toInt (by omega) (by omega)
          rw [eW, fy]
          exact g_lv (List.forall_mem_cons.mpr ⟨List.mem_of_getElem? (i := 0) rfl, (List.forall_mem_cons.mpr ⟨List.mem_of_getElem? (i := 1) rfl, (List.forall_mem_cons.mpr ⟨List.mem_of_getElem? (i := 2) rfl, (fun _ h => absurd h List.not_mem_nil)⟩)⟩)⟩) (ih26464 (k26461 + 1) (by omega))
      have lp26460e := lp26460 165 0 (by omega)
      rw [cpo_0] at lp26460e
      exact lp26460e
    exfalso; omega
def wo_j216_X12_restore : List Cond := [Cond.methodLink RX12 244 yX12_in, Cond.static yX12_in, Cond.initialized RX12, Cond.fieldLink RX12 100 "WarpDeskModel" "isHeld" "[Z", Cond.fieldLink RX12 209 "WarpDeskModel" "undos" "I", Cond.fieldLink RX12 70 "WarpDeskModel" "now" "[I", Cond.fieldLink RX12 104 "WarpDeskModel" "heldRows" "[I"]
def wz_j216_X12_restore : List Cond := .code yX12_restore cX12_restore 3 (some .boolean) :: (wo_j216_X12_restore ++ (wsX120 ++ (wz_j145_X12_in ++ ([] : List Cond))))
theorem zg_j216_X12_restore : ∀ w ∈ wz_j216_X12_restore, goodWord w = true := zg_cons rfl (zg_app (by decide +kernel) (zg_app zgU_wsX120 (zg_app zg_j145_X12_in zg_nil)))
theorem zi_j216_X12_restore : ∀ w ∈ wz_j216_X12_restore, w ∈ lw_tbl := zi_cons zw_1942 (zi_app (zi_cons zw_1656 (zi_cons zw_1657 (zi_cons zw_115 (zi_cons zw_1431 (zi_cons zw_1422 (zi_cons zw_1413 (zi_cons zw_1432 zi_nil))))))) (zi_app inX12 (zi_app zi_j145_X12_in zi_nil)))
set_option maxHeartbeats 4000000 in
set_option maxRecDepth 100000 in
theorem j216_X12_restore (l : Launch) (D : va_G) (zt : Nat × Nat × Nat × (Nat → Nat) × (Nat → Nat)) (r : Nat → Nat) (g : Nat → ClassId) (I : Nat → Int32) (A : Nat → Nat → Int32) (L : Nat → Nat → Int64) (z1 : Int32) (hIv : IvM I A) : GM l D zt (tyM g) yX12_restore wz_j216_X12_restore ({ frames := 1, cells := 0, slots := 0, locals := 22 } : Room) [.ref (r 0), .int z1] (wM r g I A L) (fun v _ w' => ∃ (I' : Nat → Int32) (A' : Nat → Nat → Int32) (L' : Nat → Nat → Int64), Md [22] I I' ∧ Md [17] A A' ∧ IvM I' A' ∧ ∃ y0 : Int32, (0 ≤ y0.toInt) ∧ (y0.toInt ≤ 1) ∧ v = some (.int y0) ∧ w' = wM r g I' A' L') 0 0 := by
  refine GM.of (cc := cX12_restore) (maxL := 3) (ret := (some .boolean)) (own := RX12) (lv := [(0, .ref (r 0)), (1, .int z1)]) (by decide) rfl rfl (Nat.le_of_ble_eq_true rfl) rfl (fun κ sz hk hR hN => ?_)
  have hin12 : ∀ w ∈ u_ws RX12 TX12 55, w ∈ wz_j216_X12_restore := fun w h => (List.mem_cons_of_mem _ (List.mem_append_right _ (List.mem_append_left _ h)))
  refine g_iload_n hk dX12_restore_0 rfl ?_
  refine g_iconst (v := 0) hk dX12_restore_1 (by decide) ?_
  refine g_iconst (v := 2) hk dX12_restore_2 (by decide) ?_
  have k26469 : (0 : Int32).toInt = 0 := rfl
  have k26470 : (2 : Int32).toInt = 2 := rfl
  refine g_callS (n := 3) hk (j145_X12_in l D zt r g I A L z1 0 2 hIv) (SP.same _) (fun _ h => h) (gi_S (List.mem_cons_of_mem _ (List.mem_append_left _ (List.mem_of_getElem? (i := 0) rfl))) (List.mem_cons_of_mem _ (List.mem_append_left _ (List.mem_of_getElem? (i := 1) rfl))) (List.mem_cons_of_mem _ (List.mem_append_left _ (List.mem_of_getElem? (i := 2) rfl))) (gi_sub (fun w h => (List.mem_cons_of_mem _ (List.mem_append_right _ (List.mem_append_right _ (List.mem_append_left _ h))))) zg_j145_X12_in)) rfl rfl rfl (by decide +kernel) ⟨Nat.le_of_ble_eq_true rfl, Nat.le_of_ble_eq_true rfl⟩ rfl rfl (Nat.le_of_ble_eq_true rfl) ⟨Nat.le_of_ble_eq_true rfl, Nat.le_of_ble_eq_true rfl⟩ dX12_restore_3 (fun v ty' w' hp hk' => ?_)
  rcases hp with ⟨c26471, rfl, rfl⟩ | ⟨c26473, c26474, rfl, rfl⟩
  · skip
    have b26476l := Int32.le_toInt z1
    have b26476h := Int32.toInt_lt z1
    show GW κ 3 0 0 (wM r g I A L) 6 [(0, .ref (r 0)), (1, .int z1)] [.int 0]
    refine g_if_eq (tgt := 18) (a := 0) hk dX12_restore_6 (by decide) rfl (fun _ => ?_) (fun z9 => absurd (show (0 : Int) = (0 : Int) from by decide) z9)
    refine g_iconst (v := 0) hk dX12_restore_18 (by decide) ?_
    exact g_iret hk hR rfl ⟨I, A, L, (show Md [22] I I from Md.rf), (show Md [17] A A from Md.rf), hIv, 0, (by decide), (by decide), rfl, rfl⟩ dX12_restore_19
  · skip
    show GW κ 3 0 0 (wM r g I A L) 6 [(0, .ref (r 0)), (1, .int z1)] [.int 1]
    refine g_if_eq (tgt := 18) (a := 1) hk dX12_restore_6 (by decide) rfl (fun z9 => absurd z9 (show ¬ ((1 : Int) = (0 : Int)) from by decide)) (fun _ => ?_)
    refine g_aload_n hk dX12_restore_9 rfl ?_
    refine gM_r0_53 hk hin12 (List.mem_cons_of_mem _ (List.mem_append_left _ (List.mem_of_getElem? (i := 3) rfl))) dX12_restore_10 ?_
    refine g_iload_n hk dX12_restore_13 rfl ?_
    by_cases c26477 : z1.toInt = 0
    · have ec26477 : z1 = 0 := Int32.toInt_inj.mp c26477
      rw [ec26477]
      show GW κ 3 0 0 (wM r g I A L) 14 [(0, .ref (r 0)), (1, .int 0)] [.int 0, .ref (r 28)]
      refine lM_27 (v := (A 27 0)) hk (vp_in_iff.mpr ⟨by decide, by decide⟩) rfl dX12_restore_14 ?_
      have b26478l := Int32.le_toInt (A 27 0)
      have b26478h := Int32.toInt_lt (A 27 0)
      refine g_if_ne (tgt := 20) (a := (A 27 0).toInt) hk dX12_restore_15 (by decide) rfl (fun c26479 => ?_) (fun c26479 => ?_)
      · skip
        refine g_iconst (v := 0) hk dX12_restore_20 (by decide) ?_
        refine g_istore_n (lv' := [(2, .int 0), (0, .ref (r 0)), (1, .int 0)]) hk dX12_restore_21 (by decide) rfl ?_
        have lp26480 : ∀ (n26482 k26481 : Nat), k26481 + n26482 = 165 → GW κ 3 0 0 (wM r g I (up2 A 17 (cpo (fun k => A 28 (165 * 0 + k)) (A 17) 0 k26481)) L) 22 [(2, .int (nI k26481)), (0, .ref (r 0)), (1, .int 0)] [] := by
          intro n26482
          induction n26482 with
          | zero =>
            intro k26481 hk26481
            obtain rfl : k26481 = 165 := by omega
            show GW κ 3 0 0 (wM r g I (up2 A 17 (cpo (fun k => A 28 (165 * 0 + k)) (A 17) 0 165)) L) 22 [(2, .int 165), (0, .ref (r 0)), (1, .int 0)] []
            refine g_iload_n hk dX12_restore_22 rfl ?_
            refine g_sipush (v := 165) hk dX12_restore_23 (by decide) ?_
            refine g_icmp_ge (tgt := 53) (a := 165) (b := 165) hk dX12_restore_26 (by decide) rfl rfl (fun _ => ?_) (fun z9 => absurd (show (165 : Int) ≤ (165 : Int) from by decide) z9)
            refine g_aload_n hk dX12_restore_53 rfl ?_
            refine g_iconst (v := 0) hk dX12_restore_54 (by decide) ?_
            refine pM_i22 hk hin12 (List.mem_cons_of_mem _ (List.mem_append_left _ (List.mem_of_getElem? (i := 4) rfl))) dX12_restore_55 ?_
            refine g_iconst (v := 1) hk dX12_restore_58 (by decide) ?_
            have hw26485 := (IvM_hh (I := I) (A := A) hIv) 0 (by decide) (by omega)
            have g26486 : 0 ≤ (A 28 (165 * 0 + 0)).toInt ∧ (A 28 (165 * 0 + 0)).toInt ≤ 160 := hw26485.1
            have g26487 : 1 ≤ (A 28 (165 * 0 + 164)).toInt := hw26485.2
            have g26488 := Int32.toInt_lt (A 28 (165 * 0 + 164))
            exact g_iret hk hR rfl ⟨(upd I 22 0), (up2 A 17 (cpo (fun k => A 28 (165 * 0 + k)) (A 17) 0 165)), L, (show Md [22] I (upd I 22 0) from (Md.up Md.rf rfl)), (show Md [17] A (up2 A 17 (cpo (fun k => A 28 (165 * 0 + k)) (A 17) 0 165)) from (Md.up2 Md.rf rfl)), ⟨(IvM_f1 (I := I) (A := A) hIv), (IvM_f2 (I := I) (A := A) hIv), (IvM_f3 (I := I) (A := A) hIv), (IvM_f4 (I := I) (A := A) hIv), (IvM_f6 (I := I) (A := A) hIv), (IvM_f8 (I := I) (A := A) hIv), (IvM_f15 (I := I) (A := A) hIv), (IvM_f16 (I := I) (A := A) hIv), (IvM_f17 (I := I) (A := A) hIv), (IvM_f18 (I := I) (A := A) hIv), (show 0 ≤ (0 : Int32).toInt ∧ (0 : Int32).toInt ≤ 40 from ⟨by decide, by decide⟩), (IvM_f23 (I := I) (A := A) hIv), (IvM_f24 (I := I) (A := A) hIv), (IvM_a11 (I := I) (A := A) hIv), (IvM_a26 (I := I) (A := A) hIv), (IvM_s8_0 (I := I) (A := A) hIv), (IvM_s8_1 (I := I) (A := A) hIv), (IvM_s10_0 (I := I) (A := A) hIv), (IvM_s10_1 (I := I) (A := A) hIv), (show 0 ≤ ((up2 A 17 (cpo (fun k => A 28 (165 * 0 + k)) (A 17) 0 165)) 17 0).toInt ∧ ((up2 A 17 (cpo (fun k => A 28 (165 * 0 + k)) (A 17) 0 165)) 17 0).toInt ≤ 160 from by rw [show (up2 A 17 (cpo (fun k => A 28 (165 * 0 + k)) (A 17) 0 165)) 17 0 = (A 28 (165 * 0 + 0)) from rfl]; exact ⟨by omega, by omega⟩), (show 1 ≤ ((up2 A 17 (cpo (fun k => A 28 (165 * 0 + k)) (A 17) 0 165)) 17 164).toInt ∧ ((up2 A 17 (cpo (fun k => A 28 (165 * 0 + k)) (A 17) 0 165)) 17 164).toInt ≤ 2147483647 from by rw [show (up2 A 17 (cpo (fun k => A 28 (165 * 0 + k)) (A 17) 0 165)) 17 164 = (A 28 (165 * 0 + 164)) from rfl]; exact ⟨by omega, by omega⟩), (IvM_lv (I := I) (A := A) hIv), (IvM_sd (I := I) (A := A) hIv), (IvM_nq (I := I) (A := A) hIv), (fun j hj => absurd (show (j : Int) < (0 : Int32).toInt from hj) (by have : (0 : Int32).toInt = 0 := rfl; omega)), (IvM_hh (I := I) (A := A) hIv), trivial⟩, 1, (by decide), (by decide), rfl, rfl⟩ dX12_restore_59
          | succ n26482 ih26484 =>
            intro k26481 hk26481
            obtain ⟨x26483, ex26483⟩ : ∃ x : Int32, x = nI k26481 := ⟨_, rfl⟩
            have hx26483 : x26483.toInt = (k26481 : Int) := by rw [ex26483]; exact nI_toInt (by omega)
            have cx26483 : x26483.toNatClampNeg = k26481 := cl_nat hx26483
            rw [← ex26483]
            refine g_iload_n hk dX12_restore_22 rfl ?_
            refine g_sipush (v := 165) hk dX12_restore_23 (by decide) ?_
            refine g_icmp_ge (tgt := 53) (a := x26483.toInt) (b := 165) hk dX12_restore_26 (by decide) rfl rfl (fun z9 => absurd z9 (show ¬ (165 ≤ x26483.toInt) from by omega)) (fun _ => ?_)
            refine g_aload_n hk dX12_restore_29 rfl ?_
            refine gM_r0_35 hk hin12 (List.mem_cons_of_mem _ (List.mem_append_left _ (List.mem_of_getElem? (i := 5) rfl))) dX12_restore_30 ?_
            refine g_iload_n hk dX12_restore_33 rfl ?_
            refine g_aload_n hk dX12_restore_34 rfl ?_
            refine gM_r0_54 hk hin12 (List.mem_cons_of_mem _ (List.mem_append_left _ (List.mem_of_getElem? (i := 6) rfl))) dX12_restore_35 ?_
            refine g_sipush (v := 165) hk dX12_restore_38 (by decide) ?_
            refine g_iload_n hk dX12_restore_41 rfl ?_
            refine g_imul hk dX12_restore_42 ?_
            refine g_norm (v := 0) (by decide) ?_
            refine g_iload_n hk dX12_restore_43 rfl ?_
            refine g_iadd hk dX12_restore_44 ?_
            refine g_topi (fun y26489 ey26489 => ?_)
            have hy26489 : y26489.toInt = 0 + x26483.toInt := i32_add ey26489 rfl rfl (by omega) (by omega)
            refine lM_28 (v := (A 28 y26489.toNatClampNeg)) hk (vp_in_iff.mpr ⟨by omega, by omega⟩) rfl dX12_restore_45 ?_
            refine sM_17 (j := x26483.toNatClampNeg) hk (vp_in_iff.mpr ⟨by omega, by omega⟩) rfl dX12_restore_46 ?_
            obtain ⟨y26490, ey26490⟩ : ∃ y : Int32, y = x26483 + Int32.ofInt 1 := ⟨_, rfl⟩
            have hy26490 : y26490.toInt = x26483.toInt + 1 := i32_add ey26490 rfl (by decide) (by omega) (by omega)
            refine g_iinc (v := y26490) (lv' := [(2, .int y26490), (0, .ref (r 0)), (1, .int 0)]) hk 0 dX12_restore_47 rfl ey26490.symm (by decide) rfl ?_
            refine g_goto (tgt := 22) hk dX12_restore_50 (by decide) ?_
            have q26491 := cl_int (y := y26489) (by omega)
            have q26492 := cl_int (y := x26483) (by omega)
            have eW : (up3 (up2 A 17 (cpo (fun k => A 28 (165 * 0 + k)) (A 17) 0 k26481)) 17 (x26483.toNatClampNeg) (A 28 y26489.toNatClampNeg)) = (up2 A 17 (cpo (fun k => A 28 (165 * 0 + k)) (A 17) 0 (k26481 + 1))) := cpo_st (by omega) (show (A 28 y26489.toNatClampNeg) = (A 28 (165 * 0 + k26481)) from by rw [show y26489.toNatClampNeg = 165 * 0 + k26481 from by omega])
            have fy : y26490 = nI (k26481 + 1) := nI_of_toInt (by omega) (by omega)
            rw [eW, fy]
            exact g_lv (List.forall_mem_cons.mpr ⟨List.mem_of_getElem? (i := 0) rfl, (List.forall_mem_cons.mpr ⟨List.mem_of_getElem? (i := 1) rfl, (List.forall_mem_cons.mpr ⟨List.mem_of_getElem? (i := 2) rfl, (fun _ h => absurd h List.not_mem_nil)⟩)⟩)⟩) (ih26484 (k26481 + 1) (by omega))
        have lp26480e := lp26480 165 0 (by omega)
        rw [cpo_0] at lp26480e
        exact lp26480e
      · skip
        refine g_iconst (v := 0) hk dX12_restore_18 (by decide) ?_
        exact g_iret hk hR rfl ⟨I, A, L, (show Md [22] I I from Md.rf), (show Md [17] A A from Md.rf), hIv, 0, (by decide), (by decide), rfl, rfl⟩ dX12_restore_19
    by_cases c26493 : z1.toInt = 1
    · have ec26493 : z1 = 1 := Int32.toInt_inj.mp c26493
      rw [ec26493]
      show GW κ 3 0 0 (wM r g I A L) 14 [(0, .ref (r 0)), (1, .int 1)] [.int 1, .ref (r 28)]
      refine lM_27 (v := (A 27 1)) hk (vp_in_iff.mpr ⟨by decide, by decide⟩) rfl dX12_restore_14 ?_
      have b26494l := Int32.le_toInt (A 27 1)
      have b26494h := Int32.toInt_lt (A 27 1)
      refine g_if_ne (tgt := 20) (a := (A 27 1).toInt) hk dX12_restore_15 (by decide) rfl (fun c26495 => ?_) (fun c26495 => ?_)
      · skip
        refine g_iconst (v := 0) hk dX12_restore_20 (by decide) ?_
        refine g_istore_n (lv' := [(2, .int 0), (0, .ref (r 0)), (1, .int 1)]) hk dX12_restore_21 (by decide) rfl ?_
        have lp26496 : ∀ (n26498 k26497 : Nat), k26497 + n26498 = 165 → GW κ 3 0 0 (wM r g I (up2 A 17 (cpo (fun k => A 28 (165 * 1 + k)) (A 17) 0 k26497)) L) 22 [(2, .int (nI k26497)), (0, .ref (r 0)), (1, .int 1)] [] := by
          intro n26498
          induction n26498 with
          | zero =>
            intro k26497 hk26497
            obtain rfl : k26497 = 165 := by omega
            show GW κ 3 0 0 (wM r g I (up2 A 17 (cpo (fun k => A 28 (165 * 1 + k)) (A 17) 0 165)) L) 22 [(2, .int 165), (0, .ref (r 0)), (1, .int 1)] []
            refine g_iload_n hk dX12_restore_22 rfl ?_
            refine g_sipush (v := 165) hk dX12_restore_23 (by decide) ?_
            refine g_icmp_ge (tgt := 53) (a := 165) (b := 165) hk dX12_restore_26 (by decide) rfl rfl (fun _ => ?_) (fun z9 => absurd (show (165 : Int) ≤ (165 : Int) from by decide) z9)
            refine g_aload_n hk dX12_restore_53 rfl ?_
            refine g_iconst (v := 0) hk dX12_restore_54 (by decide) ?_
            refine pM_i22 hk hin12 (List.mem_cons_of_mem _ (List.mem_append_left _ (List.mem_of_getElem? (i := 4) rfl))) dX12_restore_55 ?_
            refine g_iconst (v := 1) hk dX12_restore_58 (by decide) ?_
            have hw26501 := (IvM_hh (I := I) (A := A) hIv) 1 (by decide) (by omega)
            have g26502 : 0 ≤ (A 28 (165 * 1 + 0)).toInt ∧ (A 28 (165 * 1 + 0)).toInt ≤ 160 := hw26501.1
            have g26503 : 1 ≤ (A 28 (165 * 1 + 164)).toInt := hw26501.2
            have g26504 := Int32.toInt_lt (A 28 (165 * 1 + 164))
            exact g_iret hk hR rfl ⟨(upd I 22 0), (up2 A 17 (cpo (fun k => A 28 (165 * 1 + k)) (A 17) 0 165)), L, (show Md [22] I (upd I 22 0) from (Md.up Md.rf rfl)), (show Md [17] A (up2 A 17 (cpo (fun k => A 28 (165 * 1 + k)) (A 17) 0 165)) from (Md.up2 Md.rf rfl)), ⟨(IvM_f1 (I := I) (A := A) hIv), (IvM_f2 (I := I) (A := A) hIv), (IvM_f3 (I := I) (A := A) hIv), (IvM_f4 (I := I) (A := A) hIv), (IvM_f6 (I := I) (A := A) hIv), (IvM_f8 (I := I) (A := A) hIv), (IvM_f15 (I := I) (A := A) hIv), (IvM_f16 (I := I) (A := A) hIv), (IvM_f17 (I := I) (A := A) hIv), (IvM_f18 (I := I) (A := A) hIv), (show 0 ≤ (0 : Int32).toInt ∧ (0 : Int32).toInt ≤ 40 from ⟨by decide, by decide⟩), (IvM_f23 (I := I) (A := A) hIv), (IvM_f24 (I := I) (A := A) hIv), (IvM_a11 (I := I) (A := A) hIv), (IvM_a26 (I := I) (A := A) hIv), (IvM_s8_0 (I := I) (A := A) hIv), (IvM_s8_1 (I := I) (A := A) hIv), (IvM_s10_0 (I := I) (A := A) hIv), (IvM_s10_1 (I := I) (A := A) hIv), (show 0 ≤ ((up2 A 17 (cpo (fun k => A 28 (165 * 1 + k)) (A 17) 0 165)) 17 0).toInt ∧ ((up2 A 17 (cpo (fun k => A 28 (165 * 1 + k)) (A 17) 0 165)) 17 0).toInt ≤ 160 from by rw [show (up2 A 17 (cpo (fun k => A 28 (165 * 1 + k)) (A 17) 0 165)) 17 0 = (A 28 (165 * 1 + 0)) from rfl]; exact ⟨by omega, by omega⟩), (show 1 ≤ ((up2 A 17 (cpo (fun k => A 28 (165 * 1 + k)) (A 17) 0 165)) 17 164).toInt ∧ ((up2 A 17 (cpo (fun k => A 28 (165 * 1 + k)) (A 17) 0 165)) 17 164).toInt ≤ 2147483647 from by rw [show (up2 A 17 (cpo (fun k => A 28 (165 * 1 + k)) (A 17) 0 165)) 17 164 = (A 28 (165 * 1 + 164)) from rfl]; exact ⟨by omega, by omega⟩), (IvM_lv (I := I) (A := A) hIv), (IvM_sd (I := I) (A := A) hIv), (IvM_nq (I := I) (A := A) hIv), (fun j hj => absurd (show (j : Int) < (0 : Int32).toInt from hj) (by have : (0 : Int32).toInt = 0 := rfl; omega)), (IvM_hh (I := I) (A := A) hIv), trivial⟩, 1, (by decide), (by decide), rfl, rfl⟩ dX12_restore_59
          | succ n26498 ih26500 =>
            intro k26497 hk26497
            obtain ⟨x26499, ex26499⟩ : ∃ x : Int32, x = nI k26497 := ⟨_, rfl⟩
            have hx26499 : x26499.toInt = (k26497 : Int) := by rw [ex26499]; exact nI_toInt (by omega)
            have cx26499 : x26499.toNatClampNeg = k26497 := cl_nat hx26499
            rw [← ex26499]
            refine g_iload_n hk dX12_restore_22 rfl ?_
            refine g_sipush (v := 165) hk dX12_restore_23 (by decide) ?_
            refine g_icmp_ge (tgt := 53) (a := x26499.toInt) (b := 165) hk dX12_restore_26 (by decide) rfl rfl (fun z9 => absurd z9 (show ¬ (165 ≤ x26499.toInt) from by omega)) (fun _ => ?_)
            refine g_aload_n hk dX12_restore_29 rfl ?_
            refine gM_r0_35 hk hin12 (List.mem_cons_of_mem _ (List.mem_append_left _ (List.mem_of_getElem? (i := 5) rfl))) dX12_restore_30 ?_
            refine g_iload_n hk dX12_restore_33 rfl ?_
            refine g_aload_n hk dX12_restore_34 rfl ?_
            refine gM_r0_54 hk hin12 (List.mem_cons_of_mem _ (List.mem_append_left _ (List.mem_of_getElem? (i := 6) rfl))) dX12_restore_35 ?_
            refine g_sipush (v := 165) hk dX12_restore_38 (by decide) ?_
            refine g_iload_n hk dX12_restore_41 rfl ?_
            refine g_imul hk dX12_restore_42 ?_
            refine g_norm (v := 165) (by decide) ?_
            refine g_iload_n hk dX12_restore_43 rfl ?_
            refine g_iadd hk dX12_restore_44 ?_
            refine g_topi (fun y26505 ey26505 => ?_)
            have hy26505 : y26505.toInt = 165 + x26499.toInt := i32_add ey26505 rfl rfl (by omega) (by omega)
            refine lM_28 (v := (A 28 y26505.toNatClampNeg)) hk (vp_in_iff.mpr ⟨by omega, by omega⟩) rfl dX12_restore_45 ?_
            refine sM_17 (j := x26499.toNatClampNeg) hk (vp_in_iff.mpr ⟨by omega, by omega⟩) rfl dX12_restore_46 ?_
            obtain ⟨y26506, ey26506⟩ : ∃ y : Int32, y = x26499 + Int32.ofInt 1 := ⟨_, rfl⟩
            have hy26506 : y26506.toInt = x26499.toInt + 1 := i32_add ey26506 rfl (by decide) (by omega) (by omega)
            refine g_iinc (v := y26506) (lv' := [(2, .int y26506), (0, .ref (r 0)), (1, .int 1)]) hk 0 dX12_restore_47 rfl ey26506.symm (by decide) rfl ?_
            refine g_goto (tgt := 22) hk dX12_restore_50 (by decide) ?_
            have q26507 := cl_int (y := y26505) (by omega)
            have q26508 := cl_int (y := x26499) (by omega)
            have eW : (up3 (up2 A 17 (cpo (fun k => A 28 (165 * 1 + k)) (A 17) 0 k26497)) 17 (x26499.toNatClampNeg) (A 28 y26505.toNatClampNeg)) = (up2 A 17 (cpo (fun k => A 28 (165 * 1 + k)) (A 17) 0 (k26497 + 1))) := cpo_st (by omega) (show (A 28 y26505.toNatClampNeg) = (A 28 (165 * 1 + k26497)) from by rw [show y26505.toNatClampNeg = 165 * 1 + k26497 from by omega])
            have fy : y26506 = nI (k26497 + 1) := nI_of_toInt (by omega) (by omega)
            rw [eW, fy]
            exact g_lv (List.forall_mem_cons.mpr ⟨List.mem_of_getElem? (i := 0) rfl, (List.forall_mem_cons.mpr ⟨List.mem_of_getElem? (i := 1) rfl, (List.forall_mem_cons.mpr ⟨List.mem_of_getElem? (i := 2) rfl, (fun _ h => absurd h List.not_mem_nil)⟩)⟩)⟩) (ih26500 (k26497 + 1) (by omega))
        have lp26496e := lp26496 165 0 (by omega)
        rw [cpo_0] at lp26496e
        exact lp26496e
      · skip
        refine g_iconst (v := 0) hk dX12_restore_18 (by decide) ?_
        exact g_iret hk hR rfl ⟨I, A, L, (show Md [22] I I from Md.rf), (show Md [17] A A from Md.rf), hIv, 0, (by decide), (by decide), rfl, rfl⟩ dX12_restore_19
    by_cases c26509 : z1.toInt = 2
    · have ec26509 : z1 = 2 := Int32.toInt_inj.mp c26509
      rw [ec26509]
      show GW κ 3 0 0 (wM r g I A L) 14 [(0, .ref (r 0)), (1, .int 2)] [.int 2, .ref (r 28)]
      refine lM_27 (v := (A 27 2)) hk (vp_in_iff.mpr ⟨by decide, by decide⟩) rfl dX12_restore_14 ?_
      have b26510l := Int32.le_toInt (A 27 2)
      have b26510h := Int32.toInt_lt (A 27 2)
      refine g_if_ne (tgt := 20) (a := (A 27 2).toInt) hk dX12_restore_15 (by decide) rfl (fun c26511 => ?_) (fun c26511 => ?_)
      · skip
        refine g_iconst (v := 0) hk dX12_restore_20 (by decide) ?_
        refine g_istore_n (lv' := [(2, .int 0), (0, .ref (r 0)), (1, .int 2)]) hk dX12_restore_21 (by decide) rfl ?_
        have lp26512 : ∀ (n26514 k26513 : Nat), k26513 + n26514 = 165 → GW κ 3 0 0 (wM r g I (up2 A 17 (cpo (fun k => A 28 (165 * 2 + k)) (A 17) 0 k26513)) L) 22 [(2, .int (nI k26513)), (0, .ref (r 0)), (1, .int 2)] [] := by
          intro n26514
          induction n26514 with
          | zero =>
            intro k26513 hk26513
            obtain rfl : k26513 = 165 := by omega
            show GW κ 3 0 0 (wM r g I (up2 A 17 (cpo (fun k => A 28 (165 * 2 + k)) (A 17) 0 165)) L) 22 [(2, .int 165), (0, .ref (r 0)), (1, .int 2)] []
            refine g_iload_n hk dX12_restore_22 rfl ?_
            refine g_sipush (v := 165) hk dX12_restore_23 (by decide) ?_
            refine g_icmp_ge (tgt := 53) (a := 165) (b := 165) hk dX12_restore_26 (by decide) rfl rfl (fun _ => ?_) (fun z9 => absurd (show (165 : Int) ≤ (165 : Int) from by decide) z9)
            refine g_aload_n hk dX12_restore_53 rfl ?_
            refine g_iconst (v := 0) hk dX12_restore_54 (by decide) ?_
            refine pM_i22 hk hin12 (List.mem_cons_of_mem _ (List.mem_append_left _ (List.mem_of_getElem? (i := 4) rfl))) dX12_restore_55 ?_
            refine g_iconst (v := 1) hk dX12_restore_58 (by decide) ?_
            have hw26517 := (IvM_hh (I := I) (A := A) hIv) 2 (by decide) (by omega)
            have g26518 : 0 ≤ (A 28 (165 * 2 + 0)).toInt ∧ (A 28 (165 * 2 + 0)).toInt ≤ 160 := hw26517.1
            have g26519 : 1 ≤ (A 28 (165 * 2 + 164)).toInt := hw26517.2
            have g26520 := Int32.toInt_lt (A 28 (165 * 2 + 164))
            exact g_iret hk hR rfl ⟨(upd I 22 0), (up2 A 17 (cpo (fun k => A 28 (165 * 2 + k)) (A 17) 0 165)), L, (show Md [22] I (upd I 22 0) from (Md.up Md.rf rfl)), (show Md [17] A (up2 A 17 (cpo (fun k => A 28 (165 * 2 + k)) (A 17) 0 165)) from (Md.up2 Md.rf rfl)), ⟨(IvM_f1 (I := I) (A := A) hIv), (IvM_f2 (I := I) (A := A) hIv), (IvM_f3 (I := I) (A := A) hIv), (IvM_f4 (I := I) (A := A) hIv), (IvM_f6 (I := I) (A := A) hIv), (IvM_f8 (I := I) (A := A) hIv), (IvM_f15 (I := I) (A := A) hIv), (IvM_f16 (I := I) (A := A) hIv), (IvM_f17 (I := I) (A := A) hIv), (IvM_f18 (I := I) (A := A) hIv), (show 0 ≤ (0 : Int32).toInt ∧ (0 : Int32).toInt ≤ 40 from ⟨by decide, by decide⟩), (IvM_f23 (I := I) (A := A) hIv), (IvM_f24 (I := I) (A := A) hIv), (IvM_a11 (I := I) (A := A) hIv), (IvM_a26 (I := I) (A := A) hIv), (IvM_s8_0 (I := I) (A := A) hIv), (IvM_s8_1 (I := I) (A := A) hIv), (IvM_s10_0 (I := I) (A := A) hIv), (IvM_s10_1 (I := I) (A := A) hIv), (show 0 ≤ ((up2 A 17 (cpo (fun k => A 28 (165 * 2 + k)) (A 17) 0 165)) 17 0).toInt ∧ ((up2 A 17 (cpo (fun k => A 28 (165 * 2 + k)) (A 17) 0 165)) 17 0).toInt ≤ 160 from by rw [show (up2 A 17 (cpo (fun k => A 28 (165 * 2 + k)) (A 17) 0 165)) 17 0 = (A 28 (165 * 2 + 0)) from rfl]; exact ⟨by omega, by omega⟩), (show 1 ≤ ((up2 A 17 (cpo (fun k => A 28 (165 * 2 + k)) (A 17) 0 165)) 17 164).toInt ∧ ((up2 A 17 (cpo (fun k => A 28 (165 * 2 + k)) (A 17) 0 165)) 17 164).toInt ≤ 2147483647 from by rw [show (up2 A 17 (cpo (fun k => A 28 (165 * 2 + k)) (A 17) 0 165)) 17 164 = (A 28 (165 * 2 + 164)) from rfl]; exact ⟨by omega, by omega⟩), (IvM_lv (I := I) (A := A) hIv), (IvM_sd (I := I) (A := A) hIv), (IvM_nq (I := I) (A := A) hIv), (fun j hj => absurd (show (j : Int) < (0 : Int32).toInt from hj) (by have : (0 : Int32).toInt = 0 := rfl; omega)), (IvM_hh (I := I) (A := A) hIv), trivial⟩, 1, (by decide), (by decide), rfl, rfl⟩ dX12_restore_59
          | succ n26514 ih26516 =>
            intro k26513 hk26513
            obtain ⟨x26515, ex26515⟩ : ∃ x : Int32, x = nI k26513 := ⟨_, rfl⟩
            have hx26515 : x26515.toInt = (k26513 : Int) := by rw [ex26515]; exact nI_toInt (by omega)
            have cx26515 : x26515.toNatClampNeg = k26513 := cl_nat hx26515
            rw [← ex26515]
            refine g_iload_n hk dX12_restore_22 rfl ?_
            refine g_sipush (v := 165) hk dX12_restore_23 (by decide) ?_
            refine g_icmp_ge (tgt := 53) (a := x26515.toInt) (b := 165) hk dX12_restore_26 (by decide) rfl rfl (fun z9 => absurd z9 (show ¬ (165 ≤ x26515.toInt) from by omega)) (fun _ => ?_)
            refine g_aload_n hk dX12_restore_29 rfl ?_
            refine gM_r0_35 hk hin12 (List.mem_cons_of_mem _ (List.mem_append_left _ (List.mem_of_getElem? (i := 5) rfl))) dX12_restore_30 ?_
            refine g_iload_n hk dX12_restore_33 rfl ?_
            refine g_aload_n hk dX12_restore_34 rfl ?_
            refine gM_r0_54 hk hin12 (List.mem_cons_of_mem _ (List.mem_append_left _ (List.mem_of_getElem? (i := 6) rfl))) dX12_restore_35 ?_
            refine g_sipush (v := 165) hk dX12_restore_38 (by decide) ?_
            refine g_iload_n hk dX12_restore_41 rfl ?_
            refine g_imul hk dX12_restore_42 ?_
            refine g_norm (v := 330) (by decide) ?_
            refine g_iload_n hk dX12_restore_43 rfl ?_
            refine g_iadd hk dX12_restore_44 ?_
            refine g_topi (fun y26521 ey26521 => ?_)
            have hy26521 : y26521.toInt = 330 + x26515.toInt := i32_add ey26521 rfl rfl (by omega) (by omega)
            refine lM_28 (v := (A 28 y26521.toNatClampNeg)) hk (vp_in_iff.mpr ⟨by omega, by omega⟩) rfl dX12_restore_45 ?_
            refine sM_17 (j := x26515.toNatClampNeg) hk (vp_in_iff.mpr ⟨by omega, by omega⟩) rfl dX12_restore_46 ?_
            obtain ⟨y26522, ey26522⟩ : ∃ y : Int32, y = x26515 + Int32.ofInt 1 := ⟨_, rfl⟩
            have hy26522 : y26522.toInt = x26515.toInt + 1 := i32_add ey26522 rfl (by decide) (by omega) (by omega)
            refine g_iinc (v := y26522) (lv' := [(2, .int y26522), (0, .ref (r 0)), (1, .int 2)]) hk 0 dX12_restore_47 rfl ey26522.symm (by decide) rfl ?_
            refine g_goto (tgt := 22) hk dX12_restore_50 (by decide) ?_
            have q26523 := cl_int (y := y26521) (by omega)
            have q26524 := cl_int (y := x26515) (by omega)
            have eW : (up3 (up2 A 17 (cpo (fun k => A 28 (165 * 2 + k)) (A 17) 0 k26513)) 17 (x26515.toNatClampNeg) (A 28 y26521.toNatClampNeg)) = (up2 A 17 (cpo (fun k => A 28 (165 * 2 + k)) (A 17) 0 (k26513 + 1))) := cpo_st (by omega) (show (A 28 y26521.toNatClampNeg) = (A 28 (165 * 2 + k26513)) from by rw [show y26521.toNatClampNeg = 165 * 2 + k26513 from by omega])
            have fy : y26522 = nI (k26513 + 1) := nI_of_toInt (by omega) (by omega)
            rw [eW, fy]
            exact g_lv (List.forall_mem_cons.mpr ⟨List.mem_of_getElem? (i := 0) rfl, (List.forall_mem_cons.mpr ⟨List.mem_of_getElem? (i := 1) rfl, (List.forall_mem_cons.mpr ⟨List.mem_of_getElem? (i := 2) rfl, (fun _ h => absurd h List.not_mem_nil)⟩)⟩)⟩) (ih26516 (k26513 + 1) (by omega))
        have lp26512e := lp26512 165 0 (by omega)
        rw [cpo_0] at lp26512e
        exact lp26512e
      · skip
        refine g_iconst (v := 0) hk dX12_restore_18 (by decide) ?_
        exact g_iret hk hR rfl ⟨I, A, L, (show Md [22] I I from Md.rf), (show Md [17] A A from Md.rf), hIv, 0, (by decide), (by decide), rfl, rfl⟩ dX12_restore_19
    exfalso; omega
def wo_j218_X12_gaps : List Cond := [Cond.fieldLink RX12 70 "WarpDeskModel" "now" "[I", Cond.methodLink RX12 320 yX12_isThere, Cond.instanceMethod yX12_isThere, Cond.selects RX12 yX12_isThere yX12_isThere, Cond.initialized RX12]
def wz_j218_X12_gaps : List Cond := .code yX12_gaps cX12_gaps 3 (some .int) :: (wo_j218_X12_gaps ++ (wsX120 ++ (wz_j143_X12_isThere ++ ([] : List Cond))))
theorem zg_j218_X12_gaps : ∀ w ∈ wz_j218_X12_gaps, goodWord w = true := zg_cons rfl (zg_app (by decide +kernel) (zg_app zgU_wsX120 (zg_app zg_j143_X12_isThere zg_nil)))
theorem zi_j218_X12_gaps : ∀ w ∈ wz_j218_X12_gaps, w ∈ lw_tbl := zi_cons zw_1950 (zi_app (zi_cons zw_1413 (zi_cons zw_1648 (zi_cons zw_1650 (zi_cons zw_65 (zi_cons zw_115 zi_nil))))) (zi_app inX12 (zi_app zi_j143_X12_isThere zi_nil)))
set_option maxHeartbeats 4000000 in
set_option maxRecDepth 100000 in
theorem j218_X12_gaps (l : Launch) (D : va_G) (zt : Nat × Nat × Nat × (Nat → Nat) × (Nat → Nat)) (r : Nat → Nat) (g : Nat → ClassId) (I : Nat → Int32) (A : Nat → Nat → Int32) (L : Nat → Nat → Int64) (hIv : IvM I A) : GM l D zt (tyM g) yX12_gaps wz_j218_X12_gaps ({ frames := 3, cells := 0, slots := 0, locals := 64 } : Room) [.ref (r 0)] (wM r g I A L) (fun v _ w' => ∃ y0 : Int32, v = some (.int y0) ∧ w' = wM r g I A L) 0 0 := by
  refine GM.of (cc := cX12_gaps) (maxL := 3) (ret := (some .int)) (own := RX12) (lv := [(0, .ref (r 0))]) (by decide) rfl rfl (Nat.le_of_ble_eq_true rfl) rfl (fun κ sz hk hR hN => ?_)
  have hin12 : ∀ w ∈ u_ws RX12 TX12 55, w ∈ wz_j218_X12_gaps := fun w h => (List.mem_cons_of_mem _ (List.mem_append_right _ (List.mem_append_left _ h)))
  refine g_iconst (v := 0) hk dX12_gaps_0 (by decide) ?_
  refine g_istore_n (lv' := [(1, .int 0), (0, .ref (r 0))]) hk dX12_gaps_1 (by decide) rfl ?_
  refine g_iconst (v := 0) hk dX12_gaps_2 (by decide) ?_
  refine g_istore_n (lv' := [(2, .int 0), (1, .int 0), (0, .ref (r 0))]) hk dX12_gaps_3 (by decide) rfl ?_
  have lp26597 : ∀ (n26598 : Nat) (x26528 : Int32) (x26529 : Int32), (0 ≤ x26528.toInt) → (x26528.toInt ≤ 160) → (161 - x26528.toInt < (n26598 : Int)) → (0 < n26598) → GW κ 3 0 0 (wM r g I A L) 4 [(2, .int x26528), (1, .int x26529), (0, .ref (r 0))] [] := by
    intro n26598
    induction n26598 with
    | zero =>
      intro x26528 x26529 h26595 h26596 m26599 m26599z
      exact absurd m26599z (Nat.lt_irrefl 0)
    | succ n26598 ih26600 =>
      intro x26528 x26529 h26595 h26596 m26599 m26599z
      refine g_iload_n hk dX12_gaps_4 rfl ?_
      refine g_aload_n hk dX12_gaps_5 rfl ?_
      refine gM_r0_35 hk hin12 (List.mem_cons_of_mem _ (List.mem_append_left _ (List.mem_of_getElem? (i := 0) rfl))) dX12_gaps_6 ?_
      refine g_iconst (v := 0) hk dX12_gaps_9 (by decide) ?_
      refine lM_17 (v := (A 17 0)) hk (vp_in_iff.mpr ⟨by decide, by decide⟩) rfl dX12_gaps_10 ?_
      have f26601 := IvM_s17_0 hIv
      refine g_icmp_ge (tgt := 31) (a := x26528.toInt) (b := (A 17 0).toInt) hk dX12_gaps_11 (by decide) rfl rfl (fun c26602 => ?_) (fun c26602 => ?_)
      · skip
        refine g_iload_n hk dX12_gaps_31 rfl ?_
        have b26603l := Int32.le_toInt x26529
        have b26603h := Int32.toInt_lt x26529
        exact g_iret hk hR rfl ⟨x26529, rfl, rfl⟩ dX12_gaps_32
      · skip
        refine g_aload_n hk dX12_gaps_14 rfl ?_
        refine g_iload_n hk dX12_gaps_15 rfl ?_
        refine g_callV (n := 1) hk (j143_X12_isThere l D zt r g I A L x26528 hIv) (SP.same _) (fun _ h => h) (gi_V (List.mem_cons_of_mem _ (List.mem_append_left _ (List.mem_of_getElem? (i := 1) rfl))) (List.mem_cons_of_mem _ (List.mem_append_left _ (List.mem_of_getElem? (i := 2) rfl))) (List.mem_cons_of_mem _ (List.mem_append_left _ (List.mem_of_getElem? (i := 3) rfl))) (List.mem_cons_of_mem _ (List.mem_append_left _ (List.mem_of_getElem? (i := 4) rfl))) (gi_sub (fun w h => (List.mem_cons_of_mem _ (List.mem_append_right _ (List.mem_append_right _ (List.mem_append_left _ h))))) zg_j143_X12_isThere)) rfl rfl rfl (by decide +kernel) ⟨Nat.le_of_ble_eq_true rfl, Nat.le_of_ble_eq_true rfl⟩ 0 rfl rfl rfl rfl (Nat.le_of_ble_eq_true rfl) ⟨Nat.le_of_ble_eq_true rfl, Nat.le_of_ble_eq_true rfl⟩ dX12_gaps_16 (fun v ty' w' hp hk' => ?_)
        rcases hp with ⟨rfl, rfl⟩ | ⟨c26605, c26606, c26607, c26608, c26609, rfl, rfl⟩
        · skip
          show GW κ 3 0 0 (wM r g I A L) 19 [(2, .int x26528), (1, .int x26529), (0, .ref (r 0))] [.int 0]
          refine g_if_ne (tgt := 25) (a := 0) hk dX12_gaps_19 (by decide) rfl (fun z9 => absurd z9 (show ¬ ((0 : Int) ≠ (0 : Int)) from by decide)) (fun _ => ?_)
          have b26611l := Int32.le_toInt x26529
          have b26611h := Int32.toInt_lt x26529
          obtain ⟨y26612, ey26612⟩ : ∃ y : Int32, y = x26529 + Int32.ofInt 1 := ⟨_, rfl⟩
          refine g_iinc (v := y26612) (lv' := [(1, .int y26612), (2, .int x26528), (0, .ref (r 0))]) hk 1 dX12_gaps_22 rfl ey26612.symm (by decide) rfl ?_
          obtain ⟨y26613, ey26613⟩ : ∃ y : Int32, y = x26528 + Int32.ofInt 1 := ⟨_, rfl⟩
          have hy26613 : y26613.toInt = x26528.toInt + 1 := i32_add ey26613 rfl (by decide) (by omega) (by omega)
          refine g_iinc (v := y26613) (lv' := [(2, .int y26613), (1, .int y26612), (0, .ref (r 0))]) hk 1 dX12_gaps_25 rfl ey26613.symm (by decide) rfl ?_
          refine g_goto (tgt := 4) hk dX12_gaps_28 (by decide) ?_
          have b26614l := Int32.le_toInt y26612
          have b26614h := Int32.toInt_lt y26612
          exact g_lv (List.forall_mem_cons.mpr ⟨List.mem_of_getElem? (i := 0) rfl, (List.forall_mem_cons.mpr ⟨List.mem_of_getElem? (i := 1) rfl, (List.forall_mem_cons.mpr ⟨List.mem_of_getElem? (i := 2) rfl, (fun _ h => absurd h List.not_mem_nil)⟩)⟩)⟩) (ih26600 y26613 y26612 (by omega) (by omega) (by omega) (by omega))
        · skip
          show GW κ 3 0 0 (wM r g I A L) 19 [(2, .int x26528), (1, .int x26529), (0, .ref (r 0))] [.int 1]
          refine g_if_ne (tgt := 25) (a := 1) hk dX12_gaps_19 (by decide) rfl (fun _ => ?_) (fun z9 => absurd (show (1 : Int) ≠ (0 : Int) from by decide) z9)
          obtain ⟨y26615, ey26615⟩ : ∃ y : Int32, y = x26528 + Int32.ofInt 1 := ⟨_, rfl⟩
          have hy26615 : y26615.toInt = x26528.toInt + 1 := i32_add ey26615 rfl (by decide) (by omega) (by omega)
          refine g_iinc (v := y26615) (lv' := [(2, .int y26615), (1, .int x26529), (0, .ref (r 0))]) hk 0 dX12_gaps_25 rfl ey26615.symm (by decide) rfl ?_
          refine g_goto (tgt := 4) hk dX12_gaps_28 (by decide) ?_
          have b26616l := Int32.le_toInt x26529
          have b26616h := Int32.toInt_lt x26529
          exact g_lv (List.forall_mem_cons.mpr ⟨List.mem_of_getElem? (i := 0) rfl, (List.forall_mem_cons.mpr ⟨List.mem_of_getElem? (i := 1) rfl, (List.forall_mem_cons.mpr ⟨List.mem_of_getElem? (i := 2) rfl, (fun _ h => absurd h List.not_mem_nil)⟩)⟩)⟩) (ih26600 y26615 x26529 (by omega) (by omega) (by omega) (by omega))
  have k26617 : (0 : Int32).toInt = 0 := rfl
  obtain ⟨n26618, n26618a, n26618b⟩ : ∃ n : Nat, 161 - (0 : Int32).toInt < (n : Int) ∧ 0 < n := ⟨((161 - (0 : Int32).toInt : Int)).toNat + 1, by omega, by omega⟩
  exact lp26597 n26618 0 0 (by omega) (by omega) n26618a n26618b
def wo_j217_X12_count : List Cond := [Cond.fieldLink RX12 70 "WarpDeskModel" "now" "[I", Cond.methodLink RX12 391 yX12_gaps, Cond.instanceMethod yX12_gaps, Cond.selects RX12 yX12_gaps yX12_gaps, Cond.initialized RX12, Cond.fieldLink RX12 49 "WarpDeskModel" "queries" "[I", Cond.fieldLink RX12 197 "WarpDeskModel" "live" "I", Cond.methodLink RX12 320 yX12_isThere, Cond.instanceMethod yX12_isThere, Cond.selects RX12 yX12_isThere yX12_isThere, Cond.fieldLink RX12 124 "WarpDeskModel" "taped" "I", Cond.fieldLink RX12 209 "WarpDeskModel" "undos" "I", Cond.fieldLink RX12 100 "WarpDeskModel" "isHeld" "[Z", Cond.constant RX12 239 (100000)]
def wz_j217_X12_count : List Cond := .code yX12_count cX12_count 4 (some .int) :: (wo_j217_X12_count ++ (wsX120 ++ (wz_j218_X12_gaps ++ (wz_j143_X12_isThere ++ ([] : List Cond)))))
theorem zg_j217_X12_count : ∀ w ∈ wz_j217_X12_count, goodWord w = true := zg_cons rfl (zg_app (by decide +kernel) (zg_app zgU_wsX120 (zg_app zg_j218_X12_gaps (zg_app zg_j143_X12_isThere zg_nil))))
theorem zi_j217_X12_count : ∀ w ∈ wz_j217_X12_count, w ∈ lw_tbl := zi_cons zw_1946 (zi_app (zi_cons zw_1413 (zi_cons zw_1947 (zi_cons zw_1949 (zi_cons zw_101 (zi_cons zw_115 (zi_cons zw_1406 (zi_cons zw_1400 (zi_cons zw_1648 (zi_cons zw_1650 (zi_cons zw_65 (zi_cons zw_1381 (zi_cons zw_1422 (zi_cons zw_1431 (zi_cons zw_1607 zi_nil)))))))))))))) (zi_app inX12 (zi_app zi_j218_X12_gaps (zi_app zi_j143_X12_isThere zi_nil))))
set_option maxHeartbeats 4000000 in
set_option maxRecDepth 100000 in
theorem j217_X12_count (l : Launch) (D : va_G) (zt : Nat × Nat × Nat × (Nat → Nat) × (Nat → Nat)) (r : Nat → Nat) (g : Nat → ClassId) (I : Nat → Int32) (A : Nat → Nat → Int32) (L : Nat → Nat → Int64) (z1 : Int32) (hIv : IvM I A) : GM l D zt (tyM g) yX12_count wz_j217_X12_count ({ frames := 4, cells := 0, slots := 0, locals := 86 } : Room) [.ref (r 0), .int z1] (wM r g I A L) (fun v _ w' => ∃ y0 : Int32, v = some (.int y0) ∧ w' = wM r g I A L) 0 0 := by
  refine GM.of (cc := cX12_count) (maxL := 4) (ret := (some .int)) (own := RX12) (lv := [(0, .ref (r 0)), (1, .int z1)]) (by decide) rfl rfl (Nat.le_of_ble_eq_true rfl) rfl (fun κ sz hk hR hN => ?_)
  have hin12 : ∀ w ∈ u_ws RX12 TX12 55, w ∈ wz_j217_X12_count := fun w h => (List.mem_cons_of_mem _ (List.mem_append_right _ (List.mem_append_left _ h)))
  refine g_iconst (v := 0) hk dX12_count_0 (by decide) ?_
  refine g_istore_n (lv' := [(2, .int 0), (0, .ref (r 0)), (1, .int z1)]) hk dX12_count_1 (by decide) rfl ?_
  refine g_iload_n hk dX12_count_2 rfl ?_
  by_cases c26525 : z1.toInt = 0
  · refine g_tabIn (tgt := 76) (a := 0) hk dX12_count_3 c26525 (by decide) (by decide) rfl (by decide) ?_
    refine g_aload_n hk dX12_count_76 rfl ?_
    refine gM_r0_35 hk hin12 (List.mem_cons_of_mem _ (List.mem_append_left _ (List.mem_of_getElem? (i := 0) rfl))) dX12_count_77 ?_
    refine g_iconst (v := 0) hk dX12_count_80 (by decide) ?_
    refine lM_17 (v := (A 17 0)) hk (vp_in_iff.mpr ⟨by decide, by decide⟩) rfl dX12_count_81 ?_
    have f26526 := IvM_s17_0 hIv
    exact g_iret hk hR rfl ⟨(A 17 0), rfl, rfl⟩ dX12_count_82
  by_cases c26527 : z1.toInt = 1
  · refine g_tabIn (tgt := 83) (a := 1) hk dX12_count_3 c26527 (by decide) (by decide) rfl (by decide) ?_
    refine g_aload_n hk dX12_count_83 rfl ?_
    refine g_callV (n := 0) hk (j218_X12_gaps l D zt r g I A L  hIv) (SP.same _) (fun _ h => h) (gi_V (List.mem_cons_of_mem _ (List.mem_append_left _ (List.mem_of_getElem? (i := 1) rfl))) (List.mem_cons_of_mem _ (List.mem_append_left _ (List.mem_of_getElem? (i := 2) rfl))) (List.mem_cons_of_mem _ (List.mem_append_left _ (List.mem_of_getElem? (i := 3) rfl))) (List.mem_cons_of_mem _ (List.mem_append_left _ (List.mem_of_getElem? (i := 4) rfl))) (gi_sub (fun w h => (List.mem_cons_of_mem _ (List.mem_append_right _ (List.mem_append_right _ (List.mem_append_left _ h))))) zg_j218_X12_gaps)) rfl rfl rfl (by decide +kernel) ⟨Nat.le_of_ble_eq_true rfl, Nat.le_of_ble_eq_true rfl⟩ 0 rfl rfl rfl rfl (Nat.le_of_ble_eq_true rfl) ⟨Nat.le_of_ble_eq_true rfl, Nat.le_of_ble_eq_true rfl⟩ dX12_count_84 (fun v ty' w' hp hk' => ?_)
    obtain ⟨y26619, rfl, rfl⟩ := hp
    show GW κ 4 0 0 (wM r g I A L) 87 [(2, .int 0), (0, .ref (r 0)), (1, .int z1)] [.int y26619]
    have b26620l := Int32.le_toInt y26619
    have b26620h := Int32.toInt_lt y26619
    exact g_iret hk hR rfl ⟨y26619, rfl, rfl⟩ dX12_count_87
  by_cases c26621 : z1.toInt = 2
  · refine g_tabIn (tgt := 88) (a := 2) hk dX12_count_3 c26621 (by decide) (by decide) rfl (by decide) ?_
    refine g_aload_n hk dX12_count_88 rfl ?_
    refine gM_r0_28 hk hin12 (List.mem_cons_of_mem _ (List.mem_append_left _ (List.mem_of_getElem? (i := 5) rfl))) dX12_count_89 ?_
    refine g_aload_n hk dX12_count_92 rfl ?_
    refine gM_i15 (v := (I 15)) hk hin12 (List.mem_cons_of_mem _ (List.mem_append_left _ (List.mem_of_getElem? (i := 6) rfl))) dX12_count_93 rfl ?_
    have f26622 := IvM_f15 hIv
    by_cases c26623 : (I 15).toInt = 0
    · have ec26623 : (I 15) = 0 := Int32.toInt_inj.mp c26623
      rw [ec26623]
      show GW κ 4 0 0 (wM r g I A L) 96 [(2, .int 0), (0, .ref (r 0)), (1, .int z1)] [.int 0, .ref (r 11)]
      refine lM_10 (v := (A 10 0)) hk (vp_in_iff.mpr ⟨by decide, by decide⟩) rfl dX12_count_96 ?_
      have f26624 := IvM_s10_0 hIv
      exact g_iret hk hR rfl ⟨(A 10 0), rfl, rfl⟩ dX12_count_97
    by_cases c26625 : (I 15).toInt = 1
    · have ec26625 : (I 15) = 1 := Int32.toInt_inj.mp c26625
      rw [ec26625]
      show GW κ 4 0 0 (wM r g I A L) 96 [(2, .int 0), (0, .ref (r 0)), (1, .int z1)] [.int 1, .ref (r 11)]
      refine lM_10 (v := (A 10 1)) hk (vp_in_iff.mpr ⟨by decide, by decide⟩) rfl dX12_count_96 ?_
      have f26626 := IvM_s10_1 hIv
      exact g_iret hk hR rfl ⟨(A 10 1), rfl, rfl⟩ dX12_count_97
    exfalso; omega
  by_cases c26627 : z1.toInt = 3
  · refine g_tabIn (tgt := 98) (a := 3) hk dX12_count_3 c26627 (by decide) (by decide) rfl (by decide) ?_
    refine g_aload_n hk dX12_count_98 rfl ?_
    refine gM_r0_35 hk hin12 (List.mem_cons_of_mem _ (List.mem_append_left _ (List.mem_of_getElem? (i := 0) rfl))) dX12_count_99 ?_
    refine g_sipush (v := 161) hk dX12_count_102 (by decide) ?_
    refine lM_17 (v := (A 17 161)) hk (vp_in_iff.mpr ⟨by decide, by decide⟩) rfl dX12_count_105 ?_
    have b26628l := Int32.le_toInt (A 17 161)
    have b26628h := Int32.toInt_lt (A 17 161)
    exact g_iret hk hR rfl ⟨(A 17 161), rfl, rfl⟩ dX12_count_106
  by_cases c26629 : z1.toInt = 4
  · refine g_tabIn (tgt := 107) (a := 4) hk dX12_count_3 c26629 (by decide) (by decide) rfl (by decide) ?_
    refine g_aload_n hk dX12_count_107 rfl ?_
    refine gM_r0_35 hk hin12 (List.mem_cons_of_mem _ (List.mem_append_left _ (List.mem_of_getElem? (i := 0) rfl))) dX12_count_108 ?_
    refine g_sipush (v := 162) hk dX12_count_111 (by decide) ?_
    refine lM_17 (v := (A 17 162)) hk (vp_in_iff.mpr ⟨by decide, by decide⟩) rfl dX12_count_114 ?_
    have b26630l := Int32.le_toInt (A 17 162)
    have b26630h := Int32.toInt_lt (A 17 162)
    exact g_iret hk hR rfl ⟨(A 17 162), rfl, rfl⟩ dX12_count_115
  by_cases c26631 : z1.toInt = 5
  · refine g_tabIn (tgt := 116) (a := 5) hk dX12_count_3 c26631 (by decide) (by decide) rfl (by decide) ?_
    refine g_aload_n hk dX12_count_116 rfl ?_
    refine gM_r0_35 hk hin12 (List.mem_cons_of_mem _ (List.mem_append_left _ (List.mem_of_getElem? (i := 0) rfl))) dX12_count_117 ?_
    refine g_sipush (v := 163) hk dX12_count_120 (by decide) ?_
    refine lM_17 (v := (A 17 163)) hk (vp_in_iff.mpr ⟨by decide, by decide⟩) rfl dX12_count_123 ?_
    have b26632l := Int32.le_toInt (A 17 163)
    have b26632h := Int32.toInt_lt (A 17 163)
    exact g_iret hk hR rfl ⟨(A 17 163), rfl, rfl⟩ dX12_count_124
  by_cases c26633 : z1.toInt = 6
  · refine g_tabIn (tgt := 125) (a := 6) hk dX12_count_3 c26633 (by decide) (by decide) rfl (by decide) ?_
    refine g_aload_n hk dX12_count_125 rfl ?_
    refine gM_r0_35 hk hin12 (List.mem_cons_of_mem _ (List.mem_append_left _ (List.mem_of_getElem? (i := 0) rfl))) dX12_count_126 ?_
    refine g_sipush (v := 164) hk dX12_count_129 (by decide) ?_
    refine lM_17 (v := (A 17 164)) hk (vp_in_iff.mpr ⟨by decide, by decide⟩) rfl dX12_count_132 ?_
    have f26634 := IvM_s17_164 hIv
    have b26635l := Int32.le_toInt (A 17 164)
    have b26635h := Int32.toInt_lt (A 17 164)
    exact g_iret hk hR rfl ⟨(A 17 164), rfl, rfl⟩ dX12_count_133
  by_cases c26636 : z1.toInt = 7
  · refine g_tabIn (tgt := 134) (a := 7) hk dX12_count_3 c26636 (by decide) (by decide) rfl (by decide) ?_
    have lp26654 : ∀ (n26655 : Nat) (x26637 : Int32), (0 ≤ x26637.toInt) → (x26637.toInt ≤ 160) → (161 - x26637.toInt < (n26655 : Int)) → (0 < n26655) → GW κ 4 0 0 (wM r g I A L) 134 [(2, .int x26637), (0, .ref (r 0)), (1, .int z1)] [] := by
      intro n26655
      induction n26655 with
      | zero =>
        intro x26637 h26652 h26653 m26656 m26656z
        exact absurd m26656z (Nat.lt_irrefl 0)
      | succ n26655 ih26657 =>
        intro x26637 h26652 h26653 m26656 m26656z
        refine g_aload_n hk dX12_count_134 rfl ?_
        refine g_aload_n hk dX12_count_135 rfl ?_
        refine gM_r0_35 hk hin12 (List.mem_cons_of_mem _ (List.mem_append_left _ (List.mem_of_getElem? (i := 0) rfl))) dX12_count_136 ?_
        refine g_iconst (v := 0) hk dX12_count_139 (by decide) ?_
        refine lM_17 (v := (A 17 0)) hk (vp_in_iff.mpr ⟨by decide, by decide⟩) rfl dX12_count_140 ?_
        have f26658 := IvM_s17_0 hIv
        refine g_iconst (v := 1) hk dX12_count_141 (by decide) ?_
        refine g_isub hk dX12_count_142 ?_
        refine g_topi (fun y26659 ey26659 => ?_)
        have hy26659 : y26659.toInt = (A 17 0).toInt - 1 := i32_sub ey26659 rfl rfl (by omega) (by omega)
        refine g_iload_n hk dX12_count_143 rfl ?_
        refine g_isub hk dX12_count_144 ?_
        refine g_topi (fun y26660 ey26660 => ?_)
        have hy26660 : y26660.toInt = y26659.toInt - x26637.toInt := i32_sub ey26660 rfl rfl (by omega) (by omega)
        refine g_callV (n := 1) hk (j143_X12_isThere l D zt r g I A L y26660 hIv) (SP.same _) (fun _ h => h) (gi_V (List.mem_cons_of_mem _ (List.mem_append_left _ (List.mem_of_getElem? (i := 7) rfl))) (List.mem_cons_of_mem _ (List.mem_append_left _ (List.mem_of_getElem? (i := 8) rfl))) (List.mem_cons_of_mem _ (List.mem_append_left _ (List.mem_of_getElem? (i := 9) rfl))) (List.mem_cons_of_mem _ (List.mem_append_left _ (List.mem_of_getElem? (i := 4) rfl))) (gi_sub (fun w h => (List.mem_cons_of_mem _ (List.mem_append_right _ (List.mem_append_right _ (List.mem_append_right _ (List.mem_append_left _ h)))))) zg_j143_X12_isThere)) rfl rfl rfl (by decide +kernel) ⟨Nat.le_of_ble_eq_true rfl, Nat.le_of_ble_eq_true rfl⟩ 0 rfl rfl rfl rfl (Nat.le_of_ble_eq_true rfl) ⟨Nat.le_of_ble_eq_true rfl, Nat.le_of_ble_eq_true rfl⟩ dX12_count_145 (fun v ty' w' hp hk' => ?_)
        rcases hp with ⟨rfl, rfl⟩ | ⟨c26662, c26663, c26664, c26665, c26666, rfl, rfl⟩
        · skip
          show GW κ 4 0 0 (wM r g I A L) 148 [(2, .int x26637), (0, .ref (r 0)), (1, .int z1)] [.int 0]
          refine g_if_eq (tgt := 157) (a := 0) hk dX12_count_148 (by decide) rfl (fun _ => ?_) (fun z9 => absurd (show (0 : Int) = (0 : Int) from by decide) z9)
          refine g_iload_n hk dX12_count_157 rfl ?_
          exact g_iret hk hR rfl ⟨x26637, rfl, rfl⟩ dX12_count_158
        · skip
          show GW κ 4 0 0 (wM r g I A L) 148 [(2, .int x26637), (0, .ref (r 0)), (1, .int z1)] [.int 1]
          refine g_if_eq (tgt := 157) (a := 1) hk dX12_count_148 (by decide) rfl (fun z9 => absurd z9 (show ¬ ((1 : Int) = (0 : Int)) from by decide)) (fun _ => ?_)
          obtain ⟨y26668, ey26668⟩ : ∃ y : Int32, y = x26637 + Int32.ofInt 1 := ⟨_, rfl⟩
          have hy26668 : y26668.toInt = x26637.toInt + 1 := i32_add ey26668 rfl (by decide) (by omega) (by omega)
          refine g_iinc (v := y26668) (lv' := [(2, .int y26668), (0, .ref (r 0)), (1, .int z1)]) hk 0 dX12_count_151 rfl ey26668.symm (by decide) rfl ?_
          refine g_goto (tgt := 134) hk dX12_count_154 (by decide) ?_
          exact g_lv (List.forall_mem_cons.mpr ⟨List.mem_of_getElem? (i := 0) rfl, (List.forall_mem_cons.mpr ⟨List.mem_of_getElem? (i := 1) rfl, (List.forall_mem_cons.mpr ⟨List.mem_of_getElem? (i := 2) rfl, (fun _ h => absurd h List.not_mem_nil)⟩)⟩)⟩) (ih26657 y26668 (by omega) (by omega) (by omega) (by omega))
    have k26669 : (0 : Int32).toInt = 0 := rfl
    obtain ⟨n26670, n26670a, n26670b⟩ : ∃ n : Nat, 161 - (0 : Int32).toInt < (n : Int) ∧ 0 < n := ⟨((161 - (0 : Int32).toInt : Int)).toNat + 1, by omega, by omega⟩
    exact lp26654 n26670 0 (by omega) (by omega) n26670a n26670b
  by_cases c26671 : z1.toInt = 8
  · refine g_tabIn (tgt := 159) (a := 8) hk dX12_count_3 c26671 (by decide) (by decide) rfl (by decide) ?_
    refine g_aload_n hk dX12_count_159 rfl ?_
    refine gM_i1 (v := (I 1)) hk hin12 (List.mem_cons_of_mem _ (List.mem_append_left _ (List.mem_of_getElem? (i := 10) rfl))) dX12_count_160 rfl ?_
    have f26672 := IvM_f1 hIv
    exact g_iret hk hR rfl ⟨(I 1), rfl, rfl⟩ dX12_count_163
  by_cases c26673 : z1.toInt = 9
  · refine g_tabIn (tgt := 164) (a := 9) hk dX12_count_3 c26673 (by decide) (by decide) rfl (by decide) ?_
    refine g_aload_n hk dX12_count_164 rfl ?_
    refine gM_i22 (v := (I 22)) hk hin12 (List.mem_cons_of_mem _ (List.mem_append_left _ (List.mem_of_getElem? (i := 11) rfl))) dX12_count_165 rfl ?_
    have f26674 := IvM_f22 hIv
    exact g_iret hk hR rfl ⟨(I 22), rfl, rfl⟩ dX12_count_168
  by_cases c26675 : z1.toInt = 10
  · refine g_tabIn (tgt := 169) (a := 10) hk dX12_count_3 c26675 (by decide) (by decide) rfl (by decide) ?_
    refine g_iconst (v := 0) hk dX12_count_169 (by decide) ?_
    refine g_istore_n (lv' := [(3, .int 0), (2, .int 0), (0, .ref (r 0)), (1, .int z1)]) hk dX12_count_170 (by decide) rfl ?_
    have lp26741 : ∀ (n26742 : Nat) (x26676 : Int32) (x26677 : Int32), (0 ≤ x26676.toInt) → (x26676.toInt ≤ 160) → (161 - x26676.toInt < (n26742 : Int)) → (0 < n26742) → GW κ 4 0 0 (wM r g I A L) 171 [(3, .int x26676), (2, .int x26677), (0, .ref (r 0)), (1, .int z1)] [] := by
      intro n26742
      induction n26742 with
      | zero =>
        intro x26676 x26677 h26739 h26740 m26743 m26743z
        exact absurd m26743z (Nat.lt_irrefl 0)
      | succ n26742 ih26744 =>
        intro x26676 x26677 h26739 h26740 m26743 m26743z
        refine g_iload_n hk dX12_count_171 rfl ?_
        refine g_aload_n hk dX12_count_172 rfl ?_
        refine gM_r0_35 hk hin12 (List.mem_cons_of_mem _ (List.mem_append_left _ (List.mem_of_getElem? (i := 0) rfl))) dX12_count_173 ?_
        refine g_iconst (v := 0) hk dX12_count_176 (by decide) ?_
        refine lM_17 (v := (A 17 0)) hk (vp_in_iff.mpr ⟨by decide, by decide⟩) rfl dX12_count_177 ?_
        have f26745 := IvM_s17_0 hIv
        refine g_icmp_ge (tgt := 206) (a := x26676.toInt) (b := (A 17 0).toInt) hk dX12_count_178 (by decide) rfl rfl (fun c26746 => ?_) (fun c26746 => ?_)
        · skip
          refine g_iload_n hk dX12_count_206 rfl ?_
          have b26747l := Int32.le_toInt x26677
          have b26747h := Int32.toInt_lt x26677
          exact g_iret hk hR rfl ⟨x26677, rfl, rfl⟩ dX12_count_207
        · skip
          refine g_aload_n hk dX12_count_181 rfl ?_
          refine g_iload_n hk dX12_count_182 rfl ?_
          refine g_callV (n := 1) hk (j143_X12_isThere l D zt r g I A L x26676 hIv) (SP.same _) (fun _ h => h) (gi_V (List.mem_cons_of_mem _ (List.mem_append_left _ (List.mem_of_getElem? (i := 7) rfl))) (List.mem_cons_of_mem _ (List.mem_append_left _ (List.mem_of_getElem? (i := 8) rfl))) (List.mem_cons_of_mem _ (List.mem_append_left _ (List.mem_of_getElem? (i := 9) rfl))) (List.mem_cons_of_mem _ (List.mem_append_left _ (List.mem_of_getElem? (i := 4) rfl))) (gi_sub (fun w h => (List.mem_cons_of_mem _ (List.mem_append_right _ (List.mem_append_right _ (List.mem_append_right _ (List.mem_append_left _ h)))))) zg_j143_X12_isThere)) rfl rfl rfl (by decide +kernel) ⟨Nat.le_of_ble_eq_true rfl, Nat.le_of_ble_eq_true rfl⟩ 0 rfl rfl rfl rfl (Nat.le_of_ble_eq_true rfl) ⟨Nat.le_of_ble_eq_true rfl, Nat.le_of_ble_eq_true rfl⟩ dX12_count_183 (fun v ty' w' hp hk' => ?_)
          rcases hp with ⟨rfl, rfl⟩ | ⟨c26749, c26750, c26751, c26752, c26753, rfl, rfl⟩
          · skip
            show GW κ 4 0 0 (wM r g I A L) 186 [(3, .int x26676), (2, .int x26677), (0, .ref (r 0)), (1, .int z1)] [.int 0]
            refine g_if_eq (tgt := 200) (a := 0) hk dX12_count_186 (by decide) rfl (fun _ => ?_) (fun z9 => absurd (show (0 : Int) = (0 : Int) from by decide) z9)
            obtain ⟨y26755, ey26755⟩ : ∃ y : Int32, y = x26676 + Int32.ofInt 1 := ⟨_, rfl⟩
            have hy26755 : y26755.toInt = x26676.toInt + 1 := i32_add ey26755 rfl (by decide) (by omega) (by omega)
            refine g_iinc (v := y26755) (lv' := [(3, .int y26755), (2, .int x26677), (0, .ref (r 0)), (1, .int z1)]) hk 0 dX12_count_200 rfl ey26755.symm (by decide) rfl ?_
            refine g_goto (tgt := 171) hk dX12_count_203 (by decide) ?_
            have b26756l := Int32.le_toInt x26677
            have b26756h := Int32.toInt_lt x26677
            exact g_lv (List.forall_mem_cons.mpr ⟨List.mem_of_getElem? (i := 0) rfl, (List.forall_mem_cons.mpr ⟨List.mem_of_getElem? (i := 1) rfl, (List.forall_mem_cons.mpr ⟨List.mem_of_getElem? (i := 2) rfl, (List.forall_mem_cons.mpr ⟨List.mem_of_getElem? (i := 3) rfl, (fun _ h => absurd h List.not_mem_nil)⟩)⟩)⟩)⟩) (ih26744 y26755 x26677 (by omega) (by omega) (by omega) (by omega))
          · skip
            show GW κ 4 0 0 (wM r g I A L) 186 [(3, .int x26676), (2, .int x26677), (0, .ref (r 0)), (1, .int z1)] [.int 1]
            refine g_if_eq (tgt := 200) (a := 1) hk dX12_count_186 (by decide) rfl (fun z9 => absurd z9 (show ¬ ((1 : Int) = (0 : Int)) from by decide)) (fun _ => ?_)
            refine g_iload_n hk dX12_count_189 rfl ?_
            refine g_aload_n hk dX12_count_190 rfl ?_
            refine gM_r0_35 hk hin12 (List.mem_cons_of_mem _ (List.mem_append_left _ (List.mem_of_getElem? (i := 0) rfl))) dX12_count_191 ?_
            refine g_iconst (v := 1) hk dX12_count_194 (by decide) ?_
            refine g_iload_n hk dX12_count_195 rfl ?_
            refine g_iadd hk dX12_count_196 ?_
            refine g_topi (fun y26757 ey26757 => ?_)
            have hy26757 : y26757.toInt = 1 + x26676.toInt := i32_add ey26757 rfl rfl (by omega) (by omega)
            refine lM_17 (v := (A 17 y26757.toNatClampNeg)) hk (vp_in_iff.mpr ⟨by omega, by omega⟩) rfl dX12_count_197 ?_
            have b26758l := Int32.le_toInt x26677
            have b26758h := Int32.toInt_lt x26677
            have b26759l := Int32.le_toInt (A 17 y26757.toNatClampNeg)
            have b26759h := Int32.toInt_lt (A 17 y26757.toNatClampNeg)
            refine g_iadd hk dX12_count_198 ?_
            refine g_topi (fun y26760 ey26760 => ?_)
            refine g_istore_n (lv' := [(2, .int y26760), (3, .int x26676), (0, .ref (r 0)), (1, .int z1)]) hk dX12_count_199 (by decide) rfl ?_
            obtain ⟨y26761, ey26761⟩ : ∃ y : Int32, y = x26676 + Int32.ofInt 1 := ⟨_, rfl⟩
            have hy26761 : y26761.toInt = x26676.toInt + 1 := i32_add ey26761 rfl (by decide) (by omega) (by omega)
            refine g_iinc (v := y26761) (lv' := [(3, .int y26761), (2, .int y26760), (0, .ref (r 0)), (1, .int z1)]) hk 1 dX12_count_200 rfl ey26761.symm (by decide) rfl ?_
            refine g_goto (tgt := 171) hk dX12_count_203 (by decide) ?_
            have b26762l := Int32.le_toInt y26760
            have b26762h := Int32.toInt_lt y26760
            exact g_lv (List.forall_mem_cons.mpr ⟨List.mem_of_getElem? (i := 0) rfl, (List.forall_mem_cons.mpr ⟨List.mem_of_getElem? (i := 1) rfl, (List.forall_mem_cons.mpr ⟨List.mem_of_getElem? (i := 2) rfl, (List.forall_mem_cons.mpr ⟨List.mem_of_getElem? (i := 3) rfl, (fun _ h => absurd h List.not_mem_nil)⟩)⟩)⟩)⟩) (ih26744 y26761 y26760 (by omega) (by omega) (by omega) (by omega))
    have k26763 : (0 : Int32).toInt = 0 := rfl
    obtain ⟨n26764, n26764a, n26764b⟩ : ∃ n : Nat, 161 - (0 : Int32).toInt < (n : Int) ∧ 0 < n := ⟨((161 - (0 : Int32).toInt : Int)).toNat + 1, by omega, by omega⟩
    exact lp26741 n26764 0 0 (by omega) (by omega) n26764a n26764b
  by_cases c26765 : z1.toInt = 11
  · refine g_tabIn (tgt := 208) (a := 11) hk dX12_count_3 c26765 (by decide) (by decide) rfl (by decide) ?_
    refine g_aload_n hk dX12_count_208 rfl ?_
    refine gM_r0_53 hk hin12 (List.mem_cons_of_mem _ (List.mem_append_left _ (List.mem_of_getElem? (i := 12) rfl))) dX12_count_209 ?_
    refine g_iconst (v := 0) hk dX12_count_212 (by decide) ?_
    refine lM_27 (v := (A 27 0)) hk (vp_in_iff.mpr ⟨by decide, by decide⟩) rfl dX12_count_213 ?_
    have b26766l := Int32.le_toInt (A 27 0)
    have b26766h := Int32.toInt_lt (A 27 0)
    refine g_if_eq (tgt := 221) (a := (A 27 0).toInt) hk dX12_count_214 (by decide) rfl (fun c26767 => ?_) (fun c26767 => ?_)
    · skip
      refine g_iconst (v := 0) hk dX12_count_221 (by decide) ?_
      refine g_aload_n hk dX12_count_222 rfl ?_
      refine gM_r0_53 hk hin12 (List.mem_cons_of_mem _ (List.mem_append_left _ (List.mem_of_getElem? (i := 12) rfl))) dX12_count_223 ?_
      refine g_iconst (v := 1) hk dX12_count_226 (by decide) ?_
      refine lM_27 (v := (A 27 1)) hk (vp_in_iff.mpr ⟨by decide, by decide⟩) rfl dX12_count_227 ?_
      have b26768l := Int32.le_toInt (A 27 1)
      have b26768h := Int32.toInt_lt (A 27 1)
      refine g_if_eq (tgt := 235) (a := (A 27 1).toInt) hk dX12_count_228 (by decide) rfl (fun c26769 => ?_) (fun c26769 => ?_)
      · skip
        refine g_iconst (v := 0) hk dX12_count_235 (by decide) ?_
        refine g_iadd hk dX12_count_236 ?_
        refine g_norm (v := 0) (by decide) ?_
        refine g_aload_n hk dX12_count_237 rfl ?_
        refine gM_r0_53 hk hin12 (List.mem_cons_of_mem _ (List.mem_append_left _ (List.mem_of_getElem? (i := 12) rfl))) dX12_count_238 ?_
        refine g_iconst (v := 2) hk dX12_count_241 (by decide) ?_
        refine lM_27 (v := (A 27 2)) hk (vp_in_iff.mpr ⟨by decide, by decide⟩) rfl dX12_count_242 ?_
        have b26770l := Int32.le_toInt (A 27 2)
        have b26770h := Int32.toInt_lt (A 27 2)
        refine g_if_eq (tgt := 250) (a := (A 27 2).toInt) hk dX12_count_243 (by decide) rfl (fun c26771 => ?_) (fun c26771 => ?_)
        · skip
          refine g_iconst (v := 0) hk dX12_count_250 (by decide) ?_
          refine g_iadd hk dX12_count_251 ?_
          refine g_norm (v := 0) (by decide) ?_
          exact g_iret hk hR rfl ⟨0, rfl, rfl⟩ dX12_count_252
        · skip
          refine g_iconst (v := 1) hk dX12_count_246 (by decide) ?_
          refine g_goto (tgt := 251) hk dX12_count_247 (by decide) ?_
          refine g_iadd hk dX12_count_251 ?_
          refine g_norm (v := 1) (by decide) ?_
          exact g_iret hk hR rfl ⟨1, rfl, rfl⟩ dX12_count_252
      · skip
        refine g_iconst (v := 1) hk dX12_count_231 (by decide) ?_
        refine g_goto (tgt := 236) hk dX12_count_232 (by decide) ?_
        refine g_iadd hk dX12_count_236 ?_
        refine g_norm (v := 1) (by decide) ?_
        refine g_aload_n hk dX12_count_237 rfl ?_
        refine gM_r0_53 hk hin12 (List.mem_cons_of_mem _ (List.mem_append_left _ (List.mem_of_getElem? (i := 12) rfl))) dX12_count_238 ?_
        refine g_iconst (v := 2) hk dX12_count_241 (by decide) ?_
        refine lM_27 (v := (A 27 2)) hk (vp_in_iff.mpr ⟨by decide, by decide⟩) rfl dX12_count_242 ?_
        have b26772l := Int32.le_toInt (A 27 2)
        have b26772h := Int32.toInt_lt (A 27 2)
        refine g_if_eq (tgt := 250) (a := (A 27 2).toInt) hk dX12_count_243 (by decide) rfl (fun c26773 => ?_) (fun c26773 => ?_)
        · skip
          refine g_iconst (v := 0) hk dX12_count_250 (by decide) ?_
          refine g_iadd hk dX12_count_251 ?_
          refine g_norm (v := 1) (by decide) ?_
          exact g_iret hk hR rfl ⟨1, rfl, rfl⟩ dX12_count_252
        · skip
          refine g_iconst (v := 1) hk dX12_count_246 (by decide) ?_
          refine g_goto (tgt := 251) hk dX12_count_247 (by decide) ?_
          refine g_iadd hk dX12_count_251 ?_
          refine g_norm (v := 2) (by decide) ?_
          exact g_iret hk hR rfl ⟨2, rfl, rfl⟩ dX12_count_252
    · skip
      refine g_iconst (v := 1) hk dX12_count_217 (by decide) ?_
      refine g_goto (tgt := 222) hk dX12_count_218 (by decide) ?_
      refine g_aload_n hk dX12_count_222 rfl ?_
      refine gM_r0_53 hk hin12 (List.mem_cons_of_mem _ (List.mem_append_left _ (List.mem_of_getElem? (i := 12) rfl))) dX12_count_223 ?_
      refine g_iconst (v := 1) hk dX12_count_226 (by decide) ?_
      refine lM_27 (v := (A 27 1)) hk (vp_in_iff.mpr ⟨by decide, by decide⟩) rfl dX12_count_227 ?_
      have b26774l := Int32.le_toInt (A 27 1)
      have b26774h := Int32.toInt_lt (A 27 1)
      refine g_if_eq (tgt := 235) (a := (A 27 1).toInt) hk dX12_count_228 (by decide) rfl (fun c26775 => ?_) (fun c26775 => ?_)
      · skip
        refine g_iconst (v := 0) hk dX12_count_235 (by decide) ?_
        refine g_iadd hk dX12_count_236 ?_
        refine g_norm (v := 1) (by decide) ?_
        refine g_aload_n hk dX12_count_237 rfl ?_
        refine gM_r0_53 hk hin12 (List.mem_cons_of_mem _ (List.mem_append_left _ (List.mem_of_getElem? (i := 12) rfl))) dX12_count_238 ?_
        refine g_iconst (v := 2) hk dX12_count_241 (by decide) ?_
        refine lM_27 (v := (A 27 2)) hk (vp_in_iff.mpr ⟨by decide, by decide⟩) rfl dX12_count_242 ?_
        have b26776l := Int32.le_toInt (A 27 2)
        have b26776h := Int32.toInt_lt (A 27 2)
        refine g_if_eq (tgt := 250) (a := (A 27 2).toInt) hk dX12_count_243 (by decide) rfl (fun c26777 => ?_) (fun c26777 => ?_)
        · skip
          refine g_iconst (v := 0) hk dX12_count_250 (by decide) ?_
          refine g_iadd hk dX12_count_251 ?_
          refine g_norm (v := 1) (by decide) ?_
          exact g_iret hk hR rfl ⟨1, rfl, rfl⟩ dX12_count_252
        · skip
          refine g_iconst (v := 1) hk dX12_count_246 (by decide) ?_
          refine g_goto (tgt := 251) hk dX12_count_247 (by decide) ?_
          refine g_iadd hk dX12_count_251 ?_
          refine g_norm (v := 2) (by decide) ?_
          exact g_iret hk hR rfl ⟨2, rfl, rfl⟩ dX12_count_252
      · skip
        refine g_iconst (v := 1) hk dX12_count_231 (by decide) ?_
        refine g_goto (tgt := 236) hk dX12_count_232 (by decide) ?_
        refine g_iadd hk dX12_count_236 ?_
        refine g_norm (v := 2) (by decide) ?_
        refine g_aload_n hk dX12_count_237 rfl ?_
        refine gM_r0_53 hk hin12 (List.mem_cons_of_mem _ (List.mem_append_left _ (List.mem_of_getElem? (i := 12) rfl))) dX12_count_238 ?_
        refine g_iconst (v := 2) hk dX12_count_241 (by decide) ?_
        refine lM_27 (v := (A 27 2)) hk (vp_in_iff.mpr ⟨by decide, by decide⟩) rfl dX12_count_242 ?_
        have b26778l := Int32.le_toInt (A 27 2)
        have b26778h := Int32.toInt_lt (A 27 2)
        refine g_if_eq (tgt := 250) (a := (A 27 2).toInt) hk dX12_count_243 (by decide) rfl (fun c26779 => ?_) (fun c26779 => ?_)
        · skip
          refine g_iconst (v := 0) hk dX12_count_250 (by decide) ?_
          refine g_iadd hk dX12_count_251 ?_
          refine g_norm (v := 2) (by decide) ?_
          exact g_iret hk hR rfl ⟨2, rfl, rfl⟩ dX12_count_252
        · skip
          refine g_iconst (v := 1) hk dX12_count_246 (by decide) ?_
          refine g_goto (tgt := 251) hk dX12_count_247 (by decide) ?_
          refine g_iadd hk dX12_count_251 ?_
          refine g_norm (v := 3) (by decide) ?_
          exact g_iret hk hR rfl ⟨3, rfl, rfl⟩ dX12_count_252
  by_cases c26780 : z1.toInt = 12
  · refine g_tabIn (tgt := 253) (a := 12) hk dX12_count_3 c26780 (by decide) (by decide) rfl (by decide) ?_
    refine g_sipush (v := (-1000)) hk dX12_count_253 (by decide) ?_
    refine g_istore_n (lv' := [(2, .int (-1000)), (0, .ref (r 0)), (1, .int z1)]) hk dX12_count_256 (by decide) rfl ?_
    refine g_iconst (v := 0) hk dX12_count_257 (by decide) ?_
    refine g_istore_n (lv' := [(3, .int 0), (2, .int (-1000)), (0, .ref (r 0)), (1, .int z1)]) hk dX12_count_258 (by decide) rfl ?_
    have lp26852 : ∀ (n26853 : Nat) (x26781 : Int32) (x26782 : Int32), (0 ≤ x26781.toInt) → (x26781.toInt ≤ 160) → (161 - x26781.toInt < (n26853 : Int)) → (0 < n26853) → GW κ 4 0 0 (wM r g I A L) 259 [(3, .int x26781), (2, .int x26782), (0, .ref (r 0)), (1, .int z1)] [] := by
      intro n26853
      induction n26853 with
      | zero =>
        intro x26781 x26782 h26850 h26851 m26854 m26854z
        exact absurd m26854z (Nat.lt_irrefl 0)
      | succ n26853 ih26855 =>
        intro x26781 x26782 h26850 h26851 m26854 m26854z
        refine g_iload_n hk dX12_count_259 rfl ?_
        refine g_aload_n hk dX12_count_260 rfl ?_
        refine gM_r0_35 hk hin12 (List.mem_cons_of_mem _ (List.mem_append_left _ (List.mem_of_getElem? (i := 0) rfl))) dX12_count_261 ?_
        refine g_iconst (v := 0) hk dX12_count_264 (by decide) ?_
        refine lM_17 (v := (A 17 0)) hk (vp_in_iff.mpr ⟨by decide, by decide⟩) rfl dX12_count_265 ?_
        have f26856 := IvM_s17_0 hIv
        refine g_icmp_ge (tgt := 304) (a := x26781.toInt) (b := (A 17 0).toInt) hk dX12_count_266 (by decide) rfl rfl (fun c26857 => ?_) (fun c26857 => ?_)
        · skip
          refine g_iload_n hk dX12_count_304 rfl ?_
          have b26858l := Int32.le_toInt x26782
          have b26858h := Int32.toInt_lt x26782
          exact g_iret hk hR rfl ⟨x26782, rfl, rfl⟩ dX12_count_305
        · skip
          refine g_aload_n hk dX12_count_269 rfl ?_
          refine g_iload_n hk dX12_count_270 rfl ?_
          refine g_callV (n := 1) hk (j143_X12_isThere l D zt r g I A L x26781 hIv) (SP.same _) (fun _ h => h) (gi_V (List.mem_cons_of_mem _ (List.mem_append_left _ (List.mem_of_getElem? (i := 7) rfl))) (List.mem_cons_of_mem _ (List.mem_append_left _ (List.mem_of_getElem? (i := 8) rfl))) (List.mem_cons_of_mem _ (List.mem_append_left _ (List.mem_of_getElem? (i := 9) rfl))) (List.mem_cons_of_mem _ (List.mem_append_left _ (List.mem_of_getElem? (i := 4) rfl))) (gi_sub (fun w h => (List.mem_cons_of_mem _ (List.mem_append_right _ (List.mem_append_right _ (List.mem_append_right _ (List.mem_append_left _ h)))))) zg_j143_X12_isThere)) rfl rfl rfl (by decide +kernel) ⟨Nat.le_of_ble_eq_true rfl, Nat.le_of_ble_eq_true rfl⟩ 0 rfl rfl rfl rfl (Nat.le_of_ble_eq_true rfl) ⟨Nat.le_of_ble_eq_true rfl, Nat.le_of_ble_eq_true rfl⟩ dX12_count_271 (fun v ty' w' hp hk' => ?_)
          rcases hp with ⟨rfl, rfl⟩ | ⟨c26860, c26861, c26862, c26863, c26864, rfl, rfl⟩
          · skip
            show GW κ 4 0 0 (wM r g I A L) 274 [(3, .int x26781), (2, .int x26782), (0, .ref (r 0)), (1, .int z1)] [.int 0]
            refine g_if_eq (tgt := 298) (a := 0) hk dX12_count_274 (by decide) rfl (fun _ => ?_) (fun z9 => absurd (show (0 : Int) = (0 : Int) from by decide) z9)
            obtain ⟨y26866, ey26866⟩ : ∃ y : Int32, y = x26781 + Int32.ofInt 1 := ⟨_, rfl⟩
            have hy26866 : y26866.toInt = x26781.toInt + 1 := i32_add ey26866 rfl (by decide) (by omega) (by omega)
            refine g_iinc (v := y26866) (lv' := [(3, .int y26866), (2, .int x26782), (0, .ref (r 0)), (1, .int z1)]) hk 0 dX12_count_298 rfl ey26866.symm (by decide) rfl ?_
            refine g_goto (tgt := 259) hk dX12_count_301 (by decide) ?_
            have b26867l := Int32.le_toInt x26782
            have b26867h := Int32.toInt_lt x26782
            exact g_lv (List.forall_mem_cons.mpr ⟨List.mem_of_getElem? (i := 0) rfl, (List.forall_mem_cons.mpr ⟨List.mem_of_getElem? (i := 1) rfl, (List.forall_mem_cons.mpr ⟨List.mem_of_getElem? (i := 2) rfl, (List.forall_mem_cons.mpr ⟨List.mem_of_getElem? (i := 3) rfl, (fun _ h => absurd h List.not_mem_nil)⟩)⟩)⟩)⟩) (ih26855 y26866 x26782 (by omega) (by omega) (by omega) (by omega))
          · skip
            show GW κ 4 0 0 (wM r g I A L) 274 [(3, .int x26781), (2, .int x26782), (0, .ref (r 0)), (1, .int z1)] [.int 1]
            refine g_if_eq (tgt := 298) (a := 1) hk dX12_count_274 (by decide) rfl (fun z9 => absurd z9 (show ¬ ((1 : Int) = (0 : Int)) from by decide)) (fun _ => ?_)
            refine g_aload_n hk dX12_count_277 rfl ?_
            refine gM_r0_35 hk hin12 (List.mem_cons_of_mem _ (List.mem_append_left _ (List.mem_of_getElem? (i := 0) rfl))) dX12_count_278 ?_
            refine g_iconst (v := 1) hk dX12_count_281 (by decide) ?_
            refine g_iload_n hk dX12_count_282 rfl ?_
            refine g_iadd hk dX12_count_283 ?_
            refine g_topi (fun y26868 ey26868 => ?_)
            have hy26868 : y26868.toInt = 1 + x26781.toInt := i32_add ey26868 rfl rfl (by omega) (by omega)
            refine lM_17 (v := (A 17 y26868.toNatClampNeg)) hk (vp_in_iff.mpr ⟨by omega, by omega⟩) rfl dX12_count_284 ?_
            refine g_iload_n hk dX12_count_285 rfl ?_
            have b26869l := Int32.le_toInt (A 17 y26868.toNatClampNeg)
            have b26869h := Int32.toInt_lt (A 17 y26868.toNatClampNeg)
            have b26870l := Int32.le_toInt x26782
            have b26870h := Int32.toInt_lt x26782
            refine g_icmp_le (tgt := 298) (a := (A 17 y26868.toNatClampNeg).toInt) (b := x26782.toInt) hk dX12_count_286 (by decide) rfl rfl (fun c26871 => ?_) (fun c26871 => ?_)
            · skip
              obtain ⟨y26872, ey26872⟩ : ∃ y : Int32, y = x26781 + Int32.ofInt 1 := ⟨_, rfl⟩
              have hy26872 : y26872.toInt = x26781.toInt + 1 := i32_add ey26872 rfl (by decide) (by omega) (by omega)
              refine g_iinc (v := y26872) (lv' := [(3, .int y26872), (2, .int x26782), (0, .ref (r 0)), (1, .int z1)]) hk 0 dX12_count_298 rfl ey26872.symm (by decide) rfl ?_
              refine g_goto (tgt := 259) hk dX12_count_301 (by decide) ?_
              exact g_lv (List.forall_mem_cons.mpr ⟨List.mem_of_getElem? (i := 0) rfl, (List.forall_mem_cons.mpr ⟨List.mem_of_getElem? (i := 1) rfl, (List.forall_mem_cons.mpr ⟨List.mem_of_getElem? (i := 2) rfl, (List.forall_mem_cons.mpr ⟨List.mem_of_getElem? (i := 3) rfl, (fun _ h => absurd h List.not_mem_nil)⟩)⟩)⟩)⟩) (ih26855 y26872 x26782 (by omega) (by omega) (by omega) (by omega))
            · skip
              refine g_aload_n hk dX12_count_289 rfl ?_
              refine gM_r0_35 hk hin12 (List.mem_cons_of_mem _ (List.mem_append_left _ (List.mem_of_getElem? (i := 0) rfl))) dX12_count_290 ?_
              refine g_iconst (v := 1) hk dX12_count_293 (by decide) ?_
              refine g_iload_n hk dX12_count_294 rfl ?_
              refine g_iadd hk dX12_count_295 ?_
              refine g_topi (fun y26873 ey26873 => ?_)
              have hy26873 : y26873.toInt = 1 + x26781.toInt := i32_add ey26873 rfl rfl (by omega) (by omega)
              refine lM_17 (v := (A 17 y26873.toNatClampNeg)) hk (vp_in_iff.mpr ⟨by omega, by omega⟩) rfl dX12_count_296 ?_
              refine g_istore_n (lv' := [(2, .int (A 17 y26873.toNatClampNeg)), (3, .int x26781), (0, .ref (r 0)), (1, .int z1)]) hk dX12_count_297 (by decide) rfl ?_
              obtain ⟨y26874, ey26874⟩ : ∃ y : Int32, y = x26781 + Int32.ofInt 1 := ⟨_, rfl⟩
              have hy26874 : y26874.toInt = x26781.toInt + 1 := i32_add ey26874 rfl (by decide) (by omega) (by omega)
              refine g_iinc (v := y26874) (lv' := [(3, .int y26874), (2, .int (A 17 y26873.toNatClampNeg)), (0, .ref (r 0)), (1, .int z1)]) hk 1 dX12_count_298 rfl ey26874.symm (by decide) rfl ?_
              refine g_goto (tgt := 259) hk dX12_count_301 (by decide) ?_
              have b26875l := Int32.le_toInt (A 17 y26873.toNatClampNeg)
              have b26875h := Int32.toInt_lt (A 17 y26873.toNatClampNeg)
              exact g_lv (List.forall_mem_cons.mpr ⟨List.mem_of_getElem? (i := 0) rfl, (List.forall_mem_cons.mpr ⟨List.mem_of_getElem? (i := 1) rfl, (List.forall_mem_cons.mpr ⟨List.mem_of_getElem? (i := 2) rfl, (List.forall_mem_cons.mpr ⟨List.mem_of_getElem? (i := 3) rfl, (fun _ h => absurd h List.not_mem_nil)⟩)⟩)⟩)⟩) (ih26855 y26874 (A 17 y26873.toNatClampNeg) (by omega) (by omega) (by omega) (by omega))
    have k26876 : (0 : Int32).toInt = 0 := rfl
    have k26877 : ((-1000) : Int32).toInt = (-1000) := rfl
    obtain ⟨n26878, n26878a, n26878b⟩ : ∃ n : Nat, 161 - (0 : Int32).toInt < (n : Int) ∧ 0 < n := ⟨((161 - (0 : Int32).toInt : Int)).toNat + 1, by omega, by omega⟩
    exact lp26852 n26878 0 (-1000) (by omega) (by omega) n26878a n26878b
  by_cases c26879 : z1.toInt = 13
  · refine g_tabIn (tgt := 306) (a := 13) hk dX12_count_3 c26879 (by decide) (by decide) rfl (by decide) ?_
    refine g_ldc (v := 100000) hk (List.mem_cons_of_mem _ (List.mem_append_left _ (List.mem_of_getElem? (i := 13) rfl))) dX12_count_306 ?_
    refine g_istore_n (lv' := [(2, .int 100000), (0, .ref (r 0)), (1, .int z1)]) hk dX12_count_308 (by decide) rfl ?_
    refine g_iconst (v := 0) hk dX12_count_309 (by decide) ?_
    refine g_istore_n (lv' := [(3, .int 0), (2, .int 100000), (0, .ref (r 0)), (1, .int z1)]) hk dX12_count_310 (by decide) rfl ?_
    have lp26925 : ∀ (n26926 : Nat) (x26880 : Int32) (x26881 : Int32), (0 ≤ x26880.toInt) → (x26880.toInt ≤ 160) → (161 - x26880.toInt < (n26926 : Int)) → (0 < n26926) → GW κ 4 0 0 (wM r g I A L) 311 [(3, .int x26880), (2, .int x26881), (0, .ref (r 0)), (1, .int z1)] [] := by
      intro n26926
      induction n26926 with
      | zero =>
        intro x26880 x26881 h26923 h26924 m26927 m26927z
        exact absurd m26927z (Nat.lt_irrefl 0)
      | succ n26926 ih26928 =>
        intro x26880 x26881 h26923 h26924 m26927 m26927z
        refine g_iload_n hk dX12_count_311 rfl ?_
        refine g_aload_n hk dX12_count_312 rfl ?_
        refine gM_r0_35 hk hin12 (List.mem_cons_of_mem _ (List.mem_append_left _ (List.mem_of_getElem? (i := 0) rfl))) dX12_count_313 ?_
        refine g_iconst (v := 0) hk dX12_count_316 (by decide) ?_
        refine lM_17 (v := (A 17 0)) hk (vp_in_iff.mpr ⟨by decide, by decide⟩) rfl dX12_count_317 ?_
        have f26929 := IvM_s17_0 hIv
        refine g_icmp_ge (tgt := 348) (a := x26880.toInt) (b := (A 17 0).toInt) hk dX12_count_318 (by decide) rfl rfl (fun c26930 => ?_) (fun c26930 => ?_)
        · skip
          refine g_iload_n hk dX12_count_348 rfl ?_
          refine g_ldc (v := 100000) hk (List.mem_cons_of_mem _ (List.mem_append_left _ (List.mem_of_getElem? (i := 13) rfl))) dX12_count_349 ?_
          have b26931l := Int32.le_toInt x26881
          have b26931h := Int32.toInt_lt x26881
          refine g_icmp_ne (tgt := 360) (a := x26881.toInt) (b := 100000) hk dX12_count_351 (by decide) rfl rfl (fun c26932 => ?_) (fun c26932 => ?_)
          · skip
            refine g_iload_n hk dX12_count_360 rfl ?_
            exact g_iret hk hR rfl ⟨x26881, rfl, rfl⟩ dX12_count_361
          · skip
            refine g_sipush (v := (-1000)) hk dX12_count_354 (by decide) ?_
            refine g_goto (tgt := 361) hk dX12_count_357 (by decide) ?_
            exact g_iret hk hR rfl ⟨(-1000), rfl, rfl⟩ dX12_count_361
        · skip
          refine g_aload_n hk dX12_count_321 rfl ?_
          refine gM_r0_35 hk hin12 (List.mem_cons_of_mem _ (List.mem_append_left _ (List.mem_of_getElem? (i := 0) rfl))) dX12_count_322 ?_
          refine g_iconst (v := 1) hk dX12_count_325 (by decide) ?_
          refine g_iload_n hk dX12_count_326 rfl ?_
          refine g_iadd hk dX12_count_327 ?_
          refine g_topi (fun y26933 ey26933 => ?_)
          have hy26933 : y26933.toInt = 1 + x26880.toInt := i32_add ey26933 rfl rfl (by omega) (by omega)
          refine lM_17 (v := (A 17 y26933.toNatClampNeg)) hk (vp_in_iff.mpr ⟨by omega, by omega⟩) rfl dX12_count_328 ?_
          refine g_iload_n hk dX12_count_329 rfl ?_
          have b26934l := Int32.le_toInt (A 17 y26933.toNatClampNeg)
          have b26934h := Int32.toInt_lt (A 17 y26933.toNatClampNeg)
          have b26935l := Int32.le_toInt x26881
          have b26935h := Int32.toInt_lt x26881
          refine g_icmp_ge (tgt := 342) (a := (A 17 y26933.toNatClampNeg).toInt) (b := x26881.toInt) hk dX12_count_330 (by decide) rfl rfl (fun c26936 => ?_) (fun c26936 => ?_)
          · skip
            obtain ⟨y26937, ey26937⟩ : ∃ y : Int32, y = x26880 + Int32.ofInt 1 := ⟨_, rfl⟩
            have hy26937 : y26937.toInt = x26880.toInt + 1 := i32_add ey26937 rfl (by decide) (by omega) (by omega)
            refine g_iinc (v := y26937) (lv' := [(3, .int y26937), (2, .int x26881), (0, .ref (r 0)), (1, .int z1)]) hk 0 dX12_count_342 rfl ey26937.symm (by decide) rfl ?_
            refine g_goto (tgt := 311) hk dX12_count_345 (by decide) ?_
            exact g_lv (List.forall_mem_cons.mpr ⟨List.mem_of_getElem? (i := 0) rfl, (List.forall_mem_cons.mpr ⟨List.mem_of_getElem? (i := 1) rfl, (List.forall_mem_cons.mpr ⟨List.mem_of_getElem? (i := 2) rfl, (List.forall_mem_cons.mpr ⟨List.mem_of_getElem? (i := 3) rfl, (fun _ h => absurd h List.not_mem_nil)⟩)⟩)⟩)⟩) (ih26928 y26937 x26881 (by omega) (by omega) (by omega) (by omega))
          · skip
            refine g_aload_n hk dX12_count_333 rfl ?_
            refine gM_r0_35 hk hin12 (List.mem_cons_of_mem _ (List.mem_append_left _ (List.mem_of_getElem? (i := 0) rfl))) dX12_count_334 ?_
            refine g_iconst (v := 1) hk dX12_count_337 (by decide) ?_
            refine g_iload_n hk dX12_count_338 rfl ?_
            refine g_iadd hk dX12_count_339 ?_
            refine g_topi (fun y26938 ey26938 => ?_)
            have hy26938 : y26938.toInt = 1 + x26880.toInt := i32_add ey26938 rfl rfl (by omega) (by omega)
            refine lM_17 (v := (A 17 y26938.toNatClampNeg)) hk (vp_in_iff.mpr ⟨by omega, by omega⟩) rfl dX12_count_340 ?_
            refine g_istore_n (lv' := [(2, .int (A 17 y26938.toNatClampNeg)), (3, .int x26880), (0, .ref (r 0)), (1, .int z1)]) hk dX12_count_341 (by decide) rfl ?_
            obtain ⟨y26939, ey26939⟩ : ∃ y : Int32, y = x26880 + Int32.ofInt 1 := ⟨_, rfl⟩
            have hy26939 : y26939.toInt = x26880.toInt + 1 := i32_add ey26939 rfl (by decide) (by omega) (by omega)
            refine g_iinc (v := y26939) (lv' := [(3, .int y26939), (2, .int (A 17 y26938.toNatClampNeg)), (0, .ref (r 0)), (1, .int z1)]) hk 1 dX12_count_342 rfl ey26939.symm (by decide) rfl ?_
            refine g_goto (tgt := 311) hk dX12_count_345 (by decide) ?_
            have b26940l := Int32.le_toInt (A 17 y26938.toNatClampNeg)
            have b26940h := Int32.toInt_lt (A 17 y26938.toNatClampNeg)
            exact g_lv (List.forall_mem_cons.mpr ⟨List.mem_of_getElem? (i := 0) rfl, (List.forall_mem_cons.mpr ⟨List.mem_of_getElem? (i := 1) rfl, (List.forall_mem_cons.mpr ⟨List.mem_of_getElem? (i := 2) rfl, (List.forall_mem_cons.mpr ⟨List.mem_of_getElem? (i := 3) rfl, (fun _ h => absurd h List.not_mem_nil)⟩)⟩)⟩)⟩) (ih26928 y26939 (A 17 y26938.toNatClampNeg) (by omega) (by omega) (by omega) (by omega))
    have k26941 : (0 : Int32).toInt = 0 := rfl
    have k26942 : (100000 : Int32).toInt = 100000 := rfl
    obtain ⟨n26943, n26943a, n26943b⟩ : ∃ n : Nat, 161 - (0 : Int32).toInt < (n : Int) ∧ 0 < n := ⟨((161 - (0 : Int32).toInt : Int)).toNat + 1, by omega, by omega⟩
    exact lp26925 n26943 0 100000 (by omega) (by omega) n26943a n26943b
  by_cases c26944 : z1.toInt = 14
  · refine g_tabIn (tgt := 362) (a := 14) hk dX12_count_3 c26944 (by decide) (by decide) rfl (by decide) ?_
    have lp26959 : ∀ (n26960 : Nat) (x26945 : Int32), (0 ≤ x26945.toInt) → (x26945.toInt ≤ 160) → (161 - x26945.toInt < (n26960 : Int)) → (0 < n26960) → GW κ 4 0 0 (wM r g I A L) 362 [(2, .int x26945), (0, .ref (r 0)), (1, .int z1)] [] := by
      intro n26960
      induction n26960 with
      | zero =>
        intro x26945 h26957 h26958 m26961 m26961z
        exact absurd m26961z (Nat.lt_irrefl 0)
      | succ n26960 ih26962 =>
        intro x26945 h26957 h26958 m26961 m26961z
        refine g_aload_n hk dX12_count_362 rfl ?_
        refine g_iload_n hk dX12_count_363 rfl ?_
        refine g_callV (n := 1) hk (j143_X12_isThere l D zt r g I A L x26945 hIv) (SP.same _) (fun _ h => h) (gi_V (List.mem_cons_of_mem _ (List.mem_append_left _ (List.mem_of_getElem? (i := 7) rfl))) (List.mem_cons_of_mem _ (List.mem_append_left _ (List.mem_of_getElem? (i := 8) rfl))) (List.mem_cons_of_mem _ (List.mem_append_left _ (List.mem_of_getElem? (i := 9) rfl))) (List.mem_cons_of_mem _ (List.mem_append_left _ (List.mem_of_getElem? (i := 4) rfl))) (gi_sub (fun w h => (List.mem_cons_of_mem _ (List.mem_append_right _ (List.mem_append_right _ (List.mem_append_right _ (List.mem_append_left _ h)))))) zg_j143_X12_isThere)) rfl rfl rfl (by decide +kernel) ⟨Nat.le_of_ble_eq_true rfl, Nat.le_of_ble_eq_true rfl⟩ 0 rfl rfl rfl rfl (Nat.le_of_ble_eq_true rfl) ⟨Nat.le_of_ble_eq_true rfl, Nat.le_of_ble_eq_true rfl⟩ dX12_count_364 (fun v ty' w' hp hk' => ?_)
        rcases hp with ⟨rfl, rfl⟩ | ⟨c26964, c26965, c26966, c26967, c26968, rfl, rfl⟩
        · skip
          show GW κ 4 0 0 (wM r g I A L) 367 [(2, .int x26945), (0, .ref (r 0)), (1, .int z1)] [.int 0]
          refine g_if_eq (tgt := 376) (a := 0) hk dX12_count_367 (by decide) rfl (fun _ => ?_) (fun z9 => absurd (show (0 : Int) = (0 : Int) from by decide) z9)
          refine g_iload_n hk dX12_count_376 rfl ?_
          exact g_iret hk hR rfl ⟨x26945, rfl, rfl⟩ dX12_count_377
        · skip
          show GW κ 4 0 0 (wM r g I A L) 367 [(2, .int x26945), (0, .ref (r 0)), (1, .int z1)] [.int 1]
          refine g_if_eq (tgt := 376) (a := 1) hk dX12_count_367 (by decide) rfl (fun z9 => absurd z9 (show ¬ ((1 : Int) = (0 : Int)) from by decide)) (fun _ => ?_)
          obtain ⟨y26970, ey26970⟩ : ∃ y : Int32, y = x26945 + Int32.ofInt 1 := ⟨_, rfl⟩
          have hy26970 : y26970.toInt = x26945.toInt + 1 := i32_add ey26970 rfl (by decide) (by omega) (by omega)
          refine g_iinc (v := y26970) (lv' := [(2, .int y26970), (0, .ref (r 0)), (1, .int z1)]) hk 0 dX12_count_370 rfl ey26970.symm (by decide) rfl ?_
          refine g_goto (tgt := 362) hk dX12_count_373 (by decide) ?_
          exact g_lv (List.forall_mem_cons.mpr ⟨List.mem_of_getElem? (i := 0) rfl, (List.forall_mem_cons.mpr ⟨List.mem_of_getElem? (i := 1) rfl, (List.forall_mem_cons.mpr ⟨List.mem_of_getElem? (i := 2) rfl, (fun _ h => absurd h List.not_mem_nil)⟩)⟩)⟩) (ih26962 y26970 (by omega) (by omega) (by omega) (by omega))
    have k26971 : (0 : Int32).toInt = 0 := rfl
    obtain ⟨n26972, n26972a, n26972b⟩ : ∃ n : Nat, 161 - (0 : Int32).toInt < (n : Int) ∧ 0 < n := ⟨((161 - (0 : Int32).toInt : Int)).toNat + 1, by omega, by omega⟩
    exact lp26959 n26972 0 (by omega) (by omega) n26972a n26972b
  refine g_tabOut (tgt := 378) (a := z1.toInt) hk dX12_count_3 rfl (by omega) (by decide) ?_
  refine g_iconst (v := (-1)) hk dX12_count_378 (by decide) ?_
  exact g_iret hk hR rfl ⟨(-1), rfl, rfl⟩ dX12_count_379
